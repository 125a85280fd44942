/-! clash, unlike, meant: the answers alike -/
theorem b6_and (x y : Int64) (i : Nat) : b6 (x &&& y) i = (b6 x i && b6 y i) := by
  unfold b6
  rw [Int64.toBitVec_and, BitVec.getLsbD_and]
theorem lb_both {a b c : Nat} {s : vS} (hab : ¬ b = a) (hac : ¬ c = a) : ∃ t, f_Cs_takeBoth a b c s = some ((), t) ∧ t.1 = s.1 ∧ (∀ d j, ¬ d = a → t.2 d j = s.2 d j) ∧ ∀ i, lb t a i = (lb s b i && lb s c i) := by
  have h0 : (v_w2 (v_w2 s a 0 (s.2 b 0 &&& s.2 c 0)) a 1 (s.2 b 1 &&& s.2 c 1)).2 a 0 = s.2 b 0 &&& s.2 c 0 := by rw [v_w2_2, if_neg (fun z => absurd z.2 (by decide)), v_w2_2, if_pos ⟨rfl, rfl⟩]
  have h1 : (v_w2 (v_w2 s a 0 (s.2 b 0 &&& s.2 c 0)) a 1 (s.2 b 1 &&& s.2 c 1)).2 a 1 = s.2 b 1 &&& s.2 c 1 := by rw [v_w2_2, if_pos ⟨rfl, rfl⟩]
  have e : f_Cs_takeBoth a b c s = some ((), v_w2 (v_w2 s a 0 (s.2 b 0 &&& s.2 c 0)) a 1 (s.2 b 1 &&& s.2 c 1)) := by
    unfold f_Cs_takeBoth
    show some ((), v_w2 (v_w2 s a 0 (s.2 b 0 &&& s.2 c 0)) a 1 ((v_w2 s a 0 (s.2 b 0 &&& s.2 c 0)).2 b 1 &&& (v_w2 s a 0 (s.2 b 0 &&& s.2 c 0)).2 c 1)) = _
    rw [v_w2_2, if_neg (fun z => hab z.1), v_w2_2, if_neg (fun z => hac z.1)]
  refine ⟨_, e, rfl, fun d j hd => ?_, fun i => ?_⟩
  · rw [v_w2_2, if_neg (fun z => hd z.1), v_w2_2, if_neg (fun z => hd z.1)]
  · unfold lb
    rw [h0, h1, b6_and, b6_and]
    by_cases h : i < 64
    · rw [if_pos h, if_pos h, if_pos h]
    · rw [if_neg h, if_neg h, if_neg h]
theorem Lst_co {p q : Nat → Bool} {lo : Nat} {o : Option Nat} (h : Lst p lo o) (hpq : ∀ i, i < 125 → p i = q i) : Lst q lo o := by
  cases o with
  | none => exact fun i h1 h2 => by rw [← hpq i h2]; exact h i h1 h2
  | some i => exact ⟨h.1, h.2.1, by rw [← hpq i h.2.1]; exact h.2.2.1, fun j h1 h2 => by rw [← hpq j (by have := h.2.1; omega)]; exact h.2.2.2 j h1 h2⟩
theorem y_either (c : Int32) (s : vS) : f_Ol_isEither c s = some (v_b (c.toInt = 0 ∨ c.toInt = 1), s) := by
  unfold f_Ol_isEither
  by_cases h0 : c.toInt = 0
  · rw [if_pos h0, v_b_pos (Or.inl h0)]
  · rw [if_neg h0]
    by_cases h1 : c.toInt = 1
    · rw [if_pos h1, v_b_pos (Or.inr h1)]
    · rw [if_neg h1, v_b_neg (fun z => z.elim h0 h1)]
theorem z_either {c : Int32} : ((0 : Int32).toInt ≤ c.toInt ∧ c.toInt ≤ (1 : Int32).toInt) ↔ (c.toInt = 0 ∨ c.toInt = 1) := by
  show (0 ≤ c.toInt ∧ c.toInt ≤ 1) ↔ _
  omega
/-- the answer, of a set of cases: the first (f), or how many -/
def an_S (f : Bool) (p : Nat → Bool) (r : Int32) : Prop := ∃ o, Lst p 0 o ∧ r = if f = true then va_L o else Int32.ofNat (cnt p 125)
theorem an_S_eq {f : Bool} {p q : Nat → Bool} (hpq : ∀ i, i < 125 → p i = q i) {r r2 : Int32} (h : an_S f p r) (h2 : an_S f q r2) : r = r2 := by
  obtain ⟨o, h1, rfl⟩ := h
  obtain ⟨o2, h3, rfl⟩ := h2
  rw [Lst_eq hpq h1 h3, cnt_eq 125 hpq]
/-- the class tells it of the found -/
theorem yC_an {s : vS} {p : Nat → Bool} (hp : ∀ i, i < 128 → lb s 138 i = (decide (i < 125) && p i)) (f : Bool) : v_P (if f = true then v_bi (f_Cs_first 138 s) (fun r1 s1 => some (r1, s1)) else v_bi (f_Cs_size 138 s) (fun r1 s1 => some (r1, s1))) (fun r u => u = s ∧ an_S f p r) := by
  have hp2 : ∀ i, i < 125 → lb s 138 i = p i := fun i hi => by rw [hp i (by omega), decide_eq_true hi, Bool.true_and]
  cases f with
  | true =>
    rw [if_pos rfl]
    refine v_Pbi (yC_first 138 s) ?_
    rintro r u ⟨rfl, o, h1, h2⟩
    exact v_Pret ⟨rfl, o, Lst_co h1 hp2, h2⟩
  | false =>
    rw [if_neg (by decide)]
    have hsz := lb_size (a := 138) (s := s) (fun i h1 h2 => by rw [hp i h2, decide_eq_false (by omega), Bool.false_and])
    rw [hsz, v_bi_some]
    obtain ⟨o, ho⟩ : ∃ o, Lst p 0 o := by
      have : ∀ n, n ≤ 125 → ∃ o, Lst p (125 - n) o := by
        intro n
        induction n with
        | zero => intro _; exact ⟨none, Lst_end⟩
        | succ n ih =>
          intro hn
          obtain ⟨o, h⟩ := ih (by omega)
          have e : 125 - n = 125 - (n + 1) + 1 := by omega
          rw [e] at h
          cases hpp : p (125 - (n + 1)) with
          | true => exact ⟨_, Lst_yes (by omega) hpp⟩
          | false => exact ⟨o, Lst_no h hpp⟩
      exact this 125 (Nat.le_refl _)
    refine v_Pret ⟨rfl, o, ho, ?_⟩
    rw [if_neg (by decide), cnt_eq 125 hp2]
/-! who is there -/
def thX (n td : Int) (D : Nat → Int) (m : Int) : Bool := decide (0 ≤ m) && (decide (m < n) && decide (D m.toNat ≤ td))
theorem thX_iff {n td : Int} {D : Nat → Int} {m : Int} : thX n td D m = true ↔ (0 ≤ m ∧ m < n ∧ D m.toNat ≤ td) := by
  unfold thX
  rw [Bool.and_eq_true, Bool.and_eq_true, decide_eq_true_iff, decide_eq_true_iff, decide_eq_true_iff]
def tdC (s : vS) (m : Int) : Bool := thX (s.1 8 1).toInt (s.1 8 3).toInt (fun k => (s.1 (23 + 5 * k) 1).toInt) m
def tdM (t : vS) (m : Int) : Bool := thX (t.1 151 14).toInt (t.1 151 19).toInt (fun k => (t.1 160 k).toInt) m
theorem td_eq {s t : vS} (h : j_R s t) (hm : (t.1 151 14).toInt ≤ 10) (m : Int) : tdC s m = tdM t m := by
  have em : s.1 8 1 = t.1 151 14 := h.1
  unfold tdC tdM thX
  rw [em, h.2.2.2.2.1.2]
  by_cases h0 : 0 ≤ m
  · by_cases h1 : m < (t.1 151 14).toInt
    · exact congrArg (fun x : Int32 => decide (0 ≤ m) && (decide (m < (t.1 151 14).toInt) && decide (x.toInt ≤ (t.1 151 19).toInt))) (h.2.2.2.1 m.toNat (by rw [em]; omega) (by omega)).1
    · rw [decide_eq_false h1, Bool.false_and, Bool.false_and]
  · rw [decide_eq_false h0, Bool.false_and, Bool.false_and]
theorem y_isThC {s : vS} (hm : (s.1 8 1).toInt ≤ 10) (b : Int32) : v_P (f_Ct_isThere b s) (fun r u => u = s ∧ r = if tdC s b.toInt = true then 1 else 0) := by
  unfold f_Ct_isThere
  rw [jz_knows, v_bi_some, v_bif]
  by_cases hb : 0 ≤ b.toInt ∧ b.toInt < (s.1 8 1).toInt
  · rw [if_pos hb, jz_at b s ⟨hb.1, by omega⟩, v_bi_some, v_nc]
    refine v_Pif (fun _ => ?_) (fun _ => v_Pnone)
    by_cases k : (s.1 8 3).toInt < (s.1 (23 + 5 * b.toInt.toNat) 1).toInt
    · rw [if_pos k]
      exact v_Pret ⟨rfl, (if_neg (fun z => by have h3 : (s.1 (23 + 5 * b.toInt.toNat) 1).toInt ≤ (s.1 8 3).toInt := (thX_iff.mp z).2.2; omega)).symm⟩
    · rw [if_neg k]
      exact v_Pret ⟨rfl, (if_pos (thX_iff.mpr ⟨hb.1, hb.2, by show (s.1 (23 + 5 * b.toInt.toNat) 1).toInt ≤ (s.1 8 3).toInt; omega⟩)).symm⟩
  · rw [if_neg hb]
    exact v_Pret ⟨rfl, (if_neg (fun z => hb ⟨(thX_iff.mp z).1, (thX_iff.mp z).2.1⟩)).symm⟩
theorem y_isThM {t : vS} (hm : (t.1 151 14).toInt ≤ 10) (b : Int32) (hb : 0 ≤ b.toInt ∧ b.toInt < (t.1 151 14).toInt) : f_Md_isThere b t = some (if tdM t b.toInt = true then 1 else 0, t) := by
  unfold f_Md_isThere
  rw [if_pos (show v_in b 11 from ⟨hb.1, by omega⟩), v_nc]
  by_cases k : (t.1 151 19).toInt < (t.1 160 b.toInt.toNat).toInt
  · rw [if_pos k, if_neg (fun z => by have h3 : (t.1 160 b.toInt.toNat).toInt ≤ (t.1 151 19).toInt := (thX_iff.mp z).2.2; omega)]
  · rw [if_neg k, if_pos (show tdM t b.toInt = true from thX_iff.mpr ⟨hb.1, hb.2, by show (t.1 160 b.toInt.toNat).toInt ≤ (t.1 151 19).toInt; omega⟩)]
/-! clash -/
def gd_K (s : vS) (b c : Int32) : Prop := 0 ≤ b.toInt ∧ tdC s (b / (10 : Int32)).toInt = true ∧ tdC s (b - b / (10 : Int32) * (10 : Int32)).toInt = true ∧ ¬ (b / (10 : Int32)).toInt = (b - b / (10 : Int32) * (10 : Int32)).toInt ∧ (c.toInt = 0 ∨ c.toInt = 1)
def cl_p (t : vS) (AC : Nat → List gL) (x y : Nat) (i : Nat) : Bool := decide (¬ (t.1 161 x).toInt = (t.1 161 y).toInt) && (spM t x (AC x) i && spM t y (AC y) i)
theorem yC_clash {s t : vS} (h : j_R s t) (hR : v_RI t) (hK : v_KQ s) (h2 : j_2 s) {AC : Nat → List gL} (hAC : j_AC s t AC) (b c : Int32) : v_P (f_Ol_clash b c s) (fun r _ => (¬ gd_K s b c ∧ r = -1) ∨ (gd_K s b c ∧ an_S (decide (c.toInt = 0)) (cl_p t AC (b / (10 : Int32)).toInt.toNat (b - b / (10 : Int32) * (10 : Int32)).toInt.toNat) r)) := by
  have hm := hR.1.1
  have em : s.1 8 1 = t.1 151 14 := h.1
  have bad : ∀ u : vS, ¬ gd_K s b c → v_P (some ((-1 : Int32), u)) (fun r _ => (¬ gd_K s b c ∧ r = -1) ∨ (gd_K s b c ∧ an_S (decide (c.toInt = 0)) (cl_p t AC (b / (10 : Int32)).toInt.toNat (b - b / (10 : Int32) * (10 : Int32)).toInt.toNat) r)) := fun u hn => v_Pret (Or.inl ⟨hn, rfl⟩)
  have hm10 : (s.1 8 1).toInt ≤ 10 := by rw [em]; exact hm.2
  unfold f_Ol_clash
  by_cases h0 : b.toInt < 0
  · rw [if_pos h0]; exact bad s (fun g => by have := g.1; omega)
  rw [if_neg h0]
  have hq := v_q10 (b := b) (by omega)
  by_cases h9 : 99 < b.toInt
  · rw [if_pos h9]; exact bad s (fun g => by have h3 := (thX_iff.mp g.2.1).2.1; omega)
  rw [if_neg h9, y_either, v_bi_some, v_bif]
  by_cases hc : c.toInt = 0 ∨ c.toInt = 1
  · rw [if_pos hc]
    by_cases he : (b / (10 : Int32)).toInt = (b - b / (10 : Int32) * (10 : Int32)).toInt
    · rw [if_pos he]; exact bad s (fun g => g.2.2.2.1 he)
    rw [if_neg he]
    refine v_Pbi (y_isThC hm10 _) ?_
    rintro r s ⟨rfl, rfl⟩
    rw [b01]
    by_cases t1 : tdC s (b / (10 : Int32)).toInt = true
    · rw [if_pos t1]
      refine v_Pbi (y_isThC hm10 _) ?_
      rintro r s ⟨rfl, rfl⟩
      rw [b01]
      by_cases t2 : tdC s (b - b / (10 : Int32) * (10 : Int32)).toInt = true
      · rw [if_pos t2]
        have hg : gd_K s b c := ⟨by omega, t1, t2, he, hc⟩
        have k1 := thX_iff.mp t1
        have k2 := thX_iff.mp t2
        generalize hx : b / (10 : Int32) = x at *
        generalize hy : b - x * (10 : Int32) = y at *
        refine v_Pbi (jd_C h hR hK h2 hAC) ?_
        rintro _ u hu
        have uF : ∀ a j, (23 ≤ a ∧ a ≤ 72 ∧ a % 5 = 3 ∧ j ≤ 5) → u.1 a j = s.1 a j := fun a j q => (hu.1.1.1 a j (fun z => by unfold hx_S hx_R at z; omega)).1
        have sX := jv_sp h hm.2 hAC hu.1.1.1 hu.1.1.2.2 (k := x.toInt.toNat) (by rw [← em]; omega)
        have sY := jv_sp h hm.2 hAC hu.1.1.1 hu.1.1.2.2 (k := y.toInt.toNat) (by rw [← em]; omega)
        have lX := h.2.2.2.1 x.toInt.toNat (by omega) (by omega)
        have lY := h.2.2.2.1 y.toInt.toNat (by omega) (by omega)
        rw [jz_at x u ⟨k1.1, by omega⟩, v_bi_some, v_nc]
        refine v_Pif (fun _ => ?_) (fun _ => v_Pnone)
        rw [jz_at y u ⟨k2.1, by omega⟩, v_bi_some, v_nc]
        refine v_Pif (fun _ => ?_) (fun _ => v_Pnone)
        obtain ⟨v, v1, v2, v3, v4⟩ := lb_clear (a := 138) (s := u)
        rw [v1, v_bi_some, v2, uF _ 2 (by omega), uF _ 2 (by omega), lX.2.1, lY.2.1]
        have hfin : ∀ w : vS, (∀ i, i < 128 → lb w 138 i = (decide (i < 125) && cl_p t AC x.toInt.toNat y.toInt.toNat i)) → v_P (if c.toInt = 0 then v_bi (f_Cs_first 138 w) (fun r1 s1 => some (r1, s1)) else v_bi (f_Cs_size 138 w) (fun r1 s1 => some (r1, s1))) (fun r _ => (¬ gd_K s b c ∧ r = -1) ∨ (gd_K s b c ∧ an_S (decide (c.toInt = 0)) (cl_p t AC x.toInt.toNat y.toInt.toNat) r)) := fun w hw => by
          have h3 := yC_an hw (decide (c.toInt = 0))
          by_cases k0 : c.toInt = 0
          · rw [if_pos k0]
            rw [decide_eq_true k0, if_pos rfl] at h3
            rw [decide_eq_true k0]
            exact v_Pm2 h3 (fun _ _ q => Or.inr ⟨hg, q.2⟩)
          · rw [if_neg k0]
            rw [decide_eq_false k0, if_neg (by decide)] at h3
            rw [decide_eq_false k0]
            exact v_Pm2 h3 (fun _ _ q => Or.inr ⟨hg, q.2⟩)
        by_cases cs : (t.1 161 x.toInt.toNat).toInt = (t.1 161 y.toInt.toNat).toInt
        · rw [if_pos cs]
          refine hfin v (fun i hi => ?_)
          rw [v4 i]
          unfold cl_p
          rw [decide_eq_false (show ¬ ¬ (t.1 161 x.toInt.toNat).toInt = (t.1 161 y.toInt.toNat).toInt from fun z => z cs), Bool.false_and, Bool.and_false]
        · rw [if_neg cs]
          obtain ⟨w, w1, w2, w3, w4⟩ := lb_both (a := 138) (b := 23 + 5 * x.toInt.toNat + 4) (c := 23 + 5 * y.toInt.toNat + 4) (s := v) (by omega) (by omega)
          rw [w1, v_bi_some]
          refine hfin w (fun i hi => ?_)
          have eX : lb v (23 + 5 * x.toInt.toNat + 4) i = lb u (27 + 5 * x.toInt.toNat) i := by
            rw [show 23 + 5 * x.toInt.toNat + 4 = 27 + 5 * x.toInt.toNat by omega]
            unfold lb
            rw [v3 _ 0 (by omega), v3 _ 1 (by omega)]
          have eY : lb v (23 + 5 * y.toInt.toNat + 4) i = lb u (27 + 5 * y.toInt.toNat) i := by
            rw [show 23 + 5 * y.toInt.toNat + 4 = 27 + 5 * y.toInt.toNat by omega]
            unfold lb
            rw [v3 _ 0 (by omega), v3 _ 1 (by omega)]
          rw [w4 i, eX, eY, sX i hi, sY i hi]
          unfold cl_p
          rw [decide_eq_true cs, Bool.true_and]
          by_cases k : i < 125
          · rw [decide_eq_true k, Bool.true_and, Bool.true_and, Bool.true_and]
          · rw [decide_eq_false k, Bool.false_and, Bool.false_and, Bool.false_and]
      · rw [if_neg t2]; exact bad s (fun g => t2 g.2.2.1)
    · rw [if_neg t1]; exact bad s (fun g => t1 g.2.1)
  · rw [if_neg hc]; exact bad s (fun g => hc g.2.2.2.2)
theorem v_dn {v : Int32} {i : Nat} (h : v.toInt = (i : Int)) (hi : i < 200) : ∃ v2, v + (-1) = v2 ∧ v2.toInt = (i : Int) - 1 := ⟨_, rfl, by rw [v_dec (by omega), h]⟩
theorem yM_clL {w : vS} {t : vS} {AC : Nat → List gL} {p1 p2 : Int32} {x y : Nat} (hx : (p1 / (10 : Int32)).toInt = x) (hy : (p1 - p1 / (10 : Int32) * (10 : Int32)).toInt = y) (hx9 : x ≤ 9) (hy9 : y ≤ 9) (sx : w.1 161 x = t.1 161 x ∧ w.1 161 y = t.1 161 y) (vx : ∀ i, i < 125 → w.1 171 (125 * x + i) = if spM t x (AC x) i = true then 1 else 0) (vy : ∀ i, i < 125 → w.1 171 (125 * y + i) = if spM t y (AC y) i = true then 1 else 0) {k : Int32 → Int32 → vS → Option (Int32 × vS)} {Q : Int32 → vS → Prop} (hk : ∀ a m, Dn (cl_p t AC x y) 0 a m → v_P (k a m w) Q) : ∀ (n : Nat) (a m v : Int32) (lo : Nat), v.toInt = (lo : Int) - 1 → lo ≤ 125 → Dn (cl_p t AC x y) lo a m → v_P (f_Md_clash_L84 p1 p2 k n a m v w) Q
  | 0, _, _, _, _, _, _, _ => v_Pnone
  | n + 1, a, m, v, lo, hv, hlo, hD => by
    show v_P (f_Md_clash_L84b p1 p2 k (f_Md_clash_L84 p1 p2 k n) a m v w) Q
    unfold f_Md_clash_L84b
    cases lo with
    | zero =>
      rw [if_pos (show v.toInt < 0 by omega)]
      exact hk a m hD
    | succ i =>
      have hvi : v.toInt = (i : Int) := by omega
      have hvo := v_ofn hvi
      obtain ⟨v2, e2, hv2⟩ := v_dn hvi (by omega)
      rw [e2]
      clear e2
      have hgo : ∀ a2 m2, Dn (cl_p t AC x y) i a2 m2 → v_P (f_Md_clash_L84 p1 p2 k n a2 m2 v2 w) Q := fun a2 m2 h3 => yM_clL hx hy hx9 hy9 sx vx vy hk n a2 m2 v2 i hv2 (by omega) h3
      rw [if_neg (show ¬ v.toInt < 0 by omega), if_pos (show v_in (p1 / (10 : Int32)) 11 from ⟨by omega, by omega⟩), if_pos (show v_in (p1 - p1 / (10 : Int32) * (10 : Int32)) 11 from ⟨by omega, by omega⟩), show (p1 / (10 : Int32)).toNatClampNeg = x by rw [v_nc]; omega, show (p1 - p1 / (10 : Int32) * (10 : Int32)).toNatClampNeg = y by rw [v_nc]; omega, sx.1, sx.2]
      have m1 := m_125 (b := p1 / (10 : Int32)) (v := v) ⟨by omega, by omega⟩ ⟨by omega, by omega⟩
      have m2 := m_125 (b := p1 - p1 / (10 : Int32) * (10 : Int32)) (v := v) ⟨by omega, by omega⟩ ⟨by omega, by omega⟩
      by_cases cs : (t.1 161 x).toInt = (t.1 161 y).toInt
      · rw [if_pos cs]
        refine hgo a m (Dn_no hD ?_)
        unfold cl_p
        rw [decide_eq_false (fun z => z cs), Bool.false_and]
      · rw [if_neg cs, if_pos (show v_in ((125 : Int32) * (p1 / (10 : Int32)) + v) 1375 from ⟨by omega, by omega⟩), show ((125 : Int32) * (p1 / (10 : Int32)) + v).toNatClampNeg = 125 * x + i by rw [v_nc]; omega, vx i (by omega), b01]
        by_cases k1 : spM t x (AC x) i = true
        · rw [if_pos k1, if_pos (show v_in ((125 : Int32) * (p1 - p1 / (10 : Int32) * (10 : Int32)) + v) 1375 from ⟨by omega, by omega⟩), show ((125 : Int32) * (p1 - p1 / (10 : Int32) * (10 : Int32)) + v).toNatClampNeg = 125 * y + i by rw [v_nc]; omega, vy i (by omega), b01]
          by_cases k2 : spM t y (AC y) i = true
          · rw [if_pos k2, y_numberOfM, v_bi_some, hvo]
            refine hgo _ _ (Dn_yes (by omega) hD ?_)
            unfold cl_p
            rw [decide_eq_true cs, k1, k2]
            rfl
          · rw [if_neg k2]
            refine hgo a m (Dn_no hD ?_)
            unfold cl_p
            cases hq : spM t y (AC y) i with
            | true => exact absurd hq k2
            | false => rw [Bool.and_false, Bool.and_false]
        · rw [if_neg k1]
          refine hgo a m (Dn_no hD ?_)
          unfold cl_p
          cases hq : spM t x (AC x) i with
          | true => exact absurd hq k1
          | false => rw [Bool.false_and, Bool.and_false]
theorem Dn_an {p : Nat → Bool} {a m : Int32} (h : Dn p 0 a m) (f : Bool) : an_S f p (if f = true then a else m) := by
  obtain ⟨⟨o, h1, h2⟩, h3⟩ := h
  obtain ⟨e1, e2⟩ := Dn_fin (fun _ _ => rfl) (⟨⟨o, h1, h2⟩, h3⟩ : Dn p 0 a m) h1
  refine ⟨o, h1, ?_⟩
  rw [e1, e2]
theorem yM_clash {s t : vS} (h : j_R s t) (hR : v_RI t) {AC : Nat → List gL} (hAC : j_AC s t AC) (b c : Int32) : v_P (f_Md_clash b c t) (fun r _ => (¬ gd_K s b c ∧ r = -1) ∨ (gd_K s b c ∧ an_S (decide (c.toInt = 0)) (cl_p t AC (b / (10 : Int32)).toInt.toNat (b - b / (10 : Int32) * (10 : Int32)).toInt.toNat) r)) := by
  have hm := hR.1.1
  have em : s.1 8 1 = t.1 151 14 := h.1
  have bad : ∀ u : vS, ¬ gd_K s b c → v_P (some ((-1 : Int32), u)) (fun r _ => (¬ gd_K s b c ∧ r = -1) ∨ (gd_K s b c ∧ an_S (decide (c.toInt = 0)) (cl_p t AC (b / (10 : Int32)).toInt.toNat (b - b / (10 : Int32) * (10 : Int32)).toInt.toNat) r)) := fun u hn => v_Pret (Or.inl ⟨hn, rfl⟩)
  unfold f_Md_clash
  by_cases h0 : b.toInt < 0
  · rw [if_pos h0]; exact bad t (fun g => by have := g.1; omega)
  rw [if_neg h0, jz_isLaw _ t hm.1, v_bi_some, v_bif]
  by_cases kx : 0 ≤ (b / (10 : Int32)).toInt ∧ (b / (10 : Int32)).toInt < (t.1 151 14).toInt
  · rw [if_pos kx, jz_isLaw _ t hm.1, v_bi_some, v_bif]
    by_cases ky : 0 ≤ (b - b / (10 : Int32) * (10 : Int32)).toInt ∧ (b - b / (10 : Int32) * (10 : Int32)).toInt < (t.1 151 14).toInt
    · rw [if_pos ky]
      by_cases he : (b / (10 : Int32)).toInt = (b - b / (10 : Int32) * (10 : Int32)).toInt
      · rw [if_pos he]; exact bad t (fun g => g.2.2.2.1 he)
      rw [if_neg he, y_isThM hm.2 _ kx, v_bi_some, b01]
      by_cases t1 : tdM t (b / (10 : Int32)).toInt = true
      · rw [if_pos t1, y_isThM hm.2 _ ky, v_bi_some, b01]
        by_cases t2 : tdM t (b - b / (10 : Int32) * (10 : Int32)).toInt = true
        · rw [if_pos t2, z_in, v_bi_some, v_bif]
          by_cases hc : c.toInt = 0 ∨ c.toInt = 1
          · rw [if_pos (z_either.mpr hc)]
            have hg : gd_K s b c := ⟨by omega, by rw [td_eq h hm.2]; exact t1, by rw [td_eq h hm.2]; exact t2, he, hc⟩
            refine v_Pbi (y_findSpeaks t hm (fun q hq => ⟨(hAC q hq).1, (hAC q hq).2.2.2.2⟩)) ?_
            rintro _ w ⟨⟨wE, w2⟩, wV⟩
            have vX := wV (b / (10 : Int32)).toInt.toNat (by omega)
            have vY := wV (b - b / (10 : Int32) * (10 : Int32)).toInt.toNat (by omega)
            refine yM_clL (t := t) (AC := AC) (x := (b / (10 : Int32)).toInt.toNat) (y := (b - b / (10 : Int32) * (10 : Int32)).toInt.toNat) (by omega) (by omega) (by omega) (by omega) ⟨wE 161 _ (by omega), wE 161 _ (by omega)⟩ vX.1 vY.1 (fun a m hD => ?_) 4096 (-2) 0 124 125 rfl (Nat.le_refl _) Dn_end
            have h3 := Dn_an hD (decide (c.toInt = 0))
            by_cases k0 : c.toInt = 0
            · rw [if_pos k0]
              rw [decide_eq_true k0, if_pos rfl] at h3
              rw [decide_eq_true k0]
              exact v_Pret (Or.inr ⟨hg, h3⟩)
            · rw [if_neg k0]
              rw [decide_eq_false k0, if_neg (by decide)] at h3
              rw [decide_eq_false k0]
              exact v_Pret (Or.inr ⟨hg, h3⟩)
          · rw [if_neg (fun z => hc (z_either.mp z))]; exact bad t (fun g => hc g.2.2.2.2)
        · rw [if_neg t2]; exact bad t (fun g => t2 (by rw [← td_eq h hm.2]; exact g.2.2.1))
      · rw [if_neg t1]; exact bad t (fun g => t1 (by rw [← td_eq h hm.2]; exact g.2.1))
    · rw [if_neg ky]; exact bad t (fun g => ky (by have h3 := thX_iff.mp g.2.2.1; rw [em] at h3; exact ⟨h3.1, h3.2.1⟩))
  · rw [if_neg kx]; exact bad t (fun g => kx (by have h3 := thX_iff.mp g.2.1; rw [em] at h3; exact ⟨h3.1, h3.2.1⟩))
theorem jr_clash {s t : vS} (h : j_R s t) (hR : v_RI t) (hK : v_KQ s) (h2 : j_2 s) (b c : Int32) : j_An s t (f_Ol_clash b c s) (f_Md_clash b c t) := by
  obtain ⟨AC, hAC⟩ := j_ACex h hR.1.1.2
  refine j_AnI (yC_clash h hR hK h2 hAC b c) (yM_clash h hR hAC b c) ?_
  rintro r1 _ r2 _ (⟨a1, a2⟩ | ⟨a1, a2⟩) (⟨b1, b2⟩ | ⟨b1, b2⟩)
  · rw [a2, b2]
  · exact absurd b1 a1
  · exact absurd a1 b1
  · exact an_S_eq (fun _ _ => rfl) a2 b2
/-! the verdicts stay, where only what is asked changes -/
def j_Au (u s : vS) : Prop := (∀ a j, ¬ a = 22 → s.1 a j = u.1 a j) ∧ ∀ c j, ¬ c = 138 → s.2 c j = u.2 c j
theorem j_Au_rf {u : vS} : j_Au u u := ⟨fun _ _ _ => rfl, fun _ _ _ => rfl⟩
theorem lb_Au {u s : vS} (h : j_Au u s) {a : Nat} (ha : ¬ a = 138) (i : Nat) : lb s a i = lb u a i := by
  unfold lb
  rw [h.2 a 0 ha, h.2 a 1 ha]
theorem hoC_Au {u s : vS} (h : j_Au u s) (hm : (u.1 8 1).toInt ≤ 10) (i : Nat) (r : Int) : hoC s i r = hoC u i r := by
  have e8 : s.1 8 1 = u.1 8 1 := h.1 _ _ (by decide)
  unfold hoC
  have hn : nC s = nC u := by unfold nC; rw [e8]
  rw [hn]
  have hn10 : nC u ≤ 10 := by unfold nC; omega
  refine hol_eq (nC u) (fun k hk => ⟨by unfold aC; rw [h.1 8 4 (by decide)], lb_Au h (by omega) i⟩) (fun a b ha hb => ?_)
  have ea : lb s (27 + 5 * a) = lb u (27 + 5 * a) := funext fun i => lb_Au h (by omega) i
  have eb : lb s (27 + 5 * b) = lb u (27 + 5 * b) := funext fun i => lb_Au h (by omega) i
  unfold ahC
  rw [h.1 (23 + 5 * a) 1 (by omega), h.1 (23 + 5 * b) 1 (by omega), h.1 (23 + 5 * a) 2 (by omega), h.1 (23 + 5 * b) 2 (by omega), ea, eb]
theorem vdC_Au {u s : vS} (h : j_Au u s) (hm : (u.1 8 1).toInt ≤ 10) (i : Nat) (r : Int) : vdC s i r = vdC u i r := by
  unfold vdC
  rw [hoC_Au h hm]
  cases hoC u i r with
  | none => rfl
  | some k => exact h.1 _ _ (by omega)
theorem ok_Au {u s : vS} (h : j_Au u s) (ho : ok_C u) : ok_C s := by
  obtain ⟨⟨h1, h2⟩, h3, h4⟩ := ho
  have e8 : s.1 8 1 = u.1 8 1 := h.1 _ _ (by decide)
  refine ⟨⟨by rw [e8]; exact h1, by rw [e8]; exact h2⟩, fun k hk => by rw [h.1 _ _ (by omega)]; exact h3 k hk, fun k hk q q1 q2 => ?_⟩
  unfold nC at hk
  rw [e8] at hk
  rw [lb_Au h (by omega)]
  exact h4 k hk q q1 q2
theorem yC_vd {u s : vS} (h : j_Au u s) (ho : ok_C u) {b c : Int32} {i : Nat} (hi : b.toInt = i) (hi2 : i < 125) : v_P (f_Ct_verdictIn b c s) (fun r x => x = s ∧ r = vdC u i c.toInt) := by
  have hs := ok_Au h ho
  refine v_Pm2 (yC_verdictIn hs.1 hs.2.1 hs.2.2 hi hi2) (fun r x hx => ⟨hx.1, ?_⟩)
  rw [hx.2, vdC_Au h ho.1.2]
/-- the class adds to the found -/
theorem yC_add {u s : vS} (h : j_Au u s) {p : Nat → Bool} {i : Nat} (hi : i < 125) (hB : ∀ k, k < 128 → lb s 138 k = (decide (k < i) && p k)) {b : Int32} (hb : b.toInt = i) (hp : p i = true) : ∃ t, f_Cs_add 138 b s = some ((), t) ∧ j_Au u t ∧ t.1 = s.1 ∧ ∀ k, k < 128 → lb t 138 k = (decide (k < i + 1) && p k) := by
  obtain ⟨t, t1, t2, t3, t4⟩ := lb_add (a := 138) (s := s) hb hi
  refine ⟨t, t1, ⟨fun a j ha => by rw [t2]; exact h.1 a j ha, fun c j hc => (t3 c j hc).trans (h.2 c j hc)⟩, t2, fun k hk => ?_⟩
  rw [t4 k hk, hB k hk]
  by_cases e : k = i
  · rw [e, decide_eq_true (rfl : i = i), Bool.or_true, hp, decide_eq_true (show i < i + 1 by omega)]
    rfl
  · rw [decide_eq_false e, Bool.or_false, show decide (k < i) = decide (k < i + 1) from decide_eq_decide.mpr (by omega)]
theorem yC_noadd {s : vS} {p : Nat → Bool} {i : Nat} (hB : ∀ k, k < 128 → lb s 138 k = (decide (k < i) && p k)) (hp : p i = false) : ∀ k, k < 128 → lb s 138 k = (decide (k < i + 1) && p k) := fun k hk => by
  rw [hB k hk]
  by_cases e : k = i
  · rw [e, hp, Bool.and_false, Bool.and_false]
  · rw [show decide (k < i) = decide (k < i + 1) from decide_eq_decide.mpr (by omega)]
def unl_p (u : vS) (r1 r2 : Int) (i : Nat) : Bool := decide (¬ (vdC u i r1).toInt = (vdC u i r2).toInt)
theorem yC_unL {u : vS} (ho : ok_C u) {p1 p2 : Int32} {k : vS → Option (Int32 × vS)} {Q : Int32 → vS → Prop} (hk : ∀ t, (∀ i, i < 128 → lb t 138 i = (decide (i < 125) && unl_p u (p1 / (10 : Int32)).toInt (p1 - p1 / (10 : Int32) * (10 : Int32)).toInt i)) → v_P (k t) Q) : ∀ (n : Nat) (v : Int32) (s : vS), 0 ≤ v.toInt → v.toInt ≤ 125 → j_Au u s → (∀ i, i < 128 → lb s 138 i = (decide (i < v.toInt.toNat) && unl_p u (p1 / (10 : Int32)).toInt (p1 - p1 / (10 : Int32) * (10 : Int32)).toInt i)) → v_P (f_Ol_unlike_L49 p1 p2 k n v s) Q
  | 0, _, _, _, _, _, _ => v_Pnone
  | n + 1, v, s, h0, h1, hA, hB => by
    show v_P (f_Ol_unlike_L49b p1 p2 k (f_Ol_unlike_L49 p1 p2 k n) v s) Q
    unfold f_Ol_unlike_L49b
    by_cases c : 125 ≤ v.toInt
    · rw [if_pos c]
      rw [show v.toInt.toNat = 125 by omega] at hB
      exact hk s hB
    · rw [if_neg c]
      obtain ⟨i, hi⟩ : ∃ i : Nat, v.toInt = i := ⟨v.toInt.toNat, by omega⟩
      have e1 := v_inc (x := v) (by omega)
      have hn1 : (v + 1).toInt.toNat = i + 1 := by omega
      have hn0 : v.toInt.toNat = i := by omega
      rw [hn0] at hB
      refine v_Pbi (yC_vd hA ho hi (by omega)) ?_
      rintro r s2 ⟨rfl, rfl⟩
      refine v_Pbi (yC_vd hA ho hi (by omega)) ?_
      rintro r s2 ⟨rfl, rfl⟩
      by_cases z : (vdC u i (p1 / (10 : Int32)).toInt).toInt = (vdC u i (p1 - p1 / (10 : Int32) * (10 : Int32)).toInt).toInt
      · rw [if_pos z]
        refine yC_unL ho hk n (v + 1) _ (by omega) (by omega) hA ?_
        rw [hn1]
        exact yC_noadd hB (decide_eq_false (fun y => y z))
      · rw [if_neg z]
        obtain ⟨t, t1, t2, t3, t4⟩ := yC_add hA (by omega) hB hi (decide_eq_true z : unl_p u (p1 / (10 : Int32)).toInt (p1 - p1 / (10 : Int32) * (10 : Int32)).toInt i = true)
        rw [t1, v_bi_some]
        refine yC_unL ho hk n (v + 1) t (by omega) (by omega) t2 ?_
        rw [hn1]
        exact t4
/-- the reference's verdicts, kept and compared -/
def j_Bw (w s : vS) : Prop := (∀ a j, ¬ a = 173 → s.1 a j = w.1 a j) ∧ s.2 = w.2
theorem j_Bw_rf {w : vS} : j_Bw w w := ⟨fun _ _ _ => rfl, rfl⟩
theorem hoR_Bw {w s : vS} (h : j_Bw w s) (i : Nat) (r : Int) : hoR s i r = hoR w i r := by
  have e : ∀ a, ¬ a = 173 → s.1 a = w.1 a := fun a ha => funext fun j => h.1 a j ha
  unfold hoR
  have hn : nM s = nM w := by unfold nM; rw [h.1 151 14 (by decide)]
  rw [hn]
  refine hol_eq (nM w) (fun k hk => ⟨by unfold aM; rw [e 170 (by decide)], by unfold pM; rw [e 171 (by decide)]⟩) (fun a b ha hb => ?_)
  unfold ahM
  rw [e 160 (by decide), e 161 (by decide), e 172 (by decide)]
theorem vdM_Bw {w s : vS} (h : j_Bw w s) (i : Nat) (r : Int) : vdM s i r = vdM w i r := by
  unfold vdM
  rw [hoR_Bw h]
  cases hoR w i r with
  | none => rfl
  | some k => exact h.1 _ _ (by decide)
theorem ok_Bw {w s : vS} (h : j_Bw w s) (ho : ok_M w) : ok_M s := by
  obtain ⟨h1, h2, h3⟩ := ho
  have e14 : s.1 151 14 = w.1 151 14 := h.1 _ _ (by decide)
  refine ⟨by rw [e14]; exact h1, by rw [h.1 151 31 (by decide)]; exact h2, fun k hk => ?_⟩
  unfold nM at hk
  rw [e14] at hk
  rw [h.1 160 k (by decide), h.1 172 k (by decide)]
  exact h3 k hk
theorem yM_vd {w s : vS} (h : j_Bw w s) (ho : ok_M w) {b c : Int32} {i : Nat} (hi : b.toInt = i) (hi2 : i < 125) : v_P (f_Md_verdictIn b c s) (fun r x => x = s ∧ r = vdM w i c.toInt) := by
  have hs := ok_Bw h ho
  refine v_Pm2 (yM_verdictIn hs.1 hs.2 hi hi2) (fun r x hx => ⟨hx.1, ?_⟩)
  rw [hx.2, vdM_Bw h]
theorem yM_keepL {w : vS} (ho : ok_M w) {p : Int32} {k : vS → Option (Unit × vS)} {Q : Unit → vS → Prop} (hk : ∀ t, j_Bw w t → (∀ i, i < 125 → t.1 173 i = vdM w i p.toInt) → v_P (k t) Q) : ∀ (n : Nat) (v : Int32) (s : vS), 0 ≤ v.toInt → v.toInt ≤ 125 → j_Bw w s → (∀ i, i < v.toInt.toNat → s.1 173 i = vdM w i p.toInt) → v_P (f_Md_keepVerdicts_L2 p k n v s) Q
  | 0, _, _, _, _, _, _ => v_Pnone
  | n + 1, v, s, h0, h1, hA, hB => by
    show v_P (f_Md_keepVerdicts_L2b p k (f_Md_keepVerdicts_L2 p k n) v s) Q
    unfold f_Md_keepVerdicts_L2b
    by_cases c : 125 ≤ v.toInt
    · rw [if_pos c]
      exact hk s hA (fun i hi => hB i (by omega))
    · rw [if_neg c]
      obtain ⟨i, hi⟩ : ∃ i : Nat, v.toInt = i := ⟨v.toInt.toNat, by omega⟩
      have e1 := v_inc (x := v) (by omega)
      refine v_Pbi (yM_vd hA ho hi (by omega)) ?_
      rintro r s2 ⟨rfl, rfl⟩
      rw [show v.toNatClampNeg = i by rw [v_nc]; omega]
      refine v_Pif (fun _ => v_Plw (fun t z1 g1 f1 => ?_)) (fun _ => v_Pnone)
      refine yM_keepL ho hk n (v + 1) t (by omega) (by omega) ⟨fun a j ha => (f1 a j (fun z => ha z.1)).trans (hA.1 a j ha), z1.trans hA.2⟩ (fun j hj => ?_)
      by_cases e : j = i
      · rw [e, g1]
      · rw [f1 173 j (fun z => e z.2)]
        exact hB j (by omega)
theorem yM_keep {w : vS} (ho : ok_M w) (p : Int32) : v_P (f_Md_keepVerdicts p w) (fun _ t => j_Bw w t ∧ ∀ i, i < 125 → t.1 173 i = vdM w i p.toInt) := by
  unfold f_Md_keepVerdicts
  exact yM_keepL ho (fun t h1 h2 => v_Pret ⟨h1, h2⟩) 4096 0 w (by decide) (by decide) j_Bw_rf (fun i hi => absurd hi (Nat.not_lt_zero i))
def unM_p (w : vS) (r : Int) (i : Nat) : Bool := decide (¬ (vdM w i r).toInt = (w.1 173 i).toInt)
theorem yM_unL {w : vS} (ho : ok_M w) {p1 p2 : Int32} {k : Int32 → Int32 → vS → Option (Int32 × vS)} {Q : Int32 → vS → Prop} (hk : ∀ a m, Dn (unM_p w p1.toInt) 0 a m → v_P (k m a w) Q) : ∀ (n : Nat) (m a v : Int32) (lo : Nat), v.toInt = (lo : Int) - 1 → lo ≤ 125 → Dn (unM_p w p1.toInt) lo a m → v_P (f_Md_unlikeNow_L10 p1 p2 k n m a v w) Q
  | 0, _, _, _, _, _, _, _ => v_Pnone
  | n + 1, m, a, v, lo, hv, hlo, hD => by
    show v_P (f_Md_unlikeNow_L10b p1 p2 k (f_Md_unlikeNow_L10 p1 p2 k n) m a v w) Q
    unfold f_Md_unlikeNow_L10b
    cases lo with
    | zero =>
      rw [if_pos (show v.toInt < 0 by omega)]
      exact hk a m hD
    | succ i =>
      have hvi : v.toInt = (i : Int) := by omega
      have hvo := v_ofn hvi
      obtain ⟨v2, e2, hv2⟩ := v_dn hvi (by omega)
      rw [e2]
      clear e2
      rw [if_neg (show ¬ v.toInt < 0 by omega)]
      refine v_Pbi (yM_vd j_Bw_rf ho hvi (by omega)) ?_
      rintro r w2 ⟨rfl, rfl⟩
      rw [show v.toNatClampNeg = i by rw [v_nc]; omega]
      refine v_Pif (fun _ => ?_) (fun _ => v_Pnone)
      by_cases z : (vdM w2 i p1.toInt).toInt = (w2.1 173 i).toInt
      · rw [if_pos z]
        exact yM_unL ho hk n m a v2 i hv2 (by omega) (Dn_no hD (decide_eq_false (fun y => y z)))
      · rw [if_neg z, y_numberOfM, v_bi_some, hvo]
        exact yM_unL ho hk n _ _ v2 i hv2 (by omega) (Dn_yes (by omega) hD (decide_eq_true z))
theorem yM_unlike {w : vS} (ho : ok_M w) (r c : Int32) : v_P (f_Md_unlikeNow r c w) (fun x u => u = w ∧ an_S (decide (¬ c.toInt = 0)) (unM_p w r.toInt) x) := by
  unfold f_Md_unlikeNow
  refine yM_unL ho (fun a m hD => ?_) 4096 0 (-2) 124 125 rfl (Nat.le_refl _) Dn_end
  have h3 := Dn_an hD (decide (¬ c.toInt = 0))
  by_cases k0 : c.toInt = 0
  · rw [if_pos k0]
    rw [decide_eq_false (fun z => z k0), if_neg (by decide)] at h3
    rw [decide_eq_false (fun z => z k0)]
    exact v_Pret ⟨rfl, h3⟩
  · rw [if_neg k0]
    rw [decide_eq_true k0, if_pos rfl] at h3
    rw [decide_eq_true k0]
    exact v_Pret ⟨rfl, h3⟩
theorem yC_an2 {s : vS} {p : Nat → Bool} (hp : ∀ i, i < 128 → lb s 138 i = (decide (i < 125) && p i)) (c : Int32) : v_P (if c.toInt = 0 then v_bi (f_Cs_size 138 s) (fun r1 s1 => some (r1, s1)) else v_bi (f_Cs_first 138 s) (fun r1 s1 => some (r1, s1))) (fun r _ => an_S (decide (¬ c.toInt = 0)) p r) := by
  have h3 := yC_an hp (decide (¬ c.toInt = 0))
  by_cases k0 : c.toInt = 0
  · rw [if_pos k0]
    rw [decide_eq_false (fun z => z k0), if_neg (by decide)] at h3
    rw [decide_eq_false (fun z => z k0)]
    exact v_Pm2 h3 (fun _ _ q => q.2)
  · rw [if_neg k0]
    rw [decide_eq_true k0, if_pos rfl] at h3
    rw [decide_eq_true k0]
    exact v_Pm2 h3 (fun _ _ q => q.2)
theorem jr_unlike {s t : vS} (h : j_R s t) (hR : v_RI t) (hK : v_KQ s) (h2 : j_2 s) (b c : Int32) : j_An s t (f_Ol_unlike b c s) (f_Md_unlike b c t) := by
  obtain ⟨AC, hAC⟩ := j_ACex h hR.1.1.2
  have bad : ∀ {o1 o2 : Option (Int32 × vS)}, v_P o1 (fun r _ => r = -1) → v_P o2 (fun r _ => r = -1) → j_An s t o1 o2 := fun g1 g2 => j_AnI g1 g2 (fun _ _ _ _ a1 a2 => by rw [a1, a2])
  unfold f_Ol_unlike f_Md_unlike
  by_cases h0 : b.toInt < 0
  · rw [if_pos h0, if_pos h0]; exact bad (v_Pret rfl) (v_Pret rfl)
  rw [if_neg h0, if_neg h0, jz_isRule, v_bi_some, v_bif]
  have hq := v_q10 (b := b) (by omega)
  by_cases hx : 0 ≤ (b / (10 : Int32)).toInt ∧ (b / (10 : Int32)).toInt ≤ 3
  · rw [if_pos hx, if_neg (show ¬ 3 < (b / (10 : Int32)).toInt by omega), jz_isRule, v_bi_some, v_bif]
    by_cases hy : 0 ≤ (b - b / (10 : Int32) * (10 : Int32)).toInt ∧ (b - b / (10 : Int32) * (10 : Int32)).toInt ≤ 3
    · rw [if_pos hy, if_neg (show ¬ 3 < (b - b / (10 : Int32) * (10 : Int32)).toInt by omega), y_either, v_bi_some, v_bif, z_in, v_bi_some, v_bif]
      by_cases hc : c.toInt = 0 ∨ c.toInt = 1
      · rw [if_pos hc, if_pos (z_either.mpr hc)]
        refine j_AnI (P := fun r _ => ∃ u, hd_C s u ∧ an_S (decide (¬ c.toInt = 0)) (unl_p u (b / (10 : Int32)).toInt (b - b / (10 : Int32) * (10 : Int32)).toInt) r) (Q := fun r _ => ∃ w w2, hd_M s t w AC ∧ (j_Bw w w2 ∧ ∀ i, i < 125 → w2.1 173 i = vdM w i (b / (10 : Int32)).toInt) ∧ an_S (decide (¬ c.toInt = 0)) (unM_p w2 (b - b / (10 : Int32) * (10 : Int32)).toInt) r) ?_ ?_ ?_
        · refine v_Pbi (jd_C h hR hK h2 hAC) ?_
          rintro _ u hu
          obtain ⟨v, v1, v2, v3, v4⟩ := lb_clear (a := 138) (s := u)
          rw [v1, v_bi_some]
          refine yC_unL hu.2 (fun x hx => ?_) 4096 0 v (by decide) (by decide) ⟨fun a j _ => by rw [v2], fun c j hc => v3 c j hc⟩ (fun i _ => by rw [v4 i]; rfl)
          exact v_Pm2 (yC_an2 hx c) (fun r _ hr => ⟨u, hu, hr⟩)
        · refine v_Pbi (jd_M h hR hAC) ?_
          rintro _ w hw
          refine v_Pbi (yM_keep hw.2 _) ?_
          rintro _ w2 hw2
          refine v_Pbi (yM_unlike (ok_Bw hw2.1 hw.2) _ c) ?_
          rintro r _ ⟨_, hr⟩
          exact v_Pret ⟨w, w2, hw, hw2, hr⟩
        · rintro r1 _ r2 _ ⟨u, hu, h3⟩ ⟨w, w2, hw, hw2, h4⟩
          obtain ⟨hV, _, _⟩ := jd_V h hR hAC hu hw
          refine an_S_eq (fun i hi => ?_) h3 h4
          unfold unl_p unM_p
          rw [hw2.2 i hi, vdM_Bw hw2.1, jv_vd hV hi, jv_vd hV hi]
          exact decide_eq_decide.mpr ⟨fun z y => z y.symm, fun z y => z y.symm⟩
      · rw [if_neg hc, if_neg (fun z => hc (z_either.mp z))]; exact bad (v_Pret rfl) (v_Pret rfl)
    · rw [if_neg hy, if_pos (show 3 < (b - b / (10 : Int32) * (10 : Int32)).toInt by omega)]; exact bad (v_Pret rfl) (v_Pret rfl)
  · rw [if_neg hx, if_pos (show 3 < (b / (10 : Int32)).toInt by omega)]; exact bad (v_Pret rfl) (v_Pret rfl)
/-! meant -/
theorem yC_remL {u : vS} (ho : ok_C u) {k : vS → Option (Unit × vS)} {Q : Unit → vS → Prop} (hk : ∀ t, (∀ a j, ¬ a = 22 → t.1 a j = u.1 a j) → t.2 = u.2 → (∀ i, i < 125 → t.1 22 i = vdC u i (u.1 8 2).toInt) → v_P (k t) Q) : ∀ (n : Nat) (v : Int32) (s : vS), 0 ≤ v.toInt → v.toInt ≤ 125 → (∀ a j, ¬ a = 22 → s.1 a j = u.1 a j) → s.2 = u.2 → (∀ i, i < v.toInt.toNat → s.1 22 i = vdC u i (u.1 8 2).toInt) → v_P (f_Ct_rememberVerdicts_L2 k n v s) Q
  | 0, _, _, _, _, _, _, _ => v_Pnone
  | n + 1, v, s, h0, h1, hA, hA2, hB => by
    show v_P (f_Ct_rememberVerdicts_L2b k (f_Ct_rememberVerdicts_L2 k n) v s) Q
    unfold f_Ct_rememberVerdicts_L2b
    by_cases c : 125 ≤ v.toInt
    · rw [if_pos c]
      exact hk s hA hA2 (fun i hi => hB i (by omega))
    · rw [if_neg c]
      obtain ⟨i, hi⟩ : ∃ i : Nat, v.toInt = i := ⟨v.toInt.toNat, by omega⟩
      have e1 := v_inc (x := v) (by omega)
      rw [hA 8 2 (by decide)]
      refine v_Pbi (yC_vd ⟨hA, fun c j _ => by rw [hA2]⟩ ho hi (by omega)) ?_
      rintro r s2 ⟨rfl, rfl⟩
      rw [show v.toNatClampNeg = i by rw [v_nc]; omega]
      refine v_Pif (fun _ => v_Plw (fun t z1 g1 f1 => ?_)) (fun _ => v_Pnone)
      refine yC_remL ho hk n (v + 1) t (by omega) (by omega) (fun a j ha => (f1 a j (fun z => ha z.1)).trans (hA a j ha)) (z1.trans hA2) (fun j hj => ?_)
      by_cases e : j = i
      · rw [e, g1]
      · rw [f1 22 j (fun z => e z.2)]
        exact hB j (by omega)
theorem yC_remember {u : vS} (ho : ok_C u) : v_P (f_Ct_rememberVerdicts u) (fun _ t => (∀ a j, ¬ a = 22 → t.1 a j = u.1 a j) ∧ t.2 = u.2 ∧ ∀ i, i < 125 → t.1 22 i = vdC u i (u.1 8 2).toInt) := by
  unfold f_Ct_rememberVerdicts
  exact yC_remL ho (fun t h1 h2 h3 => v_Pret ⟨h1, h2, h3⟩) 4096 0 u (by decide) (by decide) (fun _ _ _ => rfl) rfl (fun i hi => absurd hi (Nat.not_lt_zero i))
def chg_p (u : vS) (i : Nat) : Bool := decide (¬ (u.1 22 i).toInt = (vdC u i (u.1 8 2).toInt).toInt)
theorem yC_chgL {u : vS} (ho : ok_C u) {k : vS → Option (Unit × vS)} {Q : Unit → vS → Prop} (hk : ∀ t, t.1 = u.1 → (∀ i, i < 128 → lb t 138 i = (decide (i < 125) && chg_p u i)) → v_P (k t) Q) : ∀ (n : Nat) (v : Int32) (s : vS), 0 ≤ v.toInt → v.toInt ≤ 125 → s.1 = u.1 → (∀ c j, ¬ c = 138 → s.2 c j = u.2 c j) → (∀ i, i < 128 → lb s 138 i = (decide (i < v.toInt.toNat) && chg_p u i)) → v_P (f_Ct_findChanged_L6 138 k n v s) Q
  | 0, _, _, _, _, _, _, _ => v_Pnone
  | n + 1, v, s, h0, h1, hA, hA2, hB => by
    show v_P (f_Ct_findChanged_L6b 138 k (f_Ct_findChanged_L6 138 k n) v s) Q
    unfold f_Ct_findChanged_L6b
    by_cases c : 125 ≤ v.toInt
    · rw [if_pos c]
      rw [show v.toInt.toNat = 125 by omega] at hB
      exact hk s hA hB
    · rw [if_neg c]
      obtain ⟨i, hi⟩ : ∃ i : Nat, v.toInt = i := ⟨v.toInt.toNat, by omega⟩
      have e1 := v_inc (x := v) (by omega)
      have hn1 : (v + 1).toInt.toNat = i + 1 := by omega
      have hn0 : v.toInt.toNat = i := by omega
      rw [hn0] at hB
      have hAu : j_Au u s := ⟨fun a j _ => by rw [hA], hA2⟩
      refine v_Pif (fun _ => ?_) (fun _ => v_Pnone)
      rw [show v.toNatClampNeg = i by rw [v_nc]; omega, hA]
      refine v_Pbi (yC_vd hAu ho hi (by omega)) ?_
      rintro r s2 ⟨rfl, rfl⟩
      by_cases z : (u.1 22 i).toInt = (vdC u i (u.1 8 2).toInt).toInt
      · rw [if_pos z]
        refine yC_chgL ho hk n (v + 1) _ (by omega) (by omega) hA hA2 ?_
        rw [hn1]
        exact yC_noadd hB (decide_eq_false (fun y => y z))
      · rw [if_neg z]
        obtain ⟨t, t1, t2, t3, t4⟩ := yC_add hAu (by omega) hB hi (decide_eq_true z : chg_p u i = true)
        rw [t1, v_bi_some]
        refine yC_chgL ho hk n (v + 1) t (by omega) (by omega) (t3.trans hA) t2.2 ?_
        rw [hn1]
        exact t4
theorem yC_changed {u : vS} (ho : ok_C u) : v_P (f_Ct_findChanged 138 u) (fun _ t => t.1 = u.1 ∧ ∀ i, i < 128 → lb t 138 i = (decide (i < 125) && chg_p u i)) := by
  unfold f_Ct_findChanged
  obtain ⟨v, v1, v2, v3, v4⟩ := lb_clear (a := 138) (s := u)
  rw [v1, v_bi_some]
  exact yC_chgL ho (fun t h1 h2 => v_Pret ⟨h1, h2⟩) 4096 0 v (by decide) (by decide) v2 v3 (fun i _ => by rw [v4 i]; rfl)
theorem hS_sc {a j : Nat} (h : hx_S a j) : v_sc a j := by
  unfold hx_S at h
  rcases h with h | h | h
  · exact hR_sc h
  · unfold v_sc
    exact Or.inr (Or.inr (Or.inr (Or.inr (Or.inr (Or.inr (Or.inl ⟨by omega, by omega⟩))))))
  · unfold v_sc
    exact Or.inr (Or.inr (Or.inr (Or.inr (Or.inl h))))
theorem v_sc22 {a j : Nat} (h : a = 22) : v_sc a j := by
  unfold v_sc
  exact Or.inr (Or.inr (Or.inr (Or.inr (Or.inr (Or.inr (Or.inl ⟨by omega, by omega⟩))))))
/-- both have heard, and remember their verdicts: the relation holds on -/
theorem jm_J6 {s t u s6 w t6 : vS} {AC : Nat → List gL} (h : j_R s t) (hR : v_RI t) (f1 : v_F hx_S s u) (q1 : ∀ a j, ¬ a = 22 → s6.1 a j = u.1 a j) (hw : hd_M s t w AC) (p1 : j_Bw w t6) : j_R s6 t6 ∧ v_RI t6 := by
  refine ⟨j_R_M (j_R_C h (fun a j q => ?_)) (fun a j q => ?_), v_RI_F hR (fun a j q => ⟨(p1.1 a j (fun z => q (by unfold v_sd; omega))).trans (hw.1.1.1 a j (fun z => q (by unfold v_sd; omega))), by rw [p1.2, hw.1.1.2]⟩)⟩
  · have hns := jb_C_sc a j q
    exact (q1 a j (fun z => hns (v_sc22 z))).trans (f1 a j (fun z => hns (hS_sc z))).1
  · exact (p1.1 a j (fun z => by unfold jb_M at q; omega)).trans (hw.1.1.1 a j (fun z => by unfold jb_M at q; omega))
theorem jm_J9 {b : Int32} (hb : 0 ≤ b.toInt ∧ b.toInt ≤ 2) {s6 s9 t6 t9 : vS} (hJ6 : j_R s6 t6) (hR6 : v_RI t6) (a3 : f_Ws_move b (-1) 0 s6 = some ((), s9)) (et9 : t9 = v_w1 t6 163 (Int32.toNatClampNeg b) (-1)) : j_R s9 t9 ∧ v_RI t9 := by
  have hc9 : f_Ol_moved b (-1) 0 s6 = some (1, s9) := by
    unfold f_Ol_moved
    rw [jz_isWord, v_bi_some, v_bif, if_pos hb, if_pos (show (-1 : Int32).toInt = -1 from rfl), a3, v_bi_some]
  have hm9 : f_Md_moved b (-1) 0 t6 = some (1, t9) := by
    unfold f_Md_moved
    rw [z_in, v_bi_some, v_bif, if_pos (show (0 : Int32).toInt ≤ b.toInt ∧ b.toInt ≤ (2 : Int32).toInt from hb), if_pos (show (-1 : Int32).toInt = -1 from rfl), if_pos (show v_in b 3 from ⟨hb.1, by omega⟩), et9]
    rfl
  exact ⟨(j_moved hJ6 b (-1) 0 _ _ _ _ hc9 hm9).1, by rw [et9]; exact (v_RI_n hR6 (by unfold m_N; omega)).1⟩
theorem jr_meantA {s t : vS} (h : j_R s t) (hR : v_RI t) (hK : v_KQ s) (h2 : j_2 s) (b c : Int32) : j_An s t (f_Ol_meant b c s) (f_Md_meant b c t) := by
  obtain ⟨AC, hAC⟩ := j_ACex h hR.1.1.2
  have bad : ∀ {o1 o2 : Option (Int32 × vS)}, v_P o1 (fun r _ => r = -1) → v_P o2 (fun r _ => r = -1) → j_An s t o1 o2 := fun g1 g2 => j_AnI g1 g2 (fun _ _ _ _ a1 a2 => by rw [a1, a2])
  unfold f_Ol_meant f_Md_meant
  rw [jz_isWord, v_bi_some, v_bif, z_in, v_bi_some, v_bif]
  by_cases hb : 0 ≤ b.toInt ∧ b.toInt ≤ 2
  · rw [if_pos hb, if_pos (show (0 : Int32).toInt ≤ b.toInt ∧ b.toInt ≤ (2 : Int32).toInt from hb), y_either, v_bi_some, v_bif, z_in, v_bi_some, v_bif]
    by_cases hc : c.toInt = 0 ∨ c.toInt = 1
    · rw [if_pos hc, if_pos (z_either.mpr hc)]
      intro r1 s1 r2 t1 e1 e2
      have hHh := j_Hh_of h hR hK
      obtain ⟨_, u, a1, e1⟩ := v_bd e1
      obtain ⟨f1, g1⟩ := kH hHh h2 _ u a1
      have hu := jd_C h hR hK h2 hAC _ u a1
      obtain ⟨_, s6, a2, e1⟩ := v_bd e1
      obtain ⟨q1, q2, q3⟩ := yC_remember hu.2 _ s6 a2
      have w6 := w_remember u _ s6 a2
      have g6 := j_2U g1 w6
      have hH6 := j_Hh_T hHh (v_F_tr (v_F_TS f1) (v_F_TU w6))
      rw [y_to b s6 hb, v_bi_some, y_from b s6 hb, v_bi_some] at e1
      obtain ⟨_, s9, a3, e1⟩ := v_bd e1
      have es9 := y_move b (-1) 0 s6 hb _ s9 a3
      have g9 : j_2 s9 := by rw [es9]; exact j_2mv g6 (by decide)
      have hH9 : j_Hh s9 := by rw [es9]; exact j_Hh_T hH6 (v_F_w1 (v_F_w1 v_F_rf (by unfold hx_T; omega)) (by unfold hx_T; omega))
      obtain ⟨_, u2, a4, e1⟩ := v_bd e1
      obtain ⟨_, s11, a5, e1⟩ := v_bd e1
      obtain ⟨_, s12, a6, e1⟩ := v_bd e1
      obtain ⟨_, w, b1, e2⟩ := v_bd e2
      have hw := jd_M h hR hAC _ w b1
      obtain ⟨_, t6, b2, e2⟩ := v_bd e2
      obtain ⟨p1, p2⟩ := yM_keep hw.2 _ _ t6 b2
      obtain ⟨_, e2⟩ := v_ck e2
      obtain ⟨_, e2⟩ := v_ck e2
      obtain ⟨t9, et9, e2⟩ := v_ld e2
      obtain ⟨_, w2, b3, e2⟩ := v_bd e2
      obtain ⟨x2, t11, b4, e2⟩ := v_bd e2
      obtain ⟨_, e2⟩ := v_ck e2
      obtain ⟨t13, _, e2⟩ := v_ld e2
      obtain ⟨hJ6, hR6⟩ := jm_J6 h hR f1 q1 hw p1
      obtain ⟨hJ9, hR9⟩ := jm_J9 hb hJ6 hR6 a3 et9
      obtain ⟨AC2, hAC2⟩ := j_ACex hJ9 hR9.1.1.2
      have hu2 := jd_C hJ9 hR9 hH9.1 g9 hAC2 _ u2 a4
      have hw2 := jd_M hJ9 hR9 hAC2 _ w2 b3
      obtain ⟨hV, hr8, _⟩ := jd_V h hR hAC hu hw
      obtain ⟨hV2, hr82, _⟩ := jd_V hJ9 hR9 hAC2 hu2 hw2
      obtain ⟨k1, k2⟩ := yC_changed hu2.2 _ s11 a5
      obtain ⟨m1, m2⟩ := yM_unlike hw2.2 _ c x2 t11 b4
      have ht6 : s12.2 = s11.2 := by
        have := y_move b _ _ s11 hb _ s12 a6
        rw [this]
        rfl
      have k3 : ∀ i, i < 128 → lb s12 138 i = (decide (i < 125) && chg_p u2 i) := fun i hi => by
        rw [← k2 i hi]
        unfold lb
        rw [ht6]
      have k4 := yC_an2 k3 c r1 s1 e1
      rw [← (v_so e2).1]
      refine an_S_eq (fun i hi => ?_) k4 m2
      have h22 : u2.1 22 i = vdC u i (u.1 8 2).toInt := by
        rw [(hu2.1.1.1 22 i (by unfold hx_S hx_R; omega)).1, es9, v_w1_1, if_neg (by omega), v_w1_1, if_neg (by omega)]
        exact q3 i hi
      have h173 : w2.1 173 i = vdM w i (w.1 151 18).toInt := by
        rw [hw2.1.1.1 173 i (by omega), et9, v_w1_1, if_neg (by omega)]
        exact p2 i hi
      unfold chg_p unM_p
      rw [h22, h173, jv_vd hV hi, jv_vd hV2 hi, hr8, hr82]
      exact decide_eq_decide.mpr ⟨fun z y => z y.symm, fun z y => z y.symm⟩
    · rw [if_neg hc, if_neg (fun z => hc (z_either.mp z))]; exact bad (v_Pret rfl) (v_Pret rfl)
  · rw [if_neg hb, if_neg (show ¬ ((0 : Int32).toInt ≤ b.toInt ∧ b.toInt ≤ (2 : Int32).toInt) from hb)]; exact bad (v_Pret rfl) (v_Pret rfl)
