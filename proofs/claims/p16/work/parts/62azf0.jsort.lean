/-! who stands: the class's order by age -/
def ol (D : Nat → Int32) (i j : Nat) : Prop := (D i).toInt < (D j).toInt ∨ ((D i).toInt = (D j).toInt ∧ i < j)
theorem ol_tr {D : Nat → Int32} {i j k : Nat} (h1 : ol D i j) (h2 : ol D j k) : ol D i k := by unfold ol at *; omega
theorem ol_ir {D : Nat → Int32} {i : Nat} : ¬ ol D i i := by unfold ol; omega
theorem ol_tot {D : Nat → Int32} {i j : Nat} (h : ¬ i = j) (h2 : ¬ ol D i j) : ol D j i := by unfold ol at *; omega
theorem ol_as {D : Nat → Int32} {i j : Nat} (h : ol D i j) : ¬ ol D j i := by unfold ol at *; omega
/-- the date of a law, on the class's side -/
abbrev dC (s : vS) : Nat → Int32 := fun k => s.1 (23 + 5 * k) 1
theorem y_isOlder (s : vS) (hn : j_num s) {i j : Nat} (hi : i < 10) (hj : j < 10) : v_P (f_Lw_isOlderThan (23 + 5 * i) (23 + 5 * j) s) (fun r u => u = s ∧ (¬ r.toInt = 0 ↔ ol (dC s) i j)) := by
  have n1 := hn i hi
  have n2 := hn j hj
  unfold f_Lw_isOlderThan ol
  by_cases h1 : (s.1 (23 + 5 * i) 1).toInt < (s.1 (23 + 5 * j) 1).toInt
  · rw [if_pos h1]
    exact v_Pret ⟨rfl, fun _ => Or.inl h1, fun _ => by decide⟩
  · rw [if_neg h1]
    by_cases h2 : (s.1 (23 + 5 * i) 1).toInt = (s.1 (23 + 5 * j) 1).toInt
    · rw [if_pos h2]
      by_cases h3 : (s.1 (23 + 5 * j) 0).toInt ≤ (s.1 (23 + 5 * i) 0).toInt
      · rw [if_pos h3]
        refine v_Pret ⟨rfl, fun q => absurd rfl q, fun q => ?_⟩
        rcases q with q | q
        · exact absurd q h1
        · omega
      · rw [if_neg h3]
        exact v_Pret ⟨rfl, fun _ => Or.inr ⟨h2, by omega⟩, fun _ => by decide⟩
    · rw [if_neg h2]
      refine v_Pret ⟨rfl, fun q => absurd rfl q, fun q => ?_⟩
      rcases q with q | q
      · exact absurd q h1
      · exact absurd q.1 h2
/-- the first k places hold the first k laws, from the oldest on -/
def st_S (D : Nat → Int32) (s : vS) (k : Nat) : Prop := (∀ i, i < k → 0 ≤ (s.1 20 i).toInt ∧ (s.1 20 i).toInt < k) ∧ (∀ i j, i < j → j < k → ol D (s.1 20 i).toInt.toNat (s.1 20 j).toInt.toNat) ∧ ∀ m, m < k → ∃ i, i < k ∧ (s.1 20 i).toInt = m
def st_E (s t : vS) : Prop := ∀ a j, ¬ a = 20 → t.1 a j = s.1 a j
theorem y_srtI {s0 : vS} (hn : j_num s0) {k : Nat} (hk : k < 10) {p : Int32} (hp : p.toInt = k) (hS : st_S (dC s0) s0 k) {K : Int32 → vS → Option (Unit × vS)} {Q : Unit → vS → Prop} (hK : ∀ (w : Int32) (t : vS), st_E s0 t → 0 ≤ w.toInt → w.toInt ≤ k → (∀ i, i < w.toInt.toNat → t.1 20 i = s0.1 20 i ∧ ol (dC s0) (s0.1 20 i).toInt.toNat k) → (∀ i, w.toInt.toNat < i → i ≤ k → t.1 20 i = s0.1 20 (i - 1) ∧ ol (dC s0) k (s0.1 20 (i - 1)).toInt.toNat) → v_P (K w t) Q) : ∀ (n : Nat) (v : Int32) (s : vS), 0 ≤ v.toInt → v.toInt ≤ k → st_E s0 s → (∀ i, i < v.toInt.toNat → s.1 20 i = s0.1 20 i) → (∀ i, v.toInt.toNat < i → i ≤ k → s.1 20 i = s0.1 20 (i - 1) ∧ ol (dC s0) k (s0.1 20 (i - 1)).toInt.toNat) → v_P (f_Ct_sortByAge_L21 p K n v s) Q
  | 0, _, _, _, _, _, _, _ => v_Pnone
  | n + 1, v, s, hv, hvk, hE, h1, h2 => by
    show v_P (f_Ct_sortByAge_L21b p K (f_Ct_sortByAge_L21 p K n) v s) Q
    unfold f_Ct_sortByAge_L21b
    by_cases hc : v.toInt ≤ 0
    · rw [if_pos hc]
      exact hK v s hE hv hvk (fun i hi => by omega) h2
    · rw [if_neg hc]
      have ed : (v - (1 : Int32)).toInt = v.toInt - 1 := v_sub (y := 1) (show -2147483648 ≤ v.toInt - 1 by omega) (show v.toInt - 1 < 2147483648 by omega)
      have ed2 : (v + (-1)).toInt = v.toInt - 1 := v_dec (by omega)
      have em : (v - (1 : Int32)).toNatClampNeg = v.toInt.toNat - 1 := by rw [v_nc, ed]; omega
      have hpn : p.toNatClampNeg = k := by rw [v_nc]; omega
      rw [jz_at p s ⟨by omega, by omega⟩, v_bi_some, hpn]
      refine v_Pif (fun _ => ?_) (fun _ => v_Pnone)
      refine v_Pif (fun _ => ?_) (fun _ => v_Pnone)
      rw [em]
      have e0 := h1 (v.toInt.toNat - 1) (by omega)
      have hb := hS.1 (v.toInt.toNat - 1) (by omega)
      rw [e0, jz_at _ s ⟨hb.1, by omega⟩, v_bi_some, v_nc]
      refine v_Pif (fun _ => ?_) (fun _ => v_Pnone)
      have hD : dC s = dC s0 := by funext i; exact hE _ _ (by omega)
      have hn2 : j_num s := fun i hi => by rw [hE _ _ (by omega)]; exact hn i hi
      refine v_Pbi (y_isOlder s hn2 hk (j := (s0.1 20 (v.toInt.toNat - 1)).toInt.toNat) (by omega)) ?_
      rintro r u ⟨rfl, hr⟩
      rw [hD] at hr
      by_cases hz : r.toInt = 0
      · rw [if_pos hz]
        have hno : ¬ ol (dC s0) k (s0.1 20 (v.toInt.toNat - 1)).toInt.toNat := fun q => absurd hz (hr.mpr q)
        have hlast : ol (dC s0) (s0.1 20 (v.toInt.toNat - 1)).toInt.toNat k := ol_tot (by omega) hno
        refine hK v u hE hv hvk (fun i hi => ⟨h1 i hi, ?_⟩) h2
        by_cases hi2 : i = v.toInt.toNat - 1
        · rw [hi2]; exact hlast
        · exact ol_tr (hS.2.1 i (v.toInt.toNat - 1) (by omega) (by omega)) hlast
      · rw [if_neg hz]
        have hol := hr.mp hz
        refine v_Pif (fun _ => v_Pif (fun _ => v_Plet ?_) (fun _ => v_Pnone)) (fun _ => v_Pnone)
        rw [e0, v_nc]
        generalize v + (-1) = v1 at ed2 ⊢
        clear ed em
        refine y_srtI hn hk hp hS hK n v1 _ (by omega) (by omega) (fun a j ha => by rw [v_w1_1, if_neg (fun q => ha q.1)]; exact hE a j ha) (fun i hi => ?_) (fun i hi hik => ?_)
        · rw [v_w1_1, if_neg (by omega)]
          exact h1 i (by omega)
        · by_cases hz2 : i = v.toInt.toNat
          · subst hz2
            rw [v_w1_1, if_pos ⟨rfl, rfl⟩]
            exact ⟨rfl, hol⟩
          · rw [v_w1_1, if_neg (by omega)]
            exact h2 i (by omega) hik
theorem st_ins {D : Nat → Int32} {s0 t : vS} {k w : Nat} (hS : st_S D s0 k) (hw : w ≤ k) (h1 : ∀ i, i < w → t.1 20 i = s0.1 20 i ∧ ol D (s0.1 20 i).toInt.toNat k) (h2 : ∀ i, w < i → i ≤ k → t.1 20 i = s0.1 20 (i - 1) ∧ ol D k (s0.1 20 (i - 1)).toInt.toNat) (hk : (t.1 20 w).toInt = k) : st_S D t (k + 1) := by
  obtain ⟨a1, a2, a3⟩ := hS
  have hkn : (t.1 20 w).toInt.toNat = k := by omega
  refine ⟨fun i hi => ?_, fun i j hij hj => ?_, fun m hm => ?_⟩
  · rcases Nat.lt_trichotomy i w with z | z | z
    · have := a1 i (by omega)
      rw [(h1 i z).1]; omega
    · rw [z]; omega
    · have := a1 (i - 1) (by omega)
      rw [(h2 i z (by omega)).1]; omega
  · rcases Nat.lt_trichotomy i w with z | z | z
    · rcases Nat.lt_trichotomy j w with y | y | y
      · rw [(h1 i z).1, (h1 j y).1]
        exact a2 i j hij (by omega)
      · rw [y, hkn, (h1 i z).1]
        exact (h1 i z).2
      · rw [(h1 i z).1, (h2 j y (by omega)).1]
        exact ol_tr (h1 i z).2 (h2 j y (by omega)).2
    · subst z
      rw [hkn, (h2 j hij (by omega)).1]
      exact (h2 j hij (by omega)).2
    · rw [(h2 i z (by omega)).1, (h2 j (by omega) (by omega)).1]
      exact a2 (i - 1) (j - 1) (by omega) (by omega)
  · by_cases hz : m = k
    · exact ⟨w, by omega, by omega⟩
    · obtain ⟨i, i1, i2⟩ := a3 m (by omega)
      by_cases hi : i < w
      · exact ⟨i, by omega, by rw [(h1 i hi).1]; exact i2⟩
      · exact ⟨i + 1, by omega, by rw [(h2 (i + 1) (by omega) (by omega)).1, show i + 1 - 1 = i by omega]; exact i2⟩
theorem y_srtO {s0 : vS} (hn : j_num s0) (hm : (s0.1 8 1).toInt ≤ 10) {K : vS → Option (Unit × vS)} {Q : Unit → vS → Prop} (hK : ∀ t, st_E s0 t → st_S (dC s0) t (s0.1 8 1).toInt.toNat → v_P (K t) Q) : ∀ (n : Nat) (v : Int32) (s : vS), 0 ≤ v.toInt → v.toInt ≤ (s0.1 8 1).toInt → st_E s0 s → st_S (dC s0) s v.toInt.toNat → v_P (f_Ct_sortByAge_L2 K n v s) Q
  | 0, _, _, _, _, _, _ => v_Pnone
  | n + 1, v, s, hv, hvm, hE, hS => by
    show v_P (f_Ct_sortByAge_L2b K (f_Ct_sortByAge_L2 K n) v s) Q
    unfold f_Ct_sortByAge_L2b
    rw [hE 8 1 (by decide)]
    have hfin : v.toInt = (s0.1 8 1).toInt → v_P (K s) Q := fun e => hK s hE (by rw [← e]; exact hS)
    by_cases hc : (s0.1 8 1).toInt ≤ v.toInt
    · rw [if_pos hc]
      exact hfin (by omega)
    · rw [if_neg hc, if_neg (by omega)]
      have hD : dC s = dC s0 := by funext i; exact hE _ _ (by omega)
      have hn2 : j_num s := fun i hi => by rw [hE _ _ (by omega)]; exact hn i hi
      have ei := v_inc (x := v) (by omega)
      refine y_srtI hn2 (k := v.toInt.toNat) (by omega) (p := v) (by omega) (by rw [hD]; exact hS) (fun w t tE w0 wk t1 t2 => ?_) 4096 v s hv (by omega) (fun _ _ _ => rfl) (fun _ _ => rfl) (fun i h1 h2 => by omega)
      rw [hD] at t1 t2
      refine v_Pif (fun _ => v_Plet ?_) (fun _ => v_Pnone)
      rw [v_nc]
      refine y_srtO hn hm hK n (v + 1) _ (by omega) (by omega) (fun a j ha => by rw [v_w1_1, if_neg (fun q => ha q.1), tE a j ha]; exact hE a j ha) ?_
      rw [show (v + 1).toInt.toNat = v.toInt.toNat + 1 by omega]
      refine st_ins hS (w := w.toInt.toNat) (by omega) (fun i hi => ?_) (fun i hi hik => ?_) ?_
      · rw [v_w1_1, if_neg (by omega)]
        exact t1 i hi
      · rw [v_w1_1, if_neg (by omega)]
        exact t2 i hi hik
      · rw [v_w1_1, if_pos ⟨rfl, rfl⟩]
        omega
theorem y_sort (s : vS) (hn : j_num s) (hm : 0 ≤ (s.1 8 1).toInt ∧ (s.1 8 1).toInt ≤ 10) : v_P (f_Ct_sortByAge s) (fun _ t => st_E s t ∧ st_S (dC s) t (s.1 8 1).toInt.toNat) := by
  unfold f_Ct_sortByAge
  exact y_srtO hn hm.2 (fun t h1 h2 => v_Pret ⟨h1, h2⟩) 4096 0 s (by decide) hm.1 (fun _ _ _ => rfl) ⟨fun i hi => absurd hi (Nat.not_lt_zero i), fun i j _ hj => absurd hj (Nat.not_lt_zero j), fun m hm => absurd hm (Nat.not_lt_zero m)⟩
/-! who is there, as bits -/
theorem b_zero {x : Int32} {n : Nat} (hn : n < 32) : (x &&& ((1 : Int32) <<< (Int32.ofNat n &&& 31))).toInt = 0 ↔ bt x n = false := by
  have e : (x &&& ((1 : Int32) <<< (Int32.ofNat n &&& 31))).toInt = 0 ↔ (x &&& ((1 : Int32) <<< (Int32.ofNat n &&& 31))) = 0 := ⟨fun h => Int32.toInt_inj.mp h, fun h => by rw [h]; rfl⟩
  have h1 : ∀ i, i < 32 → bt ((1 : Int32) <<< (Int32.ofNat n &&& 31)) i = decide (i = n) := fun i hi => by
    have h2 := b_set (x := 0) hn hi
    rw [b_or, b_0, Bool.false_or, Bool.false_or] at h2
    exact h2
  rw [e]
  constructor
  · intro h
    have h2 := b_and x ((1 : Int32) <<< (Int32.ofNat n &&& 31)) n
    rw [h, b_0, h1 n hn] at h2
    simpa using h2.symm
  · intro h
    refine b_ext (fun i hi => ?_)
    rw [b_and, b_0, h1 i hi]
    by_cases hz : i = n
    · rw [hz, h]; rfl
    · simp [hz]
theorem b_not {x : Int32} {i : Nat} (hi : i < 32) : bt (x ^^^ (-1)) i = !bt x i := by
  have h1 : ∀ i, i < 32 → bt (-1) i = true := by decide +kernel
  unfold bt
  rw [Int32.toBitVec_xor, BitVec.getLsbD_xor]
  have h2 : (-1 : Int32).toBitVec.getLsbD i = true := h1 i hi
  rw [h2, Bool.xor_true]
/-- the bits of those that are there -/
def st_B (p : Nat → Prop) (x : Int32) (k : Nat) : Prop := ∀ i, i < 32 → (bt x i = true ↔ (i < k ∧ p i))
theorem st_B0 {p : Nat → Prop} : st_B p 0 0 := fun i _ => ⟨fun q => (by rw [b_0] at q; cases q), fun q => absurd q.1 (Nat.not_lt_zero i)⟩
theorem st_Bt {p : Nat → Prop} {x : Int32} {k : Nat} (hk : k < 32) (h : st_B p x k) (hp : p k) : st_B p (x ||| ((1 : Int32) <<< (Int32.ofNat k &&& 31))) (k + 1) := fun i hi => by
  rw [b_set hk hi, Bool.or_eq_true, decide_eq_true_eq, h i hi]
  constructor
  · rintro (q | q)
    · exact ⟨by omega, q.2⟩
    · rw [q]; exact ⟨by omega, hp⟩
  · rintro ⟨q1, q2⟩
    by_cases hz : i = k
    · exact Or.inr hz
    · exact Or.inl ⟨by omega, q2⟩
theorem st_Bf {p : Nat → Prop} {x : Int32} {k : Nat} (h : st_B p x k) (hp : ¬ p k) : st_B p x (k + 1) := fun i hi => by
  rw [h i hi]
  constructor
  · rintro ⟨q1, q2⟩
    exact ⟨by omega, q2⟩
  · rintro ⟨q1, q2⟩
    by_cases hz : i = k
    · rw [hz] at q2; exact absurd q2 hp
    · exact ⟨by omega, q2⟩
theorem y_thL {s : vS} (hm : (s.1 8 1).toInt ≤ 10) : ∀ (n : Nat) (u v : Int32), 0 ≤ v.toInt → v.toInt ≤ (s.1 8 1).toInt → st_B (fun k => xTh s k) u v.toInt.toNat → v_P (f_Ct_there_L4 (fun w1 s2 => some (w1, s2)) n u v s) (fun r t => t = s ∧ st_B (fun k => xTh s k) r (s.1 8 1).toInt.toNat)
  | 0, _, _, _, _, _ => v_Pnone
  | n + 1, u, v, hv, hvm, h => by
    show v_P (f_Ct_there_L4b (fun w1 s2 => some (w1, s2)) (f_Ct_there_L4 (fun w1 s2 => some (w1, s2)) n) u v s) _
    unfold f_Ct_there_L4b
    by_cases hc : (s.1 8 1).toInt ≤ v.toInt
    · rw [if_pos hc]
      exact v_Pret ⟨rfl, by rw [show (s.1 8 1).toInt = v.toInt by omega]; exact h⟩
    · rw [if_neg hc]
      have ei := v_inc (x := v) (by omega)
      have en : (v + 1).toInt.toNat = v.toInt.toNat + 1 := by omega
      have evn : ((v.toInt.toNat : Nat) : Int) = v.toInt := by omega
      refine v_Pbi (y_thereC v s hm) ?_
      rintro r t ⟨rfl, -, hr⟩
      by_cases hz : r.toInt = 0
      · rw [if_pos hz]
        refine y_thL hm n u (v + 1) (by omega) (by omega) ?_
        rw [en]
        exact st_Bf h (fun q => absurd hz (hr.mpr (by rw [← evn]; exact q)))
      · rw [if_neg hz]
        refine y_thL hm n _ (v + 1) (by omega) (by omega) ?_
        rw [en]
        have h3 := st_Bt (k := v.toInt.toNat) (by omega) h (by show xTh t (v.toInt.toNat : Int); rw [evn]; exact hr.mp hz)
        rw [← v_of hv] at h3
        exact h3
theorem y_there (s : vS) (hm : 0 ≤ (s.1 8 1).toInt ∧ (s.1 8 1).toInt ≤ 10) : v_P (f_Ct_there s) (fun r t => t = s ∧ st_B (fun k => xTh s k) r (s.1 8 1).toInt.toNat) := by
  unfold f_Ct_there
  exact y_thL hm.2 4096 0 0 (by decide) hm.1 st_B0
/-! who stands, as the class finds it -/
/-- what it is to stand -/
def st_F (n : Nat) (th : Nat → Prop) (D S : Nat → Int32) (A : Nat → Prop) : Prop := ∀ m, m < n → (A m ↔ (th m ∧ ¬ ∃ j, j < n ∧ ol D j m ∧ A j ∧ (S j).toInt = m))
theorem st_uniq {n : Nat} {th : Nat → Prop} {D S : Nat → Int32} {A B : Nat → Prop} (hA : st_F n th D S A) (hB : st_F n th D S B) : ∀ (N m : Nat), m < n → ((D m).toInt * 1000 + 2147483648000 + m).toNat < N → n ≤ 100 → (A m ↔ B m)
  | 0, _, _, h, _ => absurd h (Nat.not_lt_zero _)
  | N + 1, m, hm, hN, hn => by
    rw [hA m hm, hB m hm]
    have hl := Int32.le_toInt (D m)
    have h1 : ∀ j, j < n → ol D j m → (A j ↔ B j) := fun j hj hol => by
      have hl2 := Int32.le_toInt (D j)
      exact st_uniq hA hB N j hj (by unfold ol at hol; omega) hn
    constructor
    · rintro ⟨q1, q2⟩
      refine ⟨q1, fun q => q2 ?_⟩
      obtain ⟨j, j1, j2, j3, j4⟩ := q
      exact ⟨j, j1, j2, (h1 j j1 j2).mpr j3, j4⟩
    · rintro ⟨q1, q2⟩
      refine ⟨q1, fun q => q2 ?_⟩
      obtain ⟨j, j1, j2, j3, j4⟩ := q
      exact ⟨j, j1, j2, (h1 j j1 j2).mp j3, j4⟩
abbrev stK (s : vS) : Nat → Int32 := fun k => s.1 (23 + 5 * k) 3
/-- the loop: the first k places of the order are done; x: who stands of them, v: who is struck by those -/
def st_L (th : Nat → Prop) (f : Nat → Nat) (S : Nat → Int32) (x v : Int32) (k : Nat) : Prop := (∀ m, m < 32 → bt x m = true → ∃ i, i < k ∧ f i = m) ∧ (∀ i, i < k → (bt x (f i) = true ↔ (th (f i) ∧ ¬ ∃ j, j < i ∧ bt x (f j) = true ∧ (S (f j)).toInt = f i))) ∧ ∀ m, m < 32 → (bt v m = true ↔ ∃ i, i < k ∧ bt x (f i) = true ∧ (S (f i)).toInt = m)
theorem st_L0 {th : Nat → Prop} {f : Nat → Nat} {S : Nat → Int32} : st_L th f S 0 0 0 := ⟨fun m _ q => (by rw [b_0] at q; cases q), fun i hi => absurd hi (Nat.not_lt_zero i), fun m _ => ⟨fun q => (by rw [b_0] at q; cases q), fun q => by obtain ⟨i, hi, _⟩ := q; exact absurd hi (Nat.not_lt_zero i)⟩⟩
theorem st_Lno {th : Nat → Prop} {f : Nat → Nat} {S : Nat → Int32} {x v : Int32} {k : Nat} (hf : f k < 32) (hinj : ∀ i, i < k → ¬ f i = f k) (h : st_L th f S x v k) (hno : ¬ (th (f k) ∧ bt v (f k) = false)) : st_L th f S x v (k + 1) := by
  obtain ⟨a1, a2, a3⟩ := h
  have hx : ¬ bt x (f k) = true := fun q => by
    obtain ⟨i, i1, i2⟩ := a1 _ hf q
    exact hinj i i1 i2
  refine ⟨fun m hm q => ?_, fun i hi => ?_, fun m hm => ?_⟩
  · obtain ⟨i, i1, i2⟩ := a1 m hm q
    exact ⟨i, by omega, i2⟩
  · by_cases hz : i = k
    · subst hz
      refine ⟨fun q => absurd q hx, fun q => absurd ⟨q.1, ?_⟩ hno⟩
      cases hv : bt v (f i) with
      | false => rfl
      | true => exact absurd ((a3 _ hf).mp hv) q.2
    · exact a2 i (by omega)
  · rw [a3 m hm]
    constructor
    · rintro ⟨i, i1, i2⟩
      exact ⟨i, by omega, i2⟩
    · rintro ⟨i, i1, i2, i3⟩
      by_cases hz : i = k
      · rw [hz] at i2; exact absurd i2 hx
      · exact ⟨i, by omega, i2, i3⟩
theorem st_Lyes {th : Nat → Prop} {f : Nat → Nat} {S : Nat → Int32} {x v w : Int32} {k : Nat} (hf : ∀ i, i ≤ k → f i < 32) (hinj : ∀ i, i < k → ¬ f i = f k) (h : st_L th f S x v k) (hy : th (f k) ∧ bt v (f k) = false) (hw : ∀ m, m < 32 → (bt w m = true ↔ (bt v m = true ∨ (S (f k)).toInt = m))) : st_L th f S (x ||| ((1 : Int32) <<< (Int32.ofNat (f k) &&& 31))) w (k + 1) := by
  obtain ⟨a1, a2, a3⟩ := h
  have hb : ∀ m, m < 32 → (bt (x ||| ((1 : Int32) <<< (Int32.ofNat (f k) &&& 31))) m = true ↔ (bt x m = true ∨ m = f k)) := fun m hm => by
    rw [b_set (hf k (Nat.le_refl _)) hm, Bool.or_eq_true, decide_eq_true_eq]
  have hbi : ∀ i, i < k → (bt (x ||| ((1 : Int32) <<< (Int32.ofNat (f k) &&& 31))) (f i) = true ↔ bt x (f i) = true) := fun i hi => by
    rw [hb _ (hf i (by omega))]
    exact ⟨fun q => q.elim id (fun z => absurd z (hinj i hi)), Or.inl⟩
  refine ⟨fun m hm q => ?_, fun i hi => ?_, fun m hm => ?_⟩
  · rcases (hb m hm).mp q with q | q
    · obtain ⟨i, i1, i2⟩ := a1 m hm q
      exact ⟨i, by omega, i2⟩
    · exact ⟨k, by omega, q.symm⟩
  · by_cases hz : i = k
    · subst hz
      refine ⟨fun _ => ⟨hy.1, fun q => ?_⟩, fun _ => (hb _ (hf i (Nat.le_refl _))).mpr (Or.inr rfl)⟩
      obtain ⟨j, j1, j2, j3⟩ := q
      have h4 := (a3 (f i) (hf i (Nat.le_refl _))).mpr ⟨j, j1, (hbi j j1).mp j2, j3⟩
      rw [hy.2] at h4
      cases h4
    · rw [hbi i (by omega), a2 i (by omega)]
      constructor
      · rintro ⟨q1, q2⟩
        exact ⟨q1, fun ⟨j, j1, j2, j3⟩ => q2 ⟨j, j1, (hbi j (by omega)).mp j2, j3⟩⟩
      · rintro ⟨q1, q2⟩
        exact ⟨q1, fun ⟨j, j1, j2, j3⟩ => q2 ⟨j, j1, (hbi j (by omega)).mpr j2, j3⟩⟩
  · rw [hw m hm, a3 m hm]
    constructor
    · rintro (⟨i, i1, i2, i3⟩ | q)
      · exact ⟨i, by omega, (hbi i i1).mpr i2, i3⟩
      · exact ⟨k, by omega, (hb _ (hf k (Nat.le_refl _))).mpr (Or.inr rfl), q⟩
    · rintro ⟨i, i1, i2, i3⟩
      by_cases hz : i = k
      · subst hz; exact Or.inr i3
      · exact Or.inl ⟨i, by omega, (hbi i (by omega)).mp i2, i3⟩
/-- at the end all is as it is to stand -/
theorem st_Lend {th : Nat → Prop} {D S : Nat → Int32} {s : vS} {x v : Int32} {n : Nat} (hn : n ≤ 10) (hS : st_S D s n) (h : st_L th (fun i => (s.1 20 i).toInt.toNat) S x v n) : st_F n th D S (fun m => bt x m = true) := by
  obtain ⟨b1, b2, b3⟩ := hS
  obtain ⟨a1, a2, a3⟩ := h
  intro m hm
  obtain ⟨i, i1, i2⟩ := b3 m hm
  have e : m = (s.1 20 i).toInt.toNat := by omega
  have h2 := a2 i i1
  dsimp only at h2
  rw [← e] at h2
  show bt x m = true ↔ _
  rw [h2]
  constructor
  · rintro ⟨q1, q2⟩
    refine ⟨q1, fun ⟨j, j1, j2, j3, j4⟩ => q2 ?_⟩
    obtain ⟨k, k1, k2⟩ := b3 j j1
    have ek : j = (s.1 20 k).toInt.toNat := by omega
    refine ⟨k, ?_, by rw [← ek]; exact j3, by rw [← ek]; exact j4⟩
    rcases Nat.lt_trichotomy k i with z | z | z
    · exact z
    · rw [z] at ek
      rw [ek, ← e] at j2
      exact absurd j2 ol_ir
    · have h5 := b2 i k z k1
      rw [← e, ← ek] at h5
      exact absurd j2 (ol_as h5)
  · rintro ⟨q1, q2⟩
    refine ⟨q1, fun ⟨j, j1, j2, j3⟩ => q2 ?_⟩
    have hj := b1 j (by omega)
    refine ⟨(s.1 20 j).toInt.toNat, by omega, ?_, j2, j3⟩
    have h5 := b2 j i j1 i1
    rw [← e] at h5
    exact h5
theorem y_swL {s0 : vS} {n : Nat} (hn : (s0.1 8 1).toInt = n) (hn10 : n ≤ 10) {D : Nat → Int32} (hS : st_S D s0 n) {th : Nat → Prop} {p : Int32} (hp : ∀ m, m < 32 → (bt p m = true ↔ th m)) (hst : ∀ k, k < n → -1 ≤ (stK s0 k).toInt ∧ (stK s0 k).toInt ≤ 9) {K : vS → Option (Unit × vS)} {Q : Unit → vS → Prop} (hK : ∀ t v, (∀ a j, ¬ (a = 8 ∧ j = 4) → t.1 a j = s0.1 a j) → t.2 = s0.2 → st_L th (fun i => (s0.1 20 i).toInt.toNat) (stK s0) (t.1 8 4) v n → v_P (K t) Q) : ∀ (m : Nat) (v w : Int32) (s : vS), 0 ≤ w.toInt → w.toInt ≤ n → (∀ a j, ¬ (a = 8 ∧ j = 4) → s.1 a j = s0.1 a j) → s.2 = s0.2 → st_L th (fun i => (s0.1 20 i).toInt.toNat) (stK s0) (s.1 8 4) v w.toInt.toNat → v_P (f_Ct_standWithout_L19 p K m v w s) Q
  | 0, _, _, _, _, _, _, _, _ => v_Pnone
  | m + 1, v, w, s, hw, hwn, hE, h2, hL => by
    show v_P (f_Ct_standWithout_L19b p K (f_Ct_standWithout_L19 p K m) v w s) Q
    unfold f_Ct_standWithout_L19b
    rw [hE 8 1 (by decide)]
    by_cases hc : (s0.1 8 1).toInt ≤ w.toInt
    · rw [if_pos hc]
      exact hK s v hE h2 (by rw [show n = w.toInt.toNat by omega]; exact hL)
    · rw [if_neg hc, if_neg (by omega)]
      refine v_Pif (fun _ => ?_) (fun _ => v_Pnone)
      have ei := v_inc (x := w) (by omega)
      have en : (w + 1).toInt.toNat = w.toInt.toNat + 1 := by omega
      rw [v_nc, hE 20 _ (by omega)]
      have hk : w.toInt.toNat < n := by omega
      generalize hkk : w.toInt.toNat = k at hk en hL ⊢
      have hb := hS.1
      have hbk := hb k hk
      have hf : ∀ i, i ≤ k → (s0.1 20 i).toInt.toNat < 32 := fun i hi => by have := hb i (by omega); omega
      have hinj : ∀ i, i < k → ¬ (s0.1 20 i).toInt.toNat = (s0.1 20 k).toInt.toNat := fun i hi e => by
        have h3 := hS.2.1 i k hi hk
        rw [e] at h3
        exact ol_ir h3
      have ex : s0.1 20 k = Int32.ofNat (s0.1 20 k).toInt.toNat := v_of hbk.1
      have hz1 : ∀ x : Int32, (x &&& ((1 : Int32) <<< ((s0.1 20 k) &&& 31))).toInt = 0 ↔ bt x (s0.1 20 k).toInt.toNat = false := fun x => by
        have h4 := b_zero (x := x) (n := (s0.1 20 k).toInt.toNat) (hf k (Nat.le_refl _))
        rw [← ex] at h4
        exact h4
      by_cases c1 : (p &&& ((1 : Int32) <<< ((s0.1 20 k) &&& 31))).toInt = 0
      · rw [if_pos c1]
        refine y_swL hn hn10 hS hp hst hK m v (w + 1) s (by omega) (by omega) hE h2 ?_
        rw [en]
        refine st_Lno (hf k (Nat.le_refl _)) hinj hL (fun q => ?_)
        have h5 := (hp _ (hf k (Nat.le_refl _))).mpr q.1
        rw [(hz1 p).mp c1] at h5
        cases h5
      · rw [if_neg c1]
        have hth : th (s0.1 20 k).toInt.toNat := (hp _ (hf k (Nat.le_refl _))).mp (by
          cases hq : bt p (s0.1 20 k).toInt.toNat with
          | true => rfl
          | false => exact absurd ((hz1 p).mpr hq) c1)
        by_cases c2 : (v &&& ((1 : Int32) <<< ((s0.1 20 k) &&& 31))).toInt = 0
        · rw [if_pos c2]
          refine v_Plet (v_Pif (fun _ => ?_) (fun _ => v_Pnone))
          have e8 : (v_w1 s 8 4 ((s.1 8 4) ||| ((1 : Int32) <<< ((s0.1 20 k) &&& 31)))).1 8 4 = (s.1 8 4) ||| ((1 : Int32) <<< ((s0.1 20 k) &&& 31)) := v_w1_1.trans (if_pos ⟨rfl, rfl⟩)
          have tE : ∀ a j, ¬ (a = 8 ∧ j = 4) → (v_w1 s 8 4 ((s.1 8 4) ||| ((1 : Int32) <<< ((s0.1 20 k) &&& 31)))).1 a j = s0.1 a j := fun a j q => by rw [v_w1_1, if_neg q]; exact hE a j q
          have t2 : (v_w1 s 8 4 ((s.1 8 4) ||| ((1 : Int32) <<< ((s0.1 20 k) &&& 31)))).2 = s0.2 := h2
          generalize v_w1 s 8 4 ((s.1 8 4) ||| ((1 : Int32) <<< ((s0.1 20 k) &&& 31))) = t at e8 tE t2 ⊢
          rw [tE 20 _ (by omega), jz_at _ t ⟨hbk.1, by omega⟩, v_bi_some]
          refine v_Pif (fun _ => ?_) (fun _ => v_Pnone)
          rw [v_nc, tE _ _ (by omega)]
          have hs := hst (s0.1 20 k).toInt.toNat (by omega)
          have hL2 : ∀ u : Int32, (∀ m, m < 32 → (bt u m = true ↔ (bt v m = true ∨ (stK s0 (s0.1 20 k).toInt.toNat).toInt = m))) → st_L th (fun i => (s0.1 20 i).toInt.toNat) (stK s0) (t.1 8 4) u (w + 1).toInt.toNat := fun u hu => by
            rw [en, e8, ex]
            refine st_Lyes (f := fun i => (s0.1 20 i).toInt.toNat) hf hinj hL ⟨hth, ?_⟩ hu
            exact (hz1 v).mp c2
          by_cases c3 : 0 ≤ (s0.1 (23 + 5 * (s0.1 20 k).toInt.toNat) 3).toInt
          · rw [if_pos c3]
            refine y_swL hn hn10 hS hp hst hK m _ (w + 1) t (by omega) (by omega) tE t2 (hL2 _ (fun m hm => ?_))
            have h6 := b_set (x := v) (n := (s0.1 (23 + 5 * (s0.1 20 k).toInt.toNat) 3).toInt.toNat) (i := m) (by have hs2 : (s0.1 (23 + 5 * (s0.1 20 k).toInt.toNat) 3).toInt ≤ 9 := hs.2; omega) hm
            rw [← v_of c3] at h6
            rw [h6, Bool.or_eq_true, decide_eq_true_eq]
            constructor
            · rintro (q | q)
              · exact Or.inl q
              · exact Or.inr (by show (s0.1 (23 + 5 * (s0.1 20 k).toInt.toNat) 3).toInt = _; omega)
            · rintro (q | q)
              · exact Or.inl q
              · have q : (s0.1 (23 + 5 * (s0.1 20 k).toInt.toNat) 3).toInt = (m : Int) := q
                exact Or.inr (by omega)
          · rw [if_neg c3]
            refine y_swL hn hn10 hS hp hst hK m _ (w + 1) t (by omega) (by omega) tE t2 (hL2 _ (fun m hm => ?_))
            rw [b_or, b_0, Bool.or_false]
            refine ⟨Or.inl, fun q => q.elim id (fun q => ?_)⟩
            have q : (s0.1 (23 + 5 * (s0.1 20 k).toInt.toNat) 3).toInt = (m : Int) := q
            omega
        · rw [if_neg c2]
          refine y_swL hn hn10 hS hp hst hK m v (w + 1) s (by omega) (by omega) hE h2 ?_
          rw [en]
          exact st_Lno (hf k (Nat.le_refl _)) hinj hL (fun q => c2 ((hz1 v).mpr q.2))
/-- who is there, but for a set -/
def st_T (s : vS) (b : Int32) (m : Nat) : Prop := xTh s m ∧ bt b m = false
/-- the class: who stands, but for a set; the order stands already -/
theorem y_standW (b : Int32) (s : vS) (hm : 0 ≤ (s.1 8 1).toInt ∧ (s.1 8 1).toInt ≤ 10) (hS : st_S (dC s) s (s.1 8 1).toInt.toNat) (hst : ∀ k, k < (s.1 8 1).toInt.toNat → -1 ≤ (stK s k).toInt ∧ (stK s k).toInt ≤ 9) : v_P (f_Ct_standWithout b s) (fun _ t => (∀ a j, ¬ (a = 8 ∧ j = 4) → t.1 a j = s.1 a j) ∧ t.2 = s.2 ∧ st_F (s.1 8 1).toInt.toNat (st_T s b) (dC s) (stK s) (fun m => bt (t.1 8 4) m = true) ∧ ∀ m, m < 32 → bt (t.1 8 4) m = true → m < (s.1 8 1).toInt.toNat) := by
  unfold f_Ct_standWithout
  refine v_Pbi (y_there s hm) ?_
  rintro r u ⟨rfl, hr⟩
  refine v_Plet ?_
  have e8 : (v_w1 u 8 4 0).1 8 4 = 0 := v_w1_1.trans (if_pos ⟨rfl, rfl⟩)
  have uE : ∀ a j, ¬ (a = 8 ∧ j = 4) → (v_w1 u 8 4 0).1 a j = u.1 a j := fun a j q => v_w1_1.trans (if_neg q)
  have u2 : (v_w1 u 8 4 0).2 = u.2 := rfl
  generalize v_w1 u 8 4 0 = w at e8 uE u2 ⊢
  have hS2 : st_S (dC u) w (u.1 8 1).toInt.toNat := by
    unfold st_S at hS ⊢
    refine ⟨fun i hi => by rw [uE 20 i (by omega)]; exact hS.1 i hi, fun i j hij hj => by rw [uE 20 i (by omega), uE 20 j (by omega)]; exact hS.2.1 i j hij hj, fun m hm => ?_⟩
    obtain ⟨i, i1, i2⟩ := hS.2.2 m hm
    exact ⟨i, i1, by rw [uE 20 i (by omega)]; exact i2⟩
  have hsK : ∀ k, stK w k = stK u k := fun k => uE _ _ (by omega)
  refine y_swL (s0 := w) (n := (u.1 8 1).toInt.toNat) (th := st_T u b) (by rw [uE 8 1 (by decide)]; omega) (by omega) hS2 (fun m hm2 => ?_) (fun k hk => by rw [hsK k]; exact hst k hk) (fun t v tE t2 tL => ?_) 4096 0 0 w (by decide) (by show (0 : Int) ≤ _; omega) (fun _ _ _ => rfl) rfl (by rw [e8]; exact st_L0)
  · rw [b_and, b_not hm2, Bool.and_eq_true, Bool.not_eq_true', hr m hm2]
    unfold st_T
    exact ⟨fun q => ⟨q.1.2, q.2⟩, fun q => ⟨⟨by have := q.1.1.2; omega, q.1⟩, q.2⟩⟩
  · refine v_Pret ⟨fun a j q => (tE a j q).trans (uE a j q), t2.trans u2, ?_, fun m hm2 q => ?_⟩
    · have h5 := st_Lend (th := st_T u b) (D := dC u) (S := stK w) (x := t.1 8 4) (v := v) (n := (u.1 8 1).toInt.toNat) (by omega) hS2 tL
      rw [show stK w = stK u from funext hsK] at h5
      exact h5
    · obtain ⟨i, i1, i2⟩ := tL.1 m hm2 q
      have := hS2.1 i i1
      have i2 : (w.1 20 i).toInt.toNat = m := i2
      omega
