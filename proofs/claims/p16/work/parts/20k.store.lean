/-! THE STORE: the cells behind the constructors, their ints and longs as two functions; references never change -/
abbrev vS : Type := (Nat → Nat → Int32) × (Nat → Nat → Int64)
def v_vl (s : vS) (a i : Nat) (v : Value) : Value := match v with
  | .int _ => .int (s.1 a i)
  | .long _ => .long (s.2 a i)
  | w => w
def v_ro (s : vS) (a : Nat) : Nat → List Value → List Value
  | _, [] => []
  | i, v :: r => v_vl s a i v :: v_ro s a (i + 1) r
def v_ce (s : vS) : Nat → sM → sM
  | _, [] => []
  | a, c :: r => (c.1, v_ro s a 0 c.2) :: v_ce s (a + 1) r
def v_mk (s : vS) : sM := v_ce s 0 s_M0
def v_cl (a : Nat) : sC := match s_M0[a]? with
  | some c => c
  | none => (99, [])
def v_kd (a : Nat) : Nat := (v_cl a).1
def v_ln (a : Nat) : Nat := (v_cl a).2.length
def v_sl (a i : Nat) : Value := match (v_cl a).2[i]? with
  | some v => v
  | none => .null
def v_tg (v : Value) : Nat := match v with
  | .int _ => 1
  | .long _ => 2
  | .ref _ => 3
  | _ => 0
def v_w1 (s : vS) (a i : Nat) (x : Int32) : vS := (fun b j => if b = a ∧ j = i then x else s.1 b j, s.2)
def v_w2 (s : vS) (a i : Nat) (x : Int64) : vS := (s.1, fun b j => if b = a ∧ j = i then x else s.2 b j)
theorem v_w1_1 {s : vS} {a i b j : Nat} {x : Int32} : (v_w1 s a i x).1 b j = if b = a ∧ j = i then x else s.1 b j := rfl
theorem v_w1_2 {s : vS} {a i : Nat} {x : Int32} : (v_w1 s a i x).2 = s.2 := rfl
theorem v_w2_2 {s : vS} {a i b j : Nat} {x : Int64} : (v_w2 s a i x).2 b j = if b = a ∧ j = i then x else s.2 b j := rfl
theorem v_w2_1 {s : vS} {a i : Nat} {x : Int64} : (v_w2 s a i x).1 = s.1 := rfl
/-- a stretch of a row of ints comes to another row -/
def v_cp1 (s : vS) (a sp b dp n : Nat) : vS := (fun c j => if c = b ∧ dp ≤ j ∧ j < dp + n then s.1 a (sp + (j - dp)) else s.1 c j, s.2)
def v_cp2 (s : vS) (a sp b dp n : Nat) : vS := (s.1, fun c j => if c = b ∧ dp ≤ j ∧ j < dp + n then s.2 a (sp + (j - dp)) else s.2 c j)
theorem v_ro_get {s : vS} {a : Nat} : ∀ (l : List Value) (j i : Nat), (v_ro s a j l)[i]? = (l[i]?).map (v_vl s a (j + i))
  | [], j, i => by simp [v_ro]
  | v :: r, j, 0 => by simp [v_ro]
  | v :: r, j, i + 1 => by
    rw [v_ro, List.getElem?_cons_succ, List.getElem?_cons_succ, v_ro_get r, show j + 1 + i = j + (i + 1) by omega]
theorem v_ro_len {s : vS} {a : Nat} : ∀ (l : List Value) (j : Nat), (v_ro s a j l).length = l.length
  | [], j => rfl
  | v :: r, j => by rw [v_ro, List.length_cons, List.length_cons, v_ro_len r]
theorem v_ce_get {s : vS} : ∀ (l : sM) (j a : Nat), (v_ce s j l)[a]? = (l[a]?).map (fun c => (c.1, v_ro s (j + a) 0 c.2))
  | [], j, a => by simp [v_ce]
  | c :: r, j, 0 => by simp [v_ce]
  | c :: r, j, a + 1 => by
    rw [v_ce, List.getElem?_cons_succ, List.getElem?_cons_succ, v_ce_get r, show j + 1 + a = j + (a + 1) by omega]
theorem v_ce_len {s : vS} : ∀ (l : sM) (j : Nat), (v_ce s j l).length = l.length
  | [], j => rfl
  | c :: r, j => by rw [v_ce, List.length_cons, List.length_cons, v_ce_len r]
theorem v_mk_get {s : vS} {a : Nat} : (v_mk s)[a]? = (s_M0[a]?).map (fun c => (c.1, v_ro s a 0 c.2)) := by
  unfold v_mk
  rw [v_ce_get, Nat.zero_add]
theorem v_kd_cell {a k : Nat} (h : v_kd a = k) (hk : k < 99) : ∃ l, s_M0[a]? = some (k, l) ∧ v_cl a = (k, l) := by
  unfold v_kd v_cl at *
  cases hc : s_M0[a]? with
  | none => rw [hc] at h; dsimp only at h; omega
  | some c =>
    rw [hc] at h
    obtain ⟨k2, l⟩ := c
    dsimp only at h
    subst h
    exact ⟨l, rfl, rfl⟩
theorem v_mk_kd {s : vS} {a k : Nat} (h : v_kd a = k) (hk : k < 99) : s_kd (v_mk s) a = k := by
  obtain ⟨l, h1, -⟩ := v_kd_cell h hk
  unfold s_kd
  rw [v_mk_get, h1]
  rfl
theorem v_vl_w1 {s : vS} {a i b j : Nat} {x : Int32} {v : Value} (h : ¬(b = a ∧ j = i)) : v_vl (v_w1 s a i x) b j v = v_vl s b j v := by
  cases v <;> simp [v_vl, v_w1, h]
theorem v_vl_w2 {s : vS} {a i b j : Nat} {x : Int64} {v : Value} (h : ¬(b = a ∧ j = i)) : v_vl (v_w2 s a i x) b j v = v_vl s b j v := by
  cases v <;> simp [v_vl, v_w2, h]
theorem v_ro_ext {t : vS} {a : Nat} {l m : List Value} (hl : m.length = l.length) (h : ∀ i v, l[i]? = some v → m[i]? = some (v_vl t a i v)) : m = v_ro t a 0 l := by
  apply List.ext_getElem?
  intro i
  rw [v_ro_get, Nat.zero_add]
  cases hi : l[i]? with
  | none =>
    have h1 := List.getElem?_eq_none_iff.mp hi
    exact List.getElem?_eq_none (by omega)
  | some v => exact h i v hi
theorem v_mk_ext {s t : vS} {a k : Nat} {l m : List Value} (hc : s_M0[a]? = some (k, l)) (hm : m = v_ro t a 0 l) (hr : ∀ b, b ≠ a → ∀ l2, v_ro t b 0 l2 = v_ro s b 0 l2) : (v_mk s).set a (k, m) = v_mk t := by
  apply List.ext_getElem?
  intro b
  rw [List.getElem?_set, v_mk_get, v_mk_get]
  by_cases hb : a = b
  · subst hb
    have hlt : a < (v_mk s).length := by
      have h1 := (List.getElem?_eq_some_iff.mp hc).1
      unfold v_mk
      rw [v_ce_len]
      exact h1
    rw [if_pos rfl, if_pos hlt, hc, hm]
    rfl
  · rw [if_neg hb]
    cases s_M0[b]? with
    | none => rfl
    | some c => simp only [Option.map_some]; rw [hr b (fun q => hb q.symm)]
theorem v_ro_eqv {s t : vS} {b : Nat} (h : ∀ j v, v_vl t b j v = v_vl s b j v) (l : List Value) : v_ro t b 0 l = v_ro s b 0 l := by
  refine (v_ro_ext (v_ro_len l 0) (fun i v hi => ?_)).symm
  rw [v_ro_get, hi, Nat.zero_add, Option.map_some, h]
theorem v_set1 {s : vS} {a i k : Nat} {l : List Value} {x : Int32} (hc : s_M0[a]? = some (k, l)) (hi : ∃ y, l[i]? = some (.int y)) : (v_mk s).set a (k, (v_ro s a 0 l).set i (.int x)) = v_mk (v_w1 s a i x) := by
  obtain ⟨y, hi⟩ := hi
  refine v_mk_ext hc (v_ro_ext (by rw [List.length_set, v_ro_len]) (fun j v hj => ?_)) (fun b hb l2 => v_ro_eqv (fun j v => v_vl_w1 (fun q => hb q.1)) l2)
  rw [List.getElem?_set]
  by_cases h : i = j
  · subst h
    rw [hi] at hj
    cases hj
    rw [if_pos rfl, if_pos (by rw [v_ro_len]; exact (List.getElem?_eq_some_iff.mp hi).1)]
    simp [v_vl, v_w1]
  · rw [if_neg h, v_ro_get, hj, Nat.zero_add, Option.map_some, v_vl_w1 (fun q => h q.2.symm)]
theorem v_set2 {s : vS} {a i k : Nat} {l : List Value} {x : Int64} (hc : s_M0[a]? = some (k, l)) (hi : ∃ y, l[i]? = some (.long y)) : (v_mk s).set a (k, (v_ro s a 0 l).set i (.long x)) = v_mk (v_w2 s a i x) := by
  obtain ⟨y, hi⟩ := hi
  refine v_mk_ext hc (v_ro_ext (by rw [List.length_set, v_ro_len]) (fun j v hj => ?_)) (fun b hb l2 => v_ro_eqv (fun j v => v_vl_w2 (fun q => hb q.1)) l2)
  rw [List.getElem?_set]
  by_cases h : i = j
  · subst h
    rw [hi] at hj
    cases hj
    rw [if_pos rfl, if_pos (by rw [v_ro_len]; exact (List.getElem?_eq_some_iff.mp hi).1)]
    simp [v_vl, v_w2]
  · rw [if_neg h, v_ro_get, hj, Nat.zero_add, Option.map_some, v_vl_w2 (fun q => h q.2.symm)]
theorem v_sl_of {a i k : Nat} {l : List Value} (h : v_cl a = (k, l)) : v_sl a i = (l[i]?).getD .null := by
  unfold v_sl
  rw [h]
  cases l[i]? <;> rfl
theorem v_sl_int {a i k : Nat} {l : List Value} (h : v_cl a = (k, l)) (ht : v_tg (v_sl a i) = 1) : ∃ y, l[i]? = some (.int y) := by
  rw [v_sl_of h] at ht
  cases hv : l[i]? with
  | none => rw [hv] at ht; cases ht
  | some v => rw [hv] at ht; cases v <;> first | exact ⟨_, rfl⟩ | cases ht
theorem v_sl_long {a i k : Nat} {l : List Value} (h : v_cl a = (k, l)) (ht : v_tg (v_sl a i) = 2) : ∃ y, l[i]? = some (.long y) := by
  rw [v_sl_of h] at ht
  cases hv : l[i]? with
  | none => rw [hv] at ht; cases ht
  | some v => rw [hv] at ht; cases v <;> first | exact ⟨_, rfl⟩ | cases ht
theorem v_sl_ref {a i k r : Nat} {l : List Value} (h : v_cl a = (k, l)) (ht : v_sl a i = .ref r) : l[i]? = some (.ref r) := by
  rw [v_sl_of h] at ht
  cases hv : l[i]? with
  | none => rw [hv] at ht; cases ht
  | some v => rw [hv] at ht; exact congrArg some ht
/-- fields read and written -/
theorem v_gi {s : vS} {a K j n : Nat} (ha : v_kd a = K) (ht : v_tg (v_sl a j) = 1) (hn : n / 64 = K ∧ n % 64 = j ∧ K < 12) : s_fld (v_mk s) a n = some (.int (s.1 a j)) := by
  obtain ⟨l, h1, h2⟩ := v_kd_cell ha (by omega)
  obtain ⟨y, hy⟩ := v_sl_int h2 ht
  unfold s_fld
  rw [v_mk_get, h1, Option.map_some]
  dsimp only
  rw [hn.1, hn.2.1, Nat.beq_refl, cond_true, v_ro_get, hy, Nat.zero_add]
  rfl
theorem v_gl {s : vS} {a K j n : Nat} (ha : v_kd a = K) (ht : v_tg (v_sl a j) = 2) (hn : n / 64 = K ∧ n % 64 = j ∧ K < 12) : s_fld (v_mk s) a n = some (.long (s.2 a j)) := by
  obtain ⟨l, h1, h2⟩ := v_kd_cell ha (by omega)
  obtain ⟨y, hy⟩ := v_sl_long h2 ht
  unfold s_fld
  rw [v_mk_get, h1, Option.map_some]
  dsimp only
  rw [hn.1, hn.2.1, Nat.beq_refl, cond_true, v_ro_get, hy, Nat.zero_add]
  rfl
theorem v_gr {s : vS} {a K j n r : Nat} (ha : v_kd a = K) (ht : v_sl a j = .ref r) (hn : n / 64 = K ∧ n % 64 = j ∧ K < 12) : s_fld (v_mk s) a n = some (.ref r) := by
  obtain ⟨l, h1, h2⟩ := v_kd_cell ha (by omega)
  have hy := v_sl_ref h2 ht
  unfold s_fld
  rw [v_mk_get, h1, Option.map_some]
  dsimp only
  rw [hn.1, hn.2.1, Nat.beq_refl, cond_true, v_ro_get, hy, Nat.zero_add]
  rfl
theorem v_pi {s : vS} {a K j n : Nat} {x : Int32} {r : List Value} (ha : v_kd a = K) (ht : v_tg (v_sl a j) = 1) (hn : n / 64 = K ∧ n % 64 = j ∧ K < 12) (hf : s_fit (s_fty K j) (.int x) = true) : s_pf s_fty n (.int x :: .ref a :: r) (v_mk s) = some (r, v_mk (v_w1 s a j x)) := by
  obtain ⟨l, h1, h2⟩ := v_kd_cell ha (by omega)
  obtain ⟨y, hy⟩ := v_sl_int h2 ht
  have hlt : Nat.blt j (v_ro s a 0 l).length = true := by
    rw [v_ro_len]
    exact Nat.ble_eq_true_of_le (List.getElem?_eq_some_iff.mp hy).1
  unfold s_pf
  dsimp only
  rw [v_mk_get, h1, Option.map_some]
  dsimp only
  rw [hn.1, hn.2.1, Nat.beq_refl, hf, hlt]
  exact congrArg (fun q => some (r, q)) (v_set1 h1 ⟨y, hy⟩)
theorem v_pl {s : vS} {a K j n : Nat} {x : Int64} {r : List Value} (ha : v_kd a = K) (ht : v_tg (v_sl a j) = 2) (hn : n / 64 = K ∧ n % 64 = j ∧ K < 12) (hf : s_fit (s_fty K j) (.long x) = true) : s_pf s_fty n (.long x :: .ref a :: r) (v_mk s) = some (r, v_mk (v_w2 s a j x)) := by
  obtain ⟨l, h1, h2⟩ := v_kd_cell ha (by omega)
  obtain ⟨y, hy⟩ := v_sl_long h2 ht
  have hlt : Nat.blt j (v_ro s a 0 l).length = true := by
    rw [v_ro_len]
    exact Nat.ble_eq_true_of_le (List.getElem?_eq_some_iff.mp hy).1
  unfold s_pf
  dsimp only
  rw [v_mk_get, h1, Option.map_some]
  dsimp only
  rw [hn.1, hn.2.1, Nat.beq_refl, hf, hlt]
  exact congrArg (fun q => some (r, q)) (v_set2 h1 ⟨y, hy⟩)
/-- elements read and written -/
theorem v_nn {i : Int32} (h : 0 ≤ i.toInt) : decide (i < 0) = false := by
  have h0 : (0 : Int32).toInt = 0 := rfl
  refine decide_eq_false (fun q => ?_)
  rw [Int32.lt_iff_toInt_lt, h0] at q
  omega
theorem v_row {s : vS} {a k : Nat} {i : Int32} {ok : Nat → Bool} (ha : v_kd a = k) (hk : ok k = true) (hk9 : k < 99) (h0 : 0 ≤ i.toInt) : s_at (v_mk s) a i ok = ((v_cl a).2[i.toNatClampNeg]?).map (v_vl s a i.toNatClampNeg) := by
  obtain ⟨l, h1, h2⟩ := v_kd_cell ha hk9
  unfold s_at
  rw [v_mk_get, h1, Option.map_some]
  dsimp only
  rw [hk, v_nn h0, h2]
  show (v_ro s a 0 l)[i.toNatClampNeg]? = _
  rw [v_ro_get, Nat.zero_add]
def v_all (k : Nat) (t : Nat) : Bool := (List.range s_M0.length).all (fun a => !Nat.beq (v_kd a) k || (v_cl a).2.all (fun v => Nat.beq (v_tg v) t))
set_option maxRecDepth 100000 in
theorem v_all12 : v_all 12 1 = true := by decide +kernel
set_option maxRecDepth 100000 in
theorem v_all13 : v_all 13 1 = true := by decide +kernel
set_option maxRecDepth 100000 in
theorem v_all14 : v_all 14 2 = true := by decide +kernel
set_option maxRecDepth 100000 in
theorem v_all15 : v_all 15 1 = true := by decide +kernel
set_option maxRecDepth 100000 in
theorem v_all16 : v_all 16 1 = true := by decide +kernel
theorem v_all_at {k t a i : Nat} (h : v_all k t = true) (hk : k < 99) (ha : v_kd a = k) (hi : i < v_ln a) : v_tg (v_sl a i) = t := by
  obtain ⟨l, h1, h2⟩ := v_kd_cell ha hk
  have h3 := List.all_eq_true.mp h a (List.mem_range.mpr (List.getElem?_eq_some_iff.mp h1).1)
  rw [ha, Nat.beq_refl, Bool.not_true, Bool.false_or] at h3
  unfold v_ln at hi
  unfold v_sl
  rw [List.getElem?_eq_getElem hi]
  exact Nat.eq_of_beq_eq_true (List.all_eq_true.mp h3 _ (List.getElem_mem hi))
theorem v_ii {i : Int32} {n : Nat} (h0 : 0 ≤ i.toInt) (h1 : i.toInt < n) : i.toNatClampNeg < n := by
  unfold Int32.toNatClampNeg
  omega
theorem v_ai {s : vS} {a k : Nat} {i : Int32} {ok : Nat → Bool} (ha : v_kd a = k) (hk : ok k = true) (hk9 : k < 99) (hA : v_all k 1 = true) (h0 : 0 ≤ i.toInt ∧ i.toInt < v_ln a) : s_at (v_mk s) a i ok = some (.int (s.1 a i.toNatClampNeg)) := by
  rw [v_row ha hk hk9 h0.1]
  have ht := v_all_at hA hk9 ha (v_ii h0.1 h0.2)
  obtain ⟨l, h1, h2⟩ := v_kd_cell ha hk9
  obtain ⟨y, hy⟩ := v_sl_int h2 ht
  rw [h2, hy]
  rfl
theorem v_al {s : vS} {a k : Nat} {i : Int32} {ok : Nat → Bool} (ha : v_kd a = k) (hk : ok k = true) (hk9 : k < 99) (hA : v_all k 2 = true) (h0 : 0 ≤ i.toInt ∧ i.toInt < v_ln a) : s_at (v_mk s) a i ok = some (.long (s.2 a i.toNatClampNeg)) := by
  rw [v_row ha hk hk9 h0.1]
  have ht := v_all_at hA hk9 ha (v_ii h0.1 h0.2)
  obtain ⟨l, h1, h2⟩ := v_kd_cell ha hk9
  obtain ⟨y, hy⟩ := v_sl_long h2 ht
  rw [h2, hy]
  rfl
theorem v_ar {s : vS} {a k r : Nat} {i : Int32} {ok : Nat → Bool} (ha : v_kd a = k) (hk : ok k = true) (hk9 : k < 99) (hr : v_sl a i.toNatClampNeg = .ref r) (h0 : 0 ≤ i.toInt) : s_at (v_mk s) a i ok = some (.ref r) := by
  rw [v_row ha hk hk9 h0]
  obtain ⟨l, h1, h2⟩ := v_kd_cell ha hk9
  rw [h2, v_sl_ref h2 hr]
  rfl
theorem v_pai {s : vS} {a k : Nat} {i x : Int32} {ok : Nat → Bool} {r : List Value} (ha : v_kd a = k) (hk : ok k = true) (hk9 : k < 99) (hA : v_all k 1 = true) (h0 : 0 ≤ i.toInt ∧ i.toInt < v_ln a) : s_ps (v_mk s) a i (.int x) ok r = some (r, v_mk (v_w1 s a i.toNatClampNeg x)) := by
  have ht := v_all_at hA hk9 ha (v_ii h0.1 h0.2)
  obtain ⟨l, h1, h2⟩ := v_kd_cell ha hk9
  obtain ⟨y, hy⟩ := v_sl_int h2 ht
  have hlt : Nat.blt i.toNatClampNeg (v_ro s a 0 l).length = true := by
    rw [v_ro_len]
    exact Nat.ble_eq_true_of_le (List.getElem?_eq_some_iff.mp hy).1
  unfold s_ps
  rw [v_mk_get, h1, Option.map_some]
  dsimp only
  rw [hk, v_nn h0.1, hlt]
  exact congrArg (fun q => some (r, q)) (v_set1 h1 ⟨y, hy⟩)
theorem v_pal {s : vS} {a k : Nat} {i : Int32} {x : Int64} {ok : Nat → Bool} {r : List Value} (ha : v_kd a = k) (hk : ok k = true) (hk9 : k < 99) (hA : v_all k 2 = true) (h0 : 0 ≤ i.toInt ∧ i.toInt < v_ln a) : s_ps (v_mk s) a i (.long x) ok r = some (r, v_mk (v_w2 s a i.toNatClampNeg x)) := by
  have ht := v_all_at hA hk9 ha (v_ii h0.1 h0.2)
  obtain ⟨l, h1, h2⟩ := v_kd_cell ha hk9
  obtain ⟨y, hy⟩ := v_sl_long h2 ht
  have hlt : Nat.blt i.toNatClampNeg (v_ro s a 0 l).length = true := by
    rw [v_ro_len]
    exact Nat.ble_eq_true_of_le (List.getElem?_eq_some_iff.mp hy).1
  unfold s_ps
  rw [v_mk_get, h1, Option.map_some]
  dsimp only
  rw [hk, v_nn h0.1, hlt]
  exact congrArg (fun q => some (r, q)) (v_set2 h1 ⟨y, hy⟩)
theorem v_len {s : vS} {E : sE} {a k p : Nat} {ls : sL} {r : List Value} (ha : v_kd a = k) (hk : 12 ≤ k ∧ k ≤ 19) : s_len E p ls (.ref a :: r) (v_mk s) = some (p, ls, .int (Int32.ofNat (v_ln a)) :: r) := by
  obtain ⟨l, h1, h2⟩ := v_kd_cell ha (by omega)
  have e1 : Nat.ble 12 k = true := Nat.ble_eq_true_of_le hk.1
  have e2 : Nat.ble k 19 = true := Nat.ble_eq_true_of_le hk.2
  unfold s_len
  dsimp only
  rw [v_mk_get, h1, Option.map_some]
  dsimp only
  rw [e1, e2, v_ro_len]
  unfold v_ln
  rw [h2]
  rfl
theorem v_cpy_get {src dst : List Value} {sp dp n j : Nat} (h1 : sp + n ≤ src.length) (h2 : dp + n ≤ dst.length) : (s_cpy src dst sp dp n)[j]? = if dp ≤ j ∧ j < dp + n then src[sp + (j - dp)]? else dst[j]? := by
  unfold s_cpy
  rw [List.getElem?_append, List.getElem?_append, List.length_take, List.length_take, List.length_drop, List.getElem?_take, List.getElem?_take, List.getElem?_drop, List.getElem?_drop]
  have e1 : min dp dst.length = dp := by omega
  have e2 : min n (src.length - sp) = n := by omega
  rw [e1, e2]
  by_cases ha : j < dp
  · rw [if_pos ha, if_pos ha, if_neg (by omega)]
  · rw [if_neg ha]
    by_cases hb : j - dp < n
    · rw [if_pos hb, if_pos hb, if_pos (by omega)]
    · rw [if_neg hb, if_neg (by omega), show dp + n + (j - dp - n) = j by omega]
theorem v_cpy_len {src dst : List Value} {sp dp n : Nat} (h1 : sp + n ≤ src.length) (h2 : dp + n ≤ dst.length) : (s_cpy src dst sp dp n).length = dst.length := by
  unfold s_cpy
  rw [List.length_append, List.length_append, List.length_take, List.length_take, List.length_drop, List.length_drop]
  omega
abbrev v_cok (sp dp n : Int32) (la lb : Nat) : Prop := 0 ≤ sp.toInt ∧ 0 ≤ dp.toInt ∧ 0 ≤ n.toInt ∧ sp.toInt + n.toInt ≤ la ∧ dp.toInt + n.toInt ≤ lb
abbrev v_in (i : Int32) (n : Nat) : Prop := 0 ≤ i.toInt ∧ i.toInt < n
theorem v_cn {a n : Nat} {i : Int32} (hn : v_ln a = n) (h : v_in i n) : 0 ≤ i.toInt ∧ i.toInt < v_ln a := by
  rw [hn]
  exact h
theorem v_ckn {a b la lb : Nat} {sp dp n : Int32} (ha : v_ln a = la) (hb : v_ln b = lb) (h : v_cok sp dp n la lb) : v_cok sp dp n (v_ln a) (v_ln b) := by
  rw [ha, hb]
  exact h
theorem v_ac1 {s : vS} {a b : Nat} {sp dp n : Int32} {r : List Value} (ha : v_kd a = 13) (hb : v_kd b = 13) (hc : v_cok sp dp n (v_ln a) (v_ln b)) (hr : Nat.ble (r.map fun v => v.category).sum 8 = true) : s_ac (.int n :: .int dp :: .ref b :: .int sp :: .ref a :: r) (v_mk s) = some (r, v_mk (v_cp1 s a sp.toNatClampNeg b dp.toNatClampNeg n.toNatClampNeg)) := by
  obtain ⟨c1, c2, c3, c4, c5⟩ := hc
  obtain ⟨la, a1, a2⟩ := v_kd_cell ha (by decide)
  obtain ⟨lb, b1, b2⟩ := v_kd_cell hb (by decide)
  have na : v_ln a = la.length := by unfold v_ln; rw [a2]
  have nb : v_ln b = lb.length := by unfold v_ln; rw [b2]
  have hs : sp.toNatClampNeg + n.toNatClampNeg ≤ la.length := by unfold Int32.toNatClampNeg; omega
  have hd : dp.toNatClampNeg + n.toNatClampNeg ≤ lb.length := by unfold Int32.toNatClampNeg; omega
  have hs2 : Nat.ble (sp.toNatClampNeg + n.toNatClampNeg) (v_ro s a 0 la).length = true := by rw [v_ro_len]; exact Nat.ble_eq_true_of_le hs
  have hd2 : Nat.ble (dp.toNatClampNeg + n.toNatClampNeg) (v_ro s b 0 lb).length = true := by rw [v_ro_len]; exact Nat.ble_eq_true_of_le hd
  unfold s_ac
  dsimp only
  rw [v_mk_get, v_mk_get, a1, b1, Option.map_some, Option.map_some]
  dsimp only
  rw [v_nn c1, v_nn c2, v_nn c3, hs2, hd2, hr]
  refine congrArg (fun q => some (r, q)) (v_mk_ext b1 (v_ro_ext (by rw [v_cpy_len (by rw [v_ro_len]; exact hs) (by rw [v_ro_len]; exact hd), v_ro_len]) (fun j v hj => ?_)) (fun c hc l2 => v_ro_eqv (fun j v => ?_) l2))
  · rw [v_cpy_get (by rw [v_ro_len]; exact hs) (by rw [v_ro_len]; exact hd)]
    have hv : ∃ y, v = .int y := by
      have h := v_all_at v_all13 (by decide) hb (show j < v_ln b by rw [nb]; exact (List.getElem?_eq_some_iff.mp hj).1)
      obtain ⟨y, hy⟩ := v_sl_int b2 h
      rw [hj] at hy
      cases hy
      exact ⟨y, rfl⟩
    obtain ⟨y, rfl⟩ := hv
    by_cases hq : dp.toNatClampNeg ≤ j ∧ j < dp.toNatClampNeg + n.toNatClampNeg
    · rw [if_pos hq]
      obtain ⟨z, hz⟩ := v_sl_int a2 (v_all_at v_all13 (by decide) ha (i := sp.toNatClampNeg + (j - dp.toNatClampNeg)) (by rw [na]; omega))
      rw [v_ro_get, hz, Nat.zero_add]
      simp [v_vl, v_cp1, hq]
    · rw [if_neg hq, v_ro_get, hj, Nat.zero_add]
      simp [v_vl, v_cp1, hq]
  · cases v <;> simp [v_vl, v_cp1, hc]
theorem v_ac2 {s : vS} {a b : Nat} {sp dp n : Int32} {r : List Value} (ha : v_kd a = 14) (hb : v_kd b = 14) (hc : v_cok sp dp n (v_ln a) (v_ln b)) (hr : Nat.ble (r.map fun v => v.category).sum 8 = true) : s_ac (.int n :: .int dp :: .ref b :: .int sp :: .ref a :: r) (v_mk s) = some (r, v_mk (v_cp2 s a sp.toNatClampNeg b dp.toNatClampNeg n.toNatClampNeg)) := by
  obtain ⟨c1, c2, c3, c4, c5⟩ := hc
  obtain ⟨la, a1, a2⟩ := v_kd_cell ha (by decide)
  obtain ⟨lb, b1, b2⟩ := v_kd_cell hb (by decide)
  have na : v_ln a = la.length := by unfold v_ln; rw [a2]
  have nb : v_ln b = lb.length := by unfold v_ln; rw [b2]
  have hs : sp.toNatClampNeg + n.toNatClampNeg ≤ la.length := by unfold Int32.toNatClampNeg; omega
  have hd : dp.toNatClampNeg + n.toNatClampNeg ≤ lb.length := by unfold Int32.toNatClampNeg; omega
  have hs2 : Nat.ble (sp.toNatClampNeg + n.toNatClampNeg) (v_ro s a 0 la).length = true := by rw [v_ro_len]; exact Nat.ble_eq_true_of_le hs
  have hd2 : Nat.ble (dp.toNatClampNeg + n.toNatClampNeg) (v_ro s b 0 lb).length = true := by rw [v_ro_len]; exact Nat.ble_eq_true_of_le hd
  unfold s_ac
  dsimp only
  rw [v_mk_get, v_mk_get, a1, b1, Option.map_some, Option.map_some]
  dsimp only
  rw [v_nn c1, v_nn c2, v_nn c3, hs2, hd2, hr]
  refine congrArg (fun q => some (r, q)) (v_mk_ext b1 (v_ro_ext (by rw [v_cpy_len (by rw [v_ro_len]; exact hs) (by rw [v_ro_len]; exact hd), v_ro_len]) (fun j v hj => ?_)) (fun c hc l2 => v_ro_eqv (fun j v => ?_) l2))
  · rw [v_cpy_get (by rw [v_ro_len]; exact hs) (by rw [v_ro_len]; exact hd)]
    have hv : ∃ y, v = .long y := by
      have h := v_all_at v_all14 (by decide) hb (show j < v_ln b by rw [nb]; exact (List.getElem?_eq_some_iff.mp hj).1)
      obtain ⟨y, hy⟩ := v_sl_long b2 h
      rw [hj] at hy
      cases hy
      exact ⟨y, rfl⟩
    obtain ⟨y, rfl⟩ := hv
    by_cases hq : dp.toNatClampNeg ≤ j ∧ j < dp.toNatClampNeg + n.toNatClampNeg
    · rw [if_pos hq]
      obtain ⟨z, hz⟩ := v_sl_long a2 (v_all_at v_all14 (by decide) ha (i := sp.toNatClampNeg + (j - dp.toNatClampNeg)) (by rw [na]; omega))
      rw [v_ro_get, hz, Nat.zero_add]
      simp [v_vl, v_cp2, hq]
    · rw [if_neg hq, v_ro_get, hj, Nat.zero_add]
      simp [v_vl, v_cp2, hq]
  · cases v <;> simp [v_vl, v_cp2, hc]
/-- more locals, in another order, change nothing -/
def v_lE (l' l : sL) : Prop := ∀ i v, s_get l' i = some v → s_get l i = some v
def v_nd (l : sL) : Prop := (l.map (fun q => q.1)).Nodup
theorem v_get_mem : ∀ {l : sL} {j : Nat} {w : Value}, s_get l j = some w → (j, w) ∈ l
  | [], j, w, h => by cases h
  | q :: r, j, w, h => by
    unfold s_get at h
    cases hb : Nat.beq q.1 j with
    | true =>
      rw [hb] at h
      cases h
      have e := Nat.eq_of_beq_eq_true hb
      subst e
      exact List.mem_cons_self
    | false => rw [hb] at h; exact List.mem_cons_of_mem _ (v_get_mem h)
theorem v_flt_a {p : Nat × Value → Bool} : ∀ {l : sL} {j : Nat} {w : Value}, v_nd l → s_get (l.filter p) j = some w → s_get l j = some w ∧ p (j, w) = true
  | [], j, w, _, h => by cases h
  | q :: r, j, w, hn, h => by
    obtain ⟨hn1, hn2⟩ := List.nodup_cons.mp hn
    rw [List.filter_cons] at h
    cases hp : p q with
    | true =>
      rw [if_pos hp] at h
      unfold s_get at h ⊢
      cases hb : Nat.beq q.1 j with
      | true =>
        rw [hb] at h
        cases h
        have e := Nat.eq_of_beq_eq_true hb
        subst e
        exact ⟨rfl, hp⟩
      | false => rw [hb] at h; exact v_flt_a hn2 h
    | false =>
      rw [hp, if_neg (by decide)] at h
      obtain ⟨h1, h2⟩ := v_flt_a hn2 h
      refine ⟨?_, h2⟩
      unfold s_get
      cases hb : Nat.beq q.1 j with
      | true =>
        have e := Nat.eq_of_beq_eq_true hb
        exact absurd (List.mem_map.mpr ⟨(j, w), v_get_mem h1, e.symm⟩) hn1
      | false => exact h1
theorem v_flt_b {p : Nat × Value → Bool} : ∀ {l : sL} {j : Nat} {w : Value}, s_get l j = some w → p (j, w) = true → s_get (l.filter p) j = some w
  | [], j, w, h, _ => by cases h
  | q :: r, j, w, h, hp => by
    unfold s_get at h
    rw [List.filter_cons]
    cases hb : Nat.beq q.1 j with
    | true =>
      rw [hb] at h
      cases h
      have e := Nat.eq_of_beq_eq_true hb
      subst e
      rw [if_pos hp]
      unfold s_get
      rw [hb]
      rfl
    | false =>
      rw [hb] at h
      have ih := v_flt_b h hp
      cases hq : p q with
      | true =>
        rw [if_pos rfl]
        unfold s_get
        rw [hb]
        exact ih
      | false => rw [if_neg (by decide)]; exact ih
theorem v_le_flt {p : Nat × Value → Bool} {l' l : sL} {i : Nat} {v : Value} (h : v_lE l' l) (hn : v_nd l') (hp : ∀ w, p (i, w) = false) : v_lE ((i, v) :: l'.filter p) ((i, v) :: l.filter p) ∧ v_nd ((i, v) :: l'.filter p) := by
  constructor
  · intro j w hj
    unfold s_get at hj ⊢
    cases hb : Nat.beq i j with
    | true => rw [hb] at hj; exact hj
    | false =>
      dsimp only at hj ⊢
      rw [hb] at hj
      obtain ⟨h1, h2⟩ := v_flt_a hn hj
      exact v_flt_b (h _ _ h1) h2
  · refine List.nodup_cons.mpr ⟨fun hm => ?_, hn.sublist ((List.filter_sublist).map _)⟩
    obtain ⟨q, hq1, hq2⟩ := List.mem_map.mp hm
    have := (List.mem_filter.mp hq1).2
    obtain ⟨q1, q2⟩ := q
    dsimp only at hq2
    subst hq2
    rw [hp] at this
    cases this
theorem v_le_set {l' l : sL} {i : Nat} {v : Value} (h : v_lE l' l) (hn : v_nd l') : v_lE (s_set l' i v) (s_set l i v) ∧ v_nd (s_set l' i v) := v_le_flt h hn (fun w => by simp)
theorem v_le_setL {l' l : sL} {i : Nat} {v : Value} (h : v_lE l' l) (hn : v_nd l') : v_lE (s_setL l' i v) (s_setL l i v) ∧ v_nd (s_setL l' i v) := v_le_flt h hn (fun w => by simp)
def v_put (l : sL) (q : Nat × (sL × List Value)) : Nat × (sL × List Value) := (q.1, l, q.2.2)
theorem v_m_i1 {st : List Value} {f : Int32 → Value} {p : Nat} {l : sL} : s_i1 st f p l = (s_i1 st f p []).map (v_put l) := by unfold s_i1; split <;> rfl
theorem v_m_i2 {st : List Value} {f : Int32 → Int32 → Int32} {p : Nat} {l : sL} : s_i2 st f p l = (s_i2 st f p []).map (v_put l) := by unfold s_i2; split <;> rfl
theorem v_m_l2 {st : List Value} {f : Int64 → Int64 → Int64} {p : Nat} {l : sL} : s_l2 st f p l = (s_l2 st f p []).map (v_put l) := by unfold s_l2; split <;> rfl
theorem v_m_li {st : List Value} {f : Int64 → Int32 → Int64} {p : Nat} {l : sL} : s_li st f p l = (s_li st f p []).map (v_put l) := by unfold s_li; split <;> rfl
theorem v_m_jump {o : Option Nat} {l : sL} {r : List Value} : s_jump o l r = (s_jump o [] r).map (v_put l) := by cases o <;> rfl
theorem v_m_gf {n p : Nat} {st : List Value} {M : sM} {l : sL} : s_gf n p l st M = (s_gf n p [] st M).map (v_put l) := by
  unfold s_gf
  split
  · rename_i a r
    cases s_fld M a n <;> rfl
  · rfl
theorem v_m_len {E : sE} {p : Nat} {st : List Value} {M : sM} {l : sL} : s_len E p l st M = (s_len E p [] st M).map (v_put l) := by
  unfold s_len
  split
  · rename_i a r
    cases M[a]? with
    | none => rfl
    | some c => dsimp only; cases Nat.ble 12 c.1 && Nat.ble c.1 19 <;> rfl
  · rename_i j r
    cases Nat.blt j (E 3).1 <;> rfl
  · rfl
theorem v_m_av {o : Option Value} {p : Nat} {r : List Value} {l : sL} : (match o with
    | some (.int x) => some (p, l, Value.int x :: r)
    | _ => none : sP) = (match o with
    | some (.int x) => some (p, ([] : sL), Value.int x :: r)
    | _ => none : sP).map (v_put l) := by
  cases o with
  | none => rfl
  | some v => cases v <;> rfl
theorem v_m_ia {E : sE} {p : Nat} {st : List Value} {M : sM} {l : sL} : s_ia E p l st M = (s_ia E p [] st M).map (v_put l) := by
  unfold s_ia
  split
  · exact v_m_av
  · rename_i i j r
    cases (!decide (i < 0) && (Nat.blt i.toNatClampNeg (E j).1 && Nat.blt j (E 3).1)) <;> rfl
  · rfl
theorem v_m_ba {p : Nat} {st : List Value} {M : sM} {l : sL} : s_ba p l st M = (s_ba p [] st M).map (v_put l) := by
  unfold s_ba
  split
  · exact v_m_av
  · rfl
theorem v_m_sa {p : Nat} {st : List Value} {M : sM} {l : sL} : s_sa p l st M = (s_sa p [] st M).map (v_put l) := by
  unfold s_sa
  split
  · exact v_m_av
  · rfl
theorem v_m_la {p : Nat} {st : List Value} {M : sM} {l : sL} : s_la p l st M = (s_la p [] st M).map (v_put l) := by
  unfold s_la
  split
  · rename_i i a r
    cases s_at M a i (fun k => Nat.beq k 14) with
    | none => rfl
    | some v => cases v <;> rfl
  · rfl
theorem v_m_aa {p : Nat} {st : List Value} {M : sM} {l : sL} : s_aa p l st M = (s_aa p [] st M).map (v_put l) := by
  unfold s_aa
  split
  · rename_i i a r
    cases s_at M a i (fun k => Nat.ble 17 k && Nat.ble k 19) with
    | none => rfl
    | some v => cases v <;> rfl
  · rfl
theorem v_m_lkup {d : Int} {ps : Array (Int × Int)} {pc : Nat} {st : List Value} {l : sL} : s_lkup d ps pc l st = (s_lkup d ps pc [] st).map (v_put l) := by
  unfold s_lkup
  split
  · rename_i x r
    cases (ps.toList.zip (ps.toList.drop 1)).all (fun q => decide (q.1.1 < q.2.1)) with
    | true => exact v_m_jump
    | false => rfl
  · rfl
theorem v_m_tsw {d lo hi : Int} {os : Array Int} {pc : Nat} {st : List Value} {l : sL} : s_tsw d lo hi os pc l st = (s_tsw d lo hi os pc [] st).map (v_put l) := by
  unfold s_tsw
  split
  · rename_i x r
    cases decide (x.toInt < lo) || decide (hi < x.toInt) with
    | true => exact v_m_jump
    | false =>
      dsimp only [cond_false]
      cases os[(x.toInt - lo).toNat]? with
      | none => rfl
      | some o => exact v_m_jump
  · rfl
theorem v_le_same {F : sL → sP} {l' l : sL} (hF : ∀ l, F l = (F []).map (v_put l)) {x : Nat × (sL × List Value)} (h : F l' = some x) (hl : v_lE l' l) (hn : v_nd l') : ∃ l1, F l = some (x.1, l1, x.2.2) ∧ v_lE x.2.1 l1 ∧ v_nd x.2.1 := by
  rw [hF l'] at h
  cases h0 : F [] with
  | none => rw [h0] at h; cases h
  | some y =>
    rw [h0] at h
    cases h
    exact ⟨l, by rw [hF l, h0]; rfl, hl, hn⟩
theorem v_le_ild {k p : Nat} {st : List Value} {l' l : sL} {x : Nat × (sL × List Value)} (h : s_ild k p l' st = some x) (hl : v_lE l' l) (hn : v_nd l') : ∃ l1, s_ild k p l st = some (x.1, l1, x.2.2) ∧ v_lE x.2.1 l1 ∧ v_nd x.2.1 := by
  unfold s_ild at h ⊢
  split at h
  · rename_i y hy
    cases h
    rw [hl _ _ hy]
    exact ⟨l, rfl, hl, hn⟩
  · cases h
theorem v_le_lld {k p : Nat} {st : List Value} {l' l : sL} {x : Nat × (sL × List Value)} (h : s_lld k p l' st = some x) (hl : v_lE l' l) (hn : v_nd l') : ∃ l1, s_lld k p l st = some (x.1, l1, x.2.2) ∧ v_lE x.2.1 l1 ∧ v_nd x.2.1 := by
  unfold s_lld at h ⊢
  split at h
  · rename_i y hy
    cases h
    rw [hl _ _ hy]
    exact ⟨l, rfl, hl, hn⟩
  · cases h
theorem v_le_ald {k p : Nat} {st : List Value} {l' l : sL} {x : Nat × (sL × List Value)} (h : s_ald k p l' st = some x) (hl : v_lE l' l) (hn : v_nd l') : ∃ l1, s_ald k p l st = some (x.1, l1, x.2.2) ∧ v_lE x.2.1 l1 ∧ v_nd x.2.1 := by
  unfold s_ald at h ⊢
  split at h
  · rename_i y hy
    cases h
    rw [hl _ _ hy]
    exact ⟨l, rfl, hl, hn⟩
  · rename_i hy
    cases h
    rw [hl _ _ hy]
    exact ⟨l, rfl, hl, hn⟩
  · rename_i y hy
    cases h
    rw [hl _ _ hy]
    exact ⟨l, rfl, hl, hn⟩
  · cases h
theorem v_le_ist {mx k p : Nat} {st : List Value} {l' l : sL} {x : Nat × (sL × List Value)} (h : s_ist mx k p l' st = some x) (hl : v_lE l' l) (hn : v_nd l') : ∃ l1, s_ist mx k p l st = some (x.1, l1, x.2.2) ∧ v_lE x.2.1 l1 ∧ v_nd x.2.1 := by
  unfold s_ist at h ⊢
  split at h
  · rename_i y r
    cases hb : Nat.blt k mx with
    | true => rw [hb] at h; cases h; exact ⟨_, rfl, v_le_set hl hn⟩
    | false => rw [hb] at h; cases h
  · cases h
theorem v_le_lst {mx k p : Nat} {st : List Value} {l' l : sL} {x : Nat × (sL × List Value)} (h : s_lst mx k p l' st = some x) (hl : v_lE l' l) (hn : v_nd l') : ∃ l1, s_lst mx k p l st = some (x.1, l1, x.2.2) ∧ v_lE x.2.1 l1 ∧ v_nd x.2.1 := by
  unfold s_lst at h ⊢
  split at h
  · rename_i y r
    cases hb : Nat.blt (k + 1) mx with
    | true => rw [hb] at h; cases h; exact ⟨_, rfl, v_le_setL hl hn⟩
    | false => rw [hb] at h; cases h
  · cases h
theorem v_le_ast {mx k p : Nat} {st : List Value} {l' l : sL} {x : Nat × (sL × List Value)} (h : s_ast mx k p l' st = some x) (hl : v_lE l' l) (hn : v_nd l') : ∃ l1, s_ast mx k p l st = some (x.1, l1, x.2.2) ∧ v_lE x.2.1 l1 ∧ v_nd x.2.1 := by
  unfold s_ast at h ⊢
  split at h
  · rename_i y r
    cases hb : Nat.blt k mx with
    | true => rw [hb] at h; cases h; exact ⟨_, rfl, v_le_set hl hn⟩
    | false => rw [hb] at h; cases h
  · rename_i r
    cases hb : Nat.blt k mx with
    | true => rw [hb] at h; cases h; exact ⟨_, rfl, v_le_set hl hn⟩
    | false => rw [hb] at h; cases h
  · cases h
theorem v_le_iinc {mx k p : Nat} {n : Int} {st : List Value} {l' l : sL} {x : Nat × (sL × List Value)} (h : s_iinc mx k n p l' st = some x) (hl : v_lE l' l) (hn : v_nd l') : ∃ l1, s_iinc mx k n p l st = some (x.1, l1, x.2.2) ∧ v_lE x.2.1 l1 ∧ v_nd x.2.1 := by
  unfold s_iinc at h ⊢
  split at h
  · rename_i y hy
    cases hb : Nat.blt k mx with
    | true => rw [hb] at h; cases h; rw [hl _ _ hy]; exact ⟨_, rfl, v_le_set hl hn⟩
    | false => rw [hb] at h; cases h
  · cases h
set_option maxHeartbeats 4000000 in
theorem v_le_pure {E : sE} {mx pc p : Nat} {i : Jvm.ClassFile.Instr} {l' l : sL} {st : List Value} {M : sM} {x : Nat × (sL × List Value)} (h : s_pure E mx i pc p l' st M = some x) (hl : v_lE l' l) (hn : v_nd l') : ∃ l1, s_pure E mx i pc p l st M = some (x.1, l1, x.2.2) ∧ v_lE x.2.1 l1 ∧ v_nd x.2.1 := by
  cases i
  case aload k => exact v_le_ald h hl hn
  case aload_n k => exact v_le_ald h hl hn
  case iload k => exact v_le_ild h hl hn
  case iload_n k => exact v_le_ild h hl hn
  case lload k => exact v_le_lld h hl hn
  case lload_n k => exact v_le_lld h hl hn
  case istore k => exact v_le_ist h hl hn
  case istore_n k => exact v_le_ist h hl hn
  case lstore k => exact v_le_lst h hl hn
  case lstore_n k => exact v_le_lst h hl hn
  case astore k => exact v_le_ast h hl hn
  case astore_n k => exact v_le_ast h hl hn
  case iinc k n => exact v_le_iinc h hl hn
  case iadd => exact v_le_same (fun _ => v_m_i2) h hl hn
  case isub => exact v_le_same (fun _ => v_m_i2) h hl hn
  case imul => exact v_le_same (fun _ => v_m_i2) h hl hn
  case iand => exact v_le_same (fun _ => v_m_i2) h hl hn
  case ior => exact v_le_same (fun _ => v_m_i2) h hl hn
  case ixor => exact v_le_same (fun _ => v_m_i2) h hl hn
  case ishl => exact v_le_same (fun _ => v_m_i2) h hl hn
  case ishr => exact v_le_same (fun _ => v_m_i2) h hl hn
  case iushr => exact v_le_same (fun _ => v_m_i2) h hl hn
  case ladd => exact v_le_same (fun _ => v_m_l2) h hl hn
  case lsub => exact v_le_same (fun _ => v_m_l2) h hl hn
  case land => exact v_le_same (fun _ => v_m_l2) h hl hn
  case lor => exact v_le_same (fun _ => v_m_l2) h hl hn
  case lshl => exact v_le_same (fun _ => v_m_li) h hl hn
  case lushr => exact v_le_same (fun _ => v_m_li) h hl hn
  case ineg => exact v_le_same (fun _ => v_m_i1) h hl hn
  case i2l => exact v_le_same (fun _ => v_m_i1) h hl hn
  case i2b => exact v_le_same (fun _ => v_m_i1) h hl hn
  case i2s => exact v_le_same (fun _ => v_m_i1) h hl hn
  case goto off => exact v_le_same (fun _ => v_m_jump) h hl hn
  case lookupswitch d ps => exact v_le_same (fun _ => v_m_lkup) h hl hn
  case tableswitch d lo hi os => exact v_le_same (fun _ => v_m_tsw) h hl hn
  case getfield n => exact v_le_same (fun _ => v_m_gf) h hl hn
  case iaload => exact v_le_same (fun _ => v_m_ia) h hl hn
  case baload => exact v_le_same (fun _ => v_m_ba) h hl hn
  case saload => exact v_le_same (fun _ => v_m_sa) h hl hn
  case laload => exact v_le_same (fun _ => v_m_la) h hl hn
  case aaload => exact v_le_same (fun _ => v_m_aa) h hl hn
  case arraylength => exact v_le_same (fun _ => v_m_len) h hl hn
  case idiv =>
    refine v_le_same (F := fun l => s_pure E mx .idiv pc p l st M) (fun l => ?_) h hl hn
    clear h
    show (match st with
      | .int y :: _ => bif decide (y = 0) then none else s_i2 st (fun x y => x / y) p l
      | _ => none) = Option.map (v_put l) (match st with
      | .int y :: _ => bif decide (y = 0) then none else s_i2 st (fun x y => x / y) p []
      | _ => none)
    split
    · rename_i y r
      cases decide (y = 0) with
      | true => rfl
      | false => exact v_m_i2
    · rfl
  case irem =>
    refine v_le_same (F := fun l => s_pure E mx .irem pc p l st M) (fun l => ?_) h hl hn
    clear h
    show (match st with
      | .int y :: _ => bif decide (y = 0) then none else s_i2 st (fun x y => x - x / y * y) p l
      | _ => none) = Option.map (v_put l) (match st with
      | .int y :: _ => bif decide (y = 0) then none else s_i2 st (fun x y => x - x / y * y) p []
      | _ => none)
    split
    · rename_i y r
      cases decide (y = 0) with
      | true => rfl
      | false => exact v_m_i2
    · rfl
  case ifCond c off =>
    refine v_le_same (F := fun l => s_pure E mx (.ifCond c off) pc p l st M) (fun l => ?_) h hl hn
    clear h
    show (match st with
      | .int x :: r => s_jump (s_br (s_c1 c x) pc off) l r
      | _ => none) = Option.map (v_put l) (match st with
      | .int x :: r => s_jump (s_br (s_c1 c x) pc off) [] r
      | _ => none)
    split
    · exact v_m_jump
    · rfl
  case if_icmp c off =>
    refine v_le_same (F := fun l => s_pure E mx (.if_icmp c off) pc p l st M) (fun l => ?_) h hl hn
    clear h
    show (match st with
      | .int y :: .int x :: r => s_jump (s_br (s_c2 c x y) pc off) l r
      | _ => none) = Option.map (v_put l) (match st with
      | .int y :: .int x :: r => s_jump (s_br (s_c2 c x y) pc off) [] r
      | _ => none)
    split
    · exact v_m_jump
    · rfl
  case ifnull off =>
    refine v_le_same (F := fun l => s_pure E mx (.ifnull off) pc p l st M) (fun l => ?_) h hl hn
    clear h
    show (match st with
      | .null :: r => s_jump (s_tgt pc off) l r
      | .ref _ :: r => some (p, l, r)
      | _ => none) = Option.map (v_put l) (match st with
      | .null :: r => s_jump (s_tgt pc off) [] r
      | .ref _ :: r => some (p, [], r)
      | _ => none)
    split
    · exact v_m_jump
    · rfl
    · rfl
  case ifnonnull off =>
    refine v_le_same (F := fun l => s_pure E mx (.ifnonnull off) pc p l st M) (fun l => ?_) h hl hn
    clear h
    show (match st with
      | .null :: r => some (p, l, r)
      | .ref _ :: r => s_jump (s_tgt pc off) l r
      | _ => none) = Option.map (v_put l) (match st with
      | .null :: r => some (p, [], r)
      | .ref _ :: r => s_jump (s_tgt pc off) [] r
      | _ => none)
    split
    · rfl
    · exact v_m_jump
    · rfl
  case l2i =>
    refine v_le_same (F := fun l => s_pure E mx .l2i pc p l st M) (fun l => ?_) h hl hn
    clear h
    show (match st with
      | .long x :: r => some (p, l, .int x.toInt32 :: r)
      | _ => none) = Option.map (v_put l) (match st with
      | .long x :: r => some (p, [], .int x.toInt32 :: r)
      | _ => none)
    split <;> rfl
  case lcmp =>
    refine v_le_same (F := fun l => s_pure E mx .lcmp pc p l st M) (fun l => ?_) h hl hn
    clear h
    show (match st with
      | .long y :: .long x :: r => some (p, l, .int (lg_cmp x y) :: r)
      | _ => none) = Option.map (v_put l) (match st with
      | .long y :: .long x :: r => some (p, [], .int (lg_cmp x y) :: r)
      | _ => none)
    split <;> rfl
  case dup =>
    refine v_le_same (F := fun l => s_pure E mx .dup pc p l st M) (fun l => ?_) h hl hn
    clear h
    show (match st with
      | v :: r => bif Nat.beq v.category 1 then some (p, l, v :: v :: r) else none
      | _ => none) = Option.map (v_put l) (match st with
      | v :: r => bif Nat.beq v.category 1 then some (p, [], v :: v :: r) else none
      | _ => none)
    split
    · rename_i v r
      cases Nat.beq v.category 1 <;> rfl
    · rfl
  case pop =>
    refine v_le_same (F := fun l => s_pure E mx .pop pc p l st M) (fun l => ?_) h hl hn
    clear h
    show (match st with
      | v :: r => bif Nat.beq v.category 1 then some (p, l, r) else none
      | _ => none) = Option.map (v_put l) (match st with
      | v :: r => bif Nat.beq v.category 1 then some (p, [], r) else none
      | _ => none)
    split
    · rename_i v r
      cases Nat.beq v.category 1 <;> rfl
    · rfl
  case pop2 =>
    refine v_le_same (F := fun l => s_pure E mx .pop2 pc p l st M) (fun l => ?_) h hl hn
    clear h
    show (match st with
      | v :: r => bif Nat.beq v.category 2 then some (p, l, r) else none
      | _ => none) = Option.map (v_put l) (match st with
      | v :: r => bif Nat.beq v.category 2 then some (p, [], r) else none
      | _ => none)
    split
    · rename_i v r
      cases Nat.beq v.category 2 <;> rfl
    · rfl
  case dup2 =>
    refine v_le_same (F := fun l => s_pure E mx .dup2 pc p l st M) (fun l => ?_) h hl hn
    clear h
    show (match st with
      | v :: w :: r => bif Nat.beq v.category 1 && Nat.beq w.category 1 then some (p, l, v :: w :: v :: w :: r) else none
      | _ => none) = Option.map (v_put l) (match st with
      | v :: w :: r => bif Nat.beq v.category 1 && Nat.beq w.category 1 then some (p, [], v :: w :: v :: w :: r) else none
      | _ => none)
    split
    · rename_i v w r
      cases Nat.beq v.category 1 && Nat.beq w.category 1 <;> rfl
    · rfl
  case getstatic j =>
    refine v_le_same (F := fun l => s_pure E mx (.getstatic j) pc p l st M) (fun l => ?_) h hl hn
    clear h
    show (bif Nat.blt j 2 then some (p, l, .retAddr j :: st) else none) = Option.map (v_put l) (bif Nat.blt j 2 then some (p, [], .retAddr j :: st) else none)
    cases Nat.blt j 2 <;> rfl
  all_goals first
    | exact nomatch (show none = some x from h)
    | exact v_le_same (F := fun l => some (p, l, _)) (fun _ => rfl) h hl hn
def v_leR (f : Nat → sMeth → Nat → sL → List Value → sM → sR) : Prop := ∀ d μ pc l' l st M r, v_lE l' l → v_nd l' → f d μ pc l' st M = some r → f d μ pc l st M = some r
theorem v_le_call {f : Nat → sMeth → Nat → sL → List Value → sM → sR} (hf : v_leR f) {d : Nat} {μ ν : sMeth} {p : Nat} {l' l : sL} {as r : List Value} {M : sM} {x : Option Value × sM} (hl : v_lE l' l) (hn : v_nd l') (h : s_call f d μ ν p l' as r M = some x) : s_call f d μ ν p l as r M = some x := by
  obtain ⟨o, M'⟩ := x
  obtain ⟨d', v, M2, rfl, h1, h2, h3⟩ := s_call_sp h
  unfold s_call
  dsimp only
  rw [h1, cond_true, h2]
  cases v with
  | none => exact hf _ _ _ _ _ _ _ _ hl hn h3
  | some v => exact hf _ _ _ _ _ _ _ _ hl hn h3
set_option maxHeartbeats 8000000 in
theorem v_le_step {prog : Nat → Option sMeth} {fty : Nat → Nat → FieldType} {ft : List (Nat × (Nat → FieldType))} {E : sE} {f : Nat → sMeth → Nat → sL → List Value → sM → sR} (hf : v_leR f) : v_leR (s_step prog fty ft E f) := by
  intro d μ pc l' l st M r hl hn h
  unfold s_step at h ⊢
  cases hq : s_fetch μ.2.2.2 pc with
  | none => rw [hq] at h; cases h
  | some q =>
    rw [hq] at h
    obtain ⟨i, len⟩ := q
    dsimp only at h ⊢
    cases i
    case invokevirtual w =>
      dsimp only at h ⊢
      cases hs : s_split (w % 8) [] st with
      | none => rw [hs] at h; cases h
      | some t =>
        rw [hs] at h
        obtain ⟨as, r2⟩ := t
        cases r2 with
        | nil => cases h
        | cons v r2 =>
          cases v
          case ref a =>
            dsimp only at h ⊢
            cases hp : prog (w / 8) with
            | none => rw [hp] at h; cases h
            | some ν =>
              rw [hp] at h
              dsimp only at h ⊢
              cases hz : Nat.beq (s_kd M a) ν.2.2.1 with
              | true => rw [hz, cond_true] at h; exact v_le_call hf hl hn h
              | false => rw [hz] at h; cases h
          all_goals cases h
    case invokespecial w =>
      dsimp only at h ⊢
      cases hw : Nat.beq w 0 with
      | true =>
        rw [hw, cond_true] at h
        rw [cond_true]
        split at h
        · rename_i d' a r2
          try dsimp only
          cases hz : Nat.ble (r2.map fun v => v.category).sum 8 with
          | true => rw [hz, cond_true] at h; exact hf _ _ _ _ _ _ _ _ hl hn h
          | false => rw [hz] at h; cases h
        · cases h
      | false =>
        rw [hw, cond_false] at h
        rw [cond_false]
        cases hs : s_split (w % 8) [] st with
        | none => rw [hs] at h; cases h
        | some t =>
          rw [hs] at h
          obtain ⟨as, r2⟩ := t
          cases r2 with
          | nil => cases h
          | cons v r2 =>
            cases v
            case ref a =>
              dsimp only at h ⊢
              cases hp : prog (w / 8) with
              | none => rw [hp] at h; cases h
              | some ν => rw [hp] at h; exact v_le_call hf hl hn h
            all_goals cases h
    case invokestatic w =>
      dsimp only at h ⊢
      cases hs : s_split (w % 8) [] st with
      | none => rw [hs] at h; cases h
      | some t =>
        rw [hs] at h
        dsimp only at h ⊢
        cases hp : prog (w / 8) with
        | none => rw [hp] at h; cases h
        | some ν => rw [hp] at h; exact v_le_call hf hl hn h
    case invokeinterface w k =>
      dsimp only at h ⊢
      cases hs : s_split (w % 8) [] st with
      | none => rw [hs] at h; cases h
      | some t =>
        rw [hs] at h
        dsimp only at h ⊢
        cases hp : prog (w / 8) with
        | none => rw [hp] at h; cases h
        | some ν => rw [hp] at h; exact v_le_call hf hl hn h
    case invokedynamic w =>
      dsimp only at h ⊢
      cases d with
      | zero => cases h
      | succ d =>
        dsimp only at h ⊢
        cases hw : Nat.beq w 0 with
        | true =>
          rw [hw, cond_true] at h
          rw [cond_true]
          cases hs : s_ac st M with
          | none => rw [hs] at h; cases h
          | some t => rw [hs] at h; exact hf _ _ _ _ _ _ _ _ hl hn h
        | false =>
          rw [hw, cond_false] at h
          rw [cond_false]
          split at h
          · rename_i y x r2
            try dsimp only
            cases hz : Nat.ble (r2.map fun v => v.category).sum 8 with
            | true => rw [hz, cond_true] at h; exact hf _ _ _ _ _ _ _ _ hl hn h
            | false => rw [hz] at h; cases h
          · cases h
    case ireturn => exact h
    case lreturn => exact h
    case areturn => exact h
    case return_ => exact h
    all_goals first
      | (dsimp only at h ⊢
         cases hp : s_pure E μ.1 _ pc (pc + len) l' st M with
         | none => rw [hp] at h; cases h
         | some t =>
           obtain ⟨l1, e1, e2, e3⟩ := v_le_pure hp hl hn
           rw [e1]
           rw [hp] at h
           exact hf _ _ _ _ _ _ _ _ e2 e3 h)
      | (dsimp only at h ⊢
         cases hp : s_wr fty _ st M with
         | none => rw [hp] at h; cases h
         | some t =>
           rw [hp] at h
           exact hf _ _ _ _ _ _ _ _ hl hn h)
      | (dsimp only at h ⊢
         cases hp : s_al ft _ st M with
         | none => rw [hp] at h; cases h
         | some t =>
           rw [hp] at h
           exact hf _ _ _ _ _ _ _ _ hl hn h)
theorem v_le_x {E : sE} : ∀ n, v_leR (s_x s_prog s_fty s_ft E n)
  | 0 => fun d μ pc l' l st M r _ _ h => by cases h
  | n + 1 => v_le_step (v_le_x n)
def v_has (l : sL) : sL → Prop
  | [] => True
  | q :: r => s_get l q.1 = some q.2 ∧ v_has l r
theorem v_has_le {l : sL} : ∀ {l' : sL}, v_has l l' → v_lE l' l
  | [], _ => fun i v h => by cases h
  | q :: r, hh => fun i v h => by
    unfold s_get at h
    cases hb : Nat.beq q.1 i with
    | true =>
      rw [hb] at h
      cases h
      have e := Nat.eq_of_beq_eq_true hb
      subst e
      exact hh.1
    | false => rw [hb] at h; exact v_has_le hh.2 i v h
/-- the pure side's words -/
def v_bi {α β : Type} (o : Option (α × vS)) (k : α → vS → Option β) : Option β := match o with
  | some q => k q.1 q.2
  | none => none
theorem v_bd {α β : Type} {o : Option (α × vS)} {k : α → vS → Option β} {x : β} (h : v_bi o k = some x) : ∃ r s, o = some (r, s) ∧ k r s = some x := by
  cases o with
  | none => cases h
  | some q => exact ⟨q.1, q.2, rfl, h⟩
theorem v_bi_some {α β : Type} {r : α} {s : vS} {k : α → vS → Option β} : v_bi (some (r, s)) k = k r s := rfl
def v_let {β : Type} (e : vS) (k : vS → Option β) : Option β := k e
theorem v_ld {β : Type} {e : vS} {k : vS → Option β} {x : β} (h : v_let e k = some x) : ∃ s, s = e ∧ k s = some x := ⟨e, rfl, h⟩
def v_on {β : Type} (o : Option Nat) (x : Option β) (k : Nat → Option β) : Option β := match o with
  | none => x
  | some b => k b
theorem v_od {β : Type} {o : Option Nat} {x : Option β} {k : Nat → Option β} {y : β} (h : v_on o x k = some y) : (o = none ∧ x = some y) ∨ ∃ b, o = some b ∧ k b = some y := by
  cases o with
  | none => exact Or.inl ⟨rfl, h⟩
  | some b => exact Or.inr ⟨b, rfl, h⟩
theorem v_if {β : Type} {c : Prop} [Decidable c] {a b : Option β} {x : β} (h : (if c then a else b) = some x) : (c ∧ a = some x) ∨ (¬ c ∧ b = some x) := by
  by_cases hc : c
  · rw [if_pos hc] at h; exact Or.inl ⟨hc, h⟩
  · rw [if_neg hc] at h; exact Or.inr ⟨hc, h⟩
theorem v_ck {β : Type} {c : Prop} [Decidable c] {a : Option β} {x : β} (h : (if c then a else none) = some x) : c ∧ a = some x := by
  by_cases hc : c
  · rw [if_pos hc] at h; exact ⟨hc, h⟩
  · rw [if_neg hc] at h; cases h
theorem v_fz {K j : Nat} {x : Int32} (h : x = 0 ∨ x = 1) (ht : s_fty K j = .boolean) : s_fit (s_fty K j) (.int x) = true := by
  rw [ht]
  rcases h with rfl | rfl <;> rfl
def v_nu (o : Option Nat) : Value := match o with
  | none => .null
  | some a => .ref a
def v_Q (o : Option Value) (s : vS) : Option Value → sM → Prop := fun o' M => o' = o ∧ M = v_mk s
section VK
variable {E : sE} {D : Nat} {μ ν : sMeth} {Q : Option Value → sM → Prop} {pc P T len : Nat} {ls ls' : sL} {st st' as r : List Value} {M M' : sM}
theorem v_ls (h : v_has ls ls') (hn : (ls'.map (fun q => q.1)).Nodup) (kk : s_Ek E D μ pc ls' st M Q) : s_Ek E D μ pc ls st M Q := by
  obtain ⟨n, o, M', h1, h2⟩ := kk
  exact ⟨n, o, M', v_le_x n _ _ _ _ _ _ _ _ (v_has_le h) hn h1, h2⟩
theorem v_pure {i : Jvm.ClassFile.Instr} (hf : s_fetch μ.2.2.2 pc = some (i, len)) (hp : s_pure E μ.1 i pc (pc + len) ls st M = some (P, ls', st')) (kk : s_Ek E D μ P ls' st' M Q) : s_Ek E D μ pc ls st M Q := s_ev_one (fun _ => s_step_pure hf hp) kk
theorem v_wrt {i : Jvm.ClassFile.Instr} (hf : s_fetch μ.2.2.2 pc = some (i, len)) (hp : s_wr s_fty i st M = some (st', M')) (kk : s_Ek E D μ (pc + len) ls st' M' Q) : s_Ek E D μ pc ls st M Q :=
  s_ev_one (fun _ => s_step_wr hf hp) (s_ev_mono kk (fun _ _ q => ⟨(s_wr_keep hp).tr q.1, q.2⟩))
theorem v_gf {n a : Nat} {v : Value} (hf : s_fetch μ.2.2.2 pc = some (.getfield n, 3)) (h : s_fld M a n = some v) (kk : s_Ek E D μ (pc + 3) ls (v :: r) M Q) : s_Ek E D μ pc ls (.ref a :: r) M Q :=
  v_pure hf (show s_gf n (pc + 3) ls (.ref a :: r) M = some (pc + 3, ls, v :: r) by unfold s_gf; dsimp only; rw [h]) kk
theorem v_pf {n a : Nat} {v : Value} (hf : s_fetch μ.2.2.2 pc = some (.putfield n, 3)) (h : s_pf s_fty n (v :: .ref a :: r) M = some (r, M')) (kk : s_Ek E D μ (pc + 3) ls r M' Q) : s_Ek E D μ pc ls (v :: .ref a :: r) M Q :=
  v_wrt hf (show s_pf s_fty n (v :: .ref a :: r) M = some (r, M') from h) kk
theorem v_ia {a : Nat} {i x : Int32} (hf : s_fetch μ.2.2.2 pc = some (.iaload, 1)) (h : s_at M a i (fun k => Nat.beq k 13) = some (.int x)) (kk : s_Ek E D μ (pc + 1) ls (.int x :: r) M Q) : s_Ek E D μ pc ls (.int i :: .ref a :: r) M Q :=
  v_pure hf (show s_ia E (pc + 1) ls (.int i :: .ref a :: r) M = some (pc + 1, ls, .int x :: r) by unfold s_ia; dsimp only; rw [h]) kk
theorem v_ba {a : Nat} {i x : Int32} (hf : s_fetch μ.2.2.2 pc = some (.baload, 1)) (h : s_at M a i (fun k => Nat.beq k 12 || Nat.beq k 16) = some (.int x)) (kk : s_Ek E D μ (pc + 1) ls (.int x :: r) M Q) : s_Ek E D μ pc ls (.int i :: .ref a :: r) M Q :=
  v_pure hf (show s_ba (pc + 1) ls (.int i :: .ref a :: r) M = some (pc + 1, ls, .int x :: r) by unfold s_ba; dsimp only; rw [h]) kk
theorem v_sa {a : Nat} {i x : Int32} (hf : s_fetch μ.2.2.2 pc = some (.saload, 1)) (h : s_at M a i (fun k => Nat.beq k 15) = some (.int x)) (kk : s_Ek E D μ (pc + 1) ls (.int x :: r) M Q) : s_Ek E D μ pc ls (.int i :: .ref a :: r) M Q :=
  v_pure hf (show s_sa (pc + 1) ls (.int i :: .ref a :: r) M = some (pc + 1, ls, .int x :: r) by unfold s_sa; dsimp only; rw [h]) kk
theorem v_la {a : Nat} {i : Int32} {x : Int64} (hf : s_fetch μ.2.2.2 pc = some (.laload, 1)) (h : s_at M a i (fun k => Nat.beq k 14) = some (.long x)) (kk : s_Ek E D μ (pc + 1) ls (.long x :: r) M Q) : s_Ek E D μ pc ls (.int i :: .ref a :: r) M Q :=
  v_pure hf (show s_la (pc + 1) ls (.int i :: .ref a :: r) M = some (pc + 1, ls, .long x :: r) by unfold s_la; dsimp only; rw [h]) kk
theorem v_aa {a x : Nat} {i : Int32} (hf : s_fetch μ.2.2.2 pc = some (.aaload, 1)) (h : s_at M a i (fun k => Nat.ble 17 k && Nat.ble k 19) = some (.ref x)) (kk : s_Ek E D μ (pc + 1) ls (.ref x :: r) M Q) : s_Ek E D μ pc ls (.int i :: .ref a :: r) M Q :=
  v_pure hf (show s_aa (pc + 1) ls (.int i :: .ref a :: r) M = some (pc + 1, ls, .ref x :: r) by unfold s_aa; dsimp only; rw [h]) kk
theorem v_alen {a : Nat} {x : Int32} (hf : s_fetch μ.2.2.2 pc = some (.arraylength, 1)) (h : s_len E (pc + 1) ls (.ref a :: r) M = some (pc + 1, ls, .int x :: r)) (kk : s_Ek E D μ (pc + 1) ls (.int x :: r) M Q) : s_Ek E D μ pc ls (.ref a :: r) M Q :=
  v_pure hf h kk
/-- a static row is read -/
theorem v_ias {j : Nat} {i : Int32} (hf : s_fetch μ.2.2.2 pc = some (.iaload, 1)) (h0 : 0 ≤ i.toInt ∧ i.toInt < (E j).1) (hj : Nat.blt j (E 3).1 = true) (kk : s_Ek E D μ (pc + 1) ls (.int ((E j).2 i.toNatClampNeg) :: r) M Q) : s_Ek E D μ pc ls (.int i :: .retAddr j :: r) M Q :=
  v_pure hf (show s_ia E (pc + 1) ls (.int i :: .retAddr j :: r) M = some (pc + 1, ls, .int ((E j).2 i.toNatClampNeg) :: r) by
    unfold s_ia
    dsimp only
    rw [v_nn h0.1, hj, show Nat.blt i.toNatClampNeg (E j).1 = true from Nat.ble_eq_true_of_le (v_ii h0.1 h0.2)]
    rfl) kk
theorem v_div {x y : Int32} (hf : s_fetch μ.2.2.2 pc = some (.idiv, 1)) (hy : ¬ y = 0) (kk : s_Ek E D μ (pc + 1) ls (.int (x / y) :: r) M Q) : s_Ek E D μ pc ls (.int y :: .int x :: r) M Q :=
  v_pure hf (show (bif decide (y = 0) then none else s_i2 (.int y :: .int x :: r) (fun x y => x / y) (pc + 1) ls) = some (pc + 1, ls, .int (x / y) :: r) by rw [decide_eq_false hy]; rfl) kk
theorem v_rem {x y : Int32} (hf : s_fetch μ.2.2.2 pc = some (.irem, 1)) (hy : ¬ y = 0) (kk : s_Ek E D μ (pc + 1) ls (.int (x - x / y * y) :: r) M Q) : s_Ek E D μ pc ls (.int y :: .int x :: r) M Q :=
  v_pure hf (show (bif decide (y = 0) then none else s_i2 (.int y :: .int x :: r) (fun x y => x - x / y * y) (pc + 1) ls) = some (pc + 1, ls, .int (x - x / y * y) :: r) by rw [decide_eq_false hy]; rfl) kk
theorem v_ist {a : Nat} {i x : Int32} (hf : s_fetch μ.2.2.2 pc = some (.iastore, 1)) (h : s_ps M a i (.int x) (fun k => Nat.beq k 13) r = some (r, M')) (kk : s_Ek E D μ (pc + 1) ls r M' Q) : s_Ek E D μ pc ls (.int x :: .int i :: .ref a :: r) M Q := v_wrt hf h kk
theorem v_lst {a : Nat} {i : Int32} {x : Int64} (hf : s_fetch μ.2.2.2 pc = some (.lastore, 1)) (h : s_ps M a i (.long x) (fun k => Nat.beq k 14) r = some (r, M')) (kk : s_Ek E D μ (pc + 1) ls r M' Q) : s_Ek E D μ pc ls (.long x :: .int i :: .ref a :: r) M Q := v_wrt hf h kk
theorem v_sst {a : Nat} {i x : Int32} (hf : s_fetch μ.2.2.2 pc = some (.sastore, 1)) (h : s_ps M a i (.int (vp_nar .short x)) (fun k => Nat.beq k 15) r = some (r, M')) (kk : s_Ek E D μ (pc + 1) ls r M' Q) : s_Ek E D μ pc ls (.int x :: .int i :: .ref a :: r) M Q := v_wrt hf h kk
theorem v_bst {a : Nat} {i x : Int32} (hf : s_fetch μ.2.2.2 pc = some (.bastore, 1)) (hk : s_kd M a = 12) (h : s_ps M a i (.int (vp_nar .byte x)) (fun k => Nat.beq k 12) r = some (r, M')) (kk : s_Ek E D μ (pc + 1) ls r M' Q) : s_Ek E D μ pc ls (.int x :: .int i :: .ref a :: r) M Q :=
  v_wrt hf (show (bif Nat.beq (s_kd M a) 12 then s_ps M a i (.int (vp_nar .byte x)) (fun k => Nat.beq k 12) r else s_ps M a i (.int (vp_nar .boolean x)) (fun k => Nat.beq k 16) r) = some (r, M') by rw [hk]; exact h) kk
theorem v_zst {a : Nat} {i x : Int32} (hf : s_fetch μ.2.2.2 pc = some (.bastore, 1)) (hk : s_kd M a = 16) (h : s_ps M a i (.int (vp_nar .boolean x)) (fun k => Nat.beq k 16) r = some (r, M')) (kk : s_Ek E D μ (pc + 1) ls r M' Q) : s_Ek E D μ pc ls (.int x :: .int i :: .ref a :: r) M Q :=
  v_wrt hf (show (bif Nat.beq (s_kd M a) 12 then s_ps M a i (.int (vp_nar .byte x)) (fun k => Nat.beq k 12) r else s_ps M a i (.int (vp_nar .boolean x)) (fun k => Nat.beq k 16) r) = some (r, M') by rw [hk]; exact h) kk
theorem v_i1t {cnd : Jvm.ClassFile.Cond} {off : Int} {x : Int32} (hf : s_fetch μ.2.2.2 pc = some (.ifCond cnd off, 3)) (ht : s_tgt pc off = some T) (hc : s_p1 cnd x) (kk : s_Ek E D μ T ls r M Q) : s_Ek E D μ pc ls (.int x :: r) M Q := s_ek_if1 hf ht (fun _ => kk) (fun q => absurd hc q)
theorem v_i1f {cnd : Jvm.ClassFile.Cond} {off : Int} {x : Int32} (hf : s_fetch μ.2.2.2 pc = some (.ifCond cnd off, 3)) (ht : s_tgt pc off = some T) (hc : ¬ s_p1 cnd x) (kk : s_Ek E D μ (pc + 3) ls r M Q) : s_Ek E D μ pc ls (.int x :: r) M Q := s_ek_if1 hf ht (fun q => absurd q hc) (fun _ => kk)
theorem v_i2t {cnd : Jvm.ClassFile.Cond} {off : Int} {x y : Int32} (hf : s_fetch μ.2.2.2 pc = some (.if_icmp cnd off, 3)) (ht : s_tgt pc off = some T) (hc : s_p2 cnd x y) (kk : s_Ek E D μ T ls r M Q) : s_Ek E D μ pc ls (.int y :: .int x :: r) M Q := s_ek_if2 hf ht (fun _ => kk) (fun q => absurd hc q)
theorem v_i2f {cnd : Jvm.ClassFile.Cond} {off : Int} {x y : Int32} (hf : s_fetch μ.2.2.2 pc = some (.if_icmp cnd off, 3)) (ht : s_tgt pc off = some T) (hc : ¬ s_p2 cnd x y) (kk : s_Ek E D μ (pc + 3) ls r M Q) : s_Ek E D μ pc ls (.int y :: .int x :: r) M Q := s_ek_if2 hf ht (fun q => absurd q hc) (fun _ => kk)
theorem v_tso {d lo hi : Int} {os : Array Int} {x : Int32} (hf : s_fetch μ.2.2.2 pc = some (.tableswitch d lo hi os, len)) (ht : s_tgt pc d = some T) (hx : x.toInt < lo ∨ hi < x.toInt) (kk : s_Ek E D μ T ls r M Q) : s_Ek E D μ pc ls (.int x :: r) M Q := s_ek_tso hf ht hx kk
theorem v_tsi {d lo hi c : Int} {os : Array Int} {x : Int32} (hf : s_fetch μ.2.2.2 pc = some (.tableswitch d lo hi os, len)) (hx : x.toInt = c) (ht : (bif decide (c < lo) || decide (hi < c) then s_tgt pc d else (match os[(c - lo).toNat]? with | some off => s_tgt pc off | none => none)) = some T) (kk : s_Ek E D μ T ls r M Q) : s_Ek E D μ pc ls (.int x :: r) M Q :=
  v_pure hf (show s_tsw d lo hi os pc ls (.int x :: r) = some (T, ls, r) by
    unfold s_tsw
    dsimp only
    rw [hx]
    cases hb : decide (c < lo) || decide (hi < c) with
    | true => rw [hb, cond_true] at ht; rw [cond_true, ht]; rfl
    | false =>
      rw [hb, cond_false] at ht
      rw [cond_false]
      cases ho : os[(c - lo).toNat]? with
      | none => rw [ho] at ht; cases ht
      | some off => rw [ho] at ht; dsimp only at ht ⊢; rw [ht]; rfl) kk
theorem v_lki {d c : Int} {ps : Array (Int × Int)} {x : Int32} (hf : s_fetch μ.2.2.2 pc = some (.lookupswitch d ps, len)) (hx : x.toInt = c) (ho : (ps.toList.zip (ps.toList.drop 1)).all (fun q => decide (q.1.1 < q.2.1)) = true) (ht : s_tgt pc (Op.lookupswitch.offset ps.toList d c) = some T) (kk : s_Ek E D μ T ls r M Q) : s_Ek E D μ pc ls (.int x :: r) M Q :=
  v_pure hf (show s_lkup d ps pc ls (.int x :: r) = some (T, ls, r) by
    unfold s_lkup
    dsimp only
    rw [ho, cond_true, hx, ht]
    rfl) kk
def v_nin (k : Int) : List (Int × Int) → Prop
  | [] => True
  | q :: r => ¬ k = q.1 ∧ v_nin k r
theorem v_lkn {d k : Int} : ∀ {l : List (Int × Int)}, v_nin k l → Op.lookupswitch.offset l d k = d
  | [], _ => rfl
  | (a, o) :: r, h => by
    rw [Op.lookupswitch.offset_cons, if_neg (fun q => h.1 q.symm)]
    exact v_lkn h.2
theorem v_lko {d : Int} {ps : Array (Int × Int)} {x : Int32} (hf : s_fetch μ.2.2.2 pc = some (.lookupswitch d ps, len)) (hx : v_nin x.toInt ps.toList) (ho : (ps.toList.zip (ps.toList.drop 1)).all (fun q => decide (q.1.1 < q.2.1)) = true) (ht : s_tgt pc d = some T) (kk : s_Ek E D μ T ls r M Q) : s_Ek E D μ pc ls (.int x :: r) M Q :=
  v_pure hf (show s_lkup d ps pc ls (.int x :: r) = some (T, ls, r) by
    unfold s_lkup
    dsimp only
    rw [ho, cond_true, v_lkn hx, ht]
    rfl) kk
theorem v_acp (hD : 0 < D) {M2 : sM} (hf : s_fetch μ.2.2.2 pc = some (.invokedynamic 0, 3)) (h : s_ac st M = some (r, M2)) (hk : s_keep M M2) (kk : s_Ek E D μ (pc + 3) ls r M2 Q) : s_Ek E D μ pc ls st M Q := by
  cases D with
  | zero => omega
  | succ d =>
    refine s_ev_one (fun rec => ?_) (s_ev_mono kk (fun _ _ q => ⟨hk.tr q.1, q.2⟩))
    unfold s_step
    rw [hf]
    dsimp only
    rw [show Nat.beq 0 0 = true from rfl, cond_true, h]
theorem v_min (hD : 0 < D) {x y : Int32} (hf : s_fetch μ.2.2.2 pc = some (.invokedynamic 1, 3)) (hr : Nat.ble (r.map fun v => v.category).sum 8 = true) (kk : s_Ek E D μ (pc + 3) ls (.int (if y < x then y else x) :: r) M Q) : s_Ek E D μ pc ls (.int y :: .int x :: r) M Q := by
  cases D with
  | zero => omega
  | succ d =>
    refine s_ev_one (fun rec => ?_) kk
    unfold s_step
    rw [hf]
    dsimp only
    rw [hr, show Nat.beq 1 0 = false from rfl, show Nat.beq 1 1 = true from rfl, cond_false, cond_true, cond_true]
theorem v_max (hD : 0 < D) {x y : Int32} (hf : s_fetch μ.2.2.2 pc = some (.invokedynamic 2, 3)) (hr : Nat.ble (r.map fun v => v.category).sum 8 = true) (kk : s_Ek E D μ (pc + 3) ls (.int (if x < y then y else x) :: r) M Q) : s_Ek E D μ pc ls (.int y :: .int x :: r) M Q := by
  cases D with
  | zero => omega
  | succ d =>
    refine s_ev_one (fun rec => ?_) kk
    unfold s_step
    rw [hf]
    dsimp only
    rw [hr, show Nat.beq 2 0 = false from rfl, show Nat.beq 2 1 = false from rfl, cond_false, cond_true, cond_false]
/-- calls of a method whose contract is known -/
theorem v_cV {w a : Nat} {as' : List Value} {o : Option Value} {s1 : vS} (hD : 0 < D) (hf : s_fetch μ.2.2.2 pc = some (.invokevirtual w, 3)) (hs : s_split (w % 8) [] st = some (as', .ref a :: r)) (hp : s_prog (w / 8) = some ν) (hk : s_kd M a = ν.2.2.1) (hr : s_room ν.1 (.ref a :: as') r = true) (hc : s_Ek E (D - 1) ν 0 (lv_args 0 (.ref a :: as')) [] M (v_Q o s1)) (kk : s_Ek E D μ (pc + 3) ls (o.toList ++ r) (v_mk s1) Q) : s_Ek E D μ pc ls st M Q := by
  cases D with
  | zero => omega
  | succ d => exact s_ek_callV hf hs hp hk hr (s_ev_mono hc (fun v M2 q => ⟨q.1, by obtain ⟨_, rfl, rfl⟩ := q; exact kk⟩))
theorem v_cS {w : Nat} {as : List Value} {o : Option Value} {s1 : vS} (hD : 0 < D) (hf : s_fetch μ.2.2.2 pc = some (.invokestatic w, 3)) (hs : s_split (w % 8) [] st = some (as, r)) (hp : s_prog (w / 8) = some ν) (hr : s_room ν.1 as r = true) (hc : s_Ek E (D - 1) ν 0 (lv_args 0 as) [] M (v_Q o s1)) (kk : s_Ek E D μ (pc + 3) ls (o.toList ++ r) (v_mk s1) Q) : s_Ek E D μ pc ls st M Q := by
  cases D with
  | zero => omega
  | succ d =>
    refine s_ek_call (fun rec => ?_) hr (s_ev_mono hc (fun v M2 q => ⟨q.1, by obtain ⟨_, rfl, rfl⟩ := q; exact kk⟩))
    unfold s_step
    rw [hf]
    dsimp only
    rw [hs]
    dsimp only
    rw [hp]
theorem v_cI {w c : Nat} {as : List Value} {o : Option Value} {s1 : vS} (hD : 0 < D) (hf : s_fetch μ.2.2.2 pc = some (.invokeinterface w c, 3)) (hs : s_split (w % 8) [] st = some (as, r)) (hp : s_prog (w / 8) = some ν) (hr : s_room ν.1 as r = true) (hc : s_Ek E (D - 1) ν 0 (lv_args 0 as) [] M (v_Q o s1)) (kk : s_Ek E D μ (pc + 3) ls (o.toList ++ r) (v_mk s1) Q) : s_Ek E D μ pc ls st M Q := by
  cases D with
  | zero => omega
  | succ d =>
    refine s_ek_call (fun rec => ?_) hr (s_ev_mono hc (fun v M2 q => ⟨q.1, by obtain ⟨_, rfl, rfl⟩ := q; exact kk⟩))
    unfold s_step
    rw [hf]
    dsimp only
    rw [hs]
    dsimp only
    rw [hp]
theorem v_zret {x : Int32} {s : vS} (hf : s_fetch μ.2.2.2 pc = some (.ireturn, 1)) (ht : μ.2.1 = some .boolean) (hx : x = 0 ∨ x = 1) : s_Ek E D μ pc ls [.int x] (v_mk s) (v_Q (some (.int x)) s) := by
  refine s_ek_ret (fun rec => ?_) ⟨rfl, rfl⟩
  unfold s_step
  rw [hf]
  dsimp only
  rw [ht]
  rcases hx with rfl | rfl <;> rfl
theorem v_ret {o : Option Value} {s : vS} (hs : ∀ rec, s_step s_prog s_fty s_ft E rec D μ pc ls st (v_mk s) = some (o, v_mk s)) : s_Ek E D μ pc ls st (v_mk s) (v_Q o s) := s_ek_ret hs ⟨rfl, rfl⟩
end VK
theorem v_keep {s t : vS} : s_keep (v_mk s) (v_mk t) := by
  refine ⟨by unfold v_mk; rw [v_ce_len, v_ce_len], ?_, fun a => ?_⟩
  · have h : ∀ (l : sM) (j : Nat), s_slots (v_ce s j l) = s_slots (v_ce t j l) := by
      intro l
      induction l with
      | nil => intro j; rfl
      | cons c r ih =>
        intro j
        have := ih (j + 1)
        simp only [v_ce, s_slots, List.map_cons, List.sum_cons, v_ro_len] at this ⊢
        omega
    exact (h s_M0 0).symm
  · unfold s_kd
    rw [v_mk_get, v_mk_get]
    cases s_M0[a]? <;> rfl
/-- what the tables of the cells say -/
def v_is (k : Nat) (ts : List Nat) : Bool := (List.range s_M0.length).all (fun a => !Nat.beq (v_kd a) k || decide ((v_cl a).2.map v_tg = ts))
theorem v_tK {k : Nat} {ts : List Nat} {a j : Nat} (h : v_is k ts = true) (hk : k < 99) (ha : v_kd a = k) : v_tg (v_sl a j) = ts.getD j 0 := by
  obtain ⟨l, h1, h2⟩ := v_kd_cell ha hk
  have h3 := List.all_eq_true.mp h a (List.mem_range.mpr (List.getElem?_eq_some_iff.mp h1).1)
  rw [ha, Nat.beq_refl, Bool.not_true, Bool.false_or] at h3
  have h4 := of_decide_eq_true h3
  rw [v_sl_of h2, ← h4, h2, List.getD_eq_getElem?_getD, List.getElem?_map]
  cases l[j]? <;> rfl
def v_isr (k j off k2 n2 : Nat) : Bool := (List.range s_M0.length).all (fun a => !Nat.beq (v_kd a) k || (decide (v_sl a j = .ref (a + off)) && (Nat.beq (v_kd (a + off)) k2 && Nat.beq (v_ln (a + off)) n2)))
theorem v_rK {k j off k2 n2 a : Nat} (h : v_isr k j off k2 n2 = true) (hk : k < 99) (ha : v_kd a = k) : v_sl a j = .ref (a + off) ∧ v_kd (a + off) = k2 ∧ v_ln (a + off) = n2 := by
  obtain ⟨l, h1, h2⟩ := v_kd_cell ha hk
  have h3 := List.all_eq_true.mp h a (List.mem_range.mpr (List.getElem?_eq_some_iff.mp h1).1)
  rw [ha, Nat.beq_refl, Bool.not_true, Bool.false_or] at h3
  simp only [Bool.and_eq_true] at h3
  exact ⟨of_decide_eq_true h3.1, Nat.eq_of_beq_eq_true h3.2.1, Nat.eq_of_beq_eq_true h3.2.2⟩
set_option maxRecDepth 100000 in
theorem v_is0 : v_is 0 [2, 2] = true := by decide +kernel
set_option maxRecDepth 100000 in
theorem v_is4 : v_is 4 [1, 1, 1, 1, 3, 3, 1, 1, 1, 1, 1, 1] = true := by decide +kernel
set_option maxRecDepth 100000 in
theorem v_is6 : v_is 6 [1, 1, 1, 3] = true := by decide +kernel
set_option maxRecDepth 100000 in
theorem v_is7 : v_is 7 [3, 3, 1] = true := by decide +kernel
set_option maxRecDepth 100000 in
theorem v_r4_4 : v_isr 4 4 1 7 3 = true := by decide +kernel
set_option maxRecDepth 100000 in
theorem v_r4_5 : v_isr 4 5 4 0 2 = true := by decide +kernel
set_option maxRecDepth 100000 in
theorem v_r7_0 : v_isr 7 0 1 13 61 = true := by decide +kernel
set_option maxRecDepth 100000 in
theorem v_r7_1 : v_isr 7 1 2 13 61 = true := by decide +kernel
set_option maxRecDepth 100000 in
theorem v_r6_3 : v_isr 6 3 1 14 60 = true := by decide +kernel
def v_isa (a n base st k : Nat) : Bool := (List.range n).all (fun i => decide (v_sl a i = .ref (base + st * i)) && Nat.beq (v_kd (base + st * i)) k)
theorem v_aK {a n base st k i : Nat} (h : v_isa a n base st k = true) (hi : i < n) : v_sl a i = .ref (base + st * i) ∧ v_kd (base + st * i) = k := by
  have h3 := List.all_eq_true.mp h i (List.mem_range.mpr hi)
  simp only [Bool.and_eq_true] at h3
  exact ⟨of_decide_eq_true h3.1, Nat.eq_of_beq_eq_true h3.2⟩
set_option maxRecDepth 100000 in
theorem v_isa14 : v_isa 14 10 23 5 4 = true := by decide +kernel
set_option maxRecDepth 100000 in
theorem v_isa135 : v_isa 135 6 139 2 6 = true := by decide +kernel
set_option maxRecDepth 100000 in
theorem v_isa84 : v_isa 84 45 87 1 0 = true := by decide +kernel
theorem v_laws {i : Nat} (h : i < 10) : v_sl 14 i = .ref (23 + 5 * i) ∧ v_kd (23 + 5 * i) = 4 := v_aK v_isa14 h
theorem v_shelves {i : Nat} (h : i < 6) : v_sl 135 i = .ref (139 + 2 * i) ∧ v_kd (139 + 2 * i) = 6 := v_aK v_isa135 h
theorem v_met {i : Nat} (h : i < 45) : v_sl 84 i = .ref (87 + 1 * i) ∧ v_kd (87 + 1 * i) = 0 := v_aK v_isa84 h
/-- the store that the constructors leave -/
def v_s0 : vS := (fun a i => match v_sl a i with
  | .int x => x
  | _ => 0, fun a i => match v_sl a i with
  | .long x => x
  | _ => 0)
theorem v_mk0 : v_mk v_s0 = s_M0 := by
  apply List.ext_getElem?
  intro a
  rw [v_mk_get]
  cases h : s_M0[a]? with
  | none => rfl
  | some c =>
    obtain ⟨k, l⟩ := c
    have hc : v_cl a = (k, l) := by unfold v_cl; rw [h]
    show some (k, v_ro v_s0 a 0 l) = some (k, l)
    have e : l = v_ro v_s0 a 0 l := v_ro_ext rfl (fun i v hi => by
      rw [hi]
      have hs : v_sl a i = v := by rw [v_sl_of hc, hi]; rfl
      cases v <;> simp [v_vl, v_s0, hs])
    rw [← e]
