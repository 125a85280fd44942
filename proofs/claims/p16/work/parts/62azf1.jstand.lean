/-! who stands, as the reference finds it -/
abbrev dM (t : vS) : Nat → Int32 := t.1 160
abbrev stM (t : vS) : Nat → Int32 := t.1 162
def sr_E (s t : vS) : Prop := ∀ a j, ¬ ((a = 151 ∧ 30 ≤ j ∧ j ≤ 31) ∨ a = 170) → t.1 a j = s.1 a j
theorem y_order (b : Int32) (t : vS) (h31 : (t.1 151 31).toInt = -1) (hb : 0 ≤ b.toInt ∧ b.toInt ≤ 10) (hd : 0 ≤ (dM t b.toInt.toNat).toInt ∧ (dM t b.toInt.toNat).toInt ≤ 99) : v_P (f_Md_order b t) (fun r u => u = t ∧ r.toInt = 11 * (dM t b.toInt.toNat).toInt + b.toInt) := by
  unfold f_Md_order
  rw [if_neg (by omega), v_nc]
  refine v_Pif (fun _ => v_Pret ⟨rfl, ?_⟩) (fun _ => v_Pnone)
  have e1 : ((11 : Int32) * t.1 160 b.toInt.toNat).toInt = 11 * (t.1 160 b.toInt.toNat).toInt := i32_mul (x := 11) (show -2 ^ 31 ≤ (11 : Int) * (dM t b.toInt.toNat).toInt by omega) (show (11 : Int) * (dM t b.toInt.toNat).toInt < 2 ^ 31 by omega)
  have hd2 : 0 ≤ (t.1 160 b.toInt.toNat).toInt ∧ (t.1 160 b.toInt.toNat).toInt ≤ 99 := hd
  rw [i32_add (by omega) (by omega), e1]
theorem y_isOlderM (b c : Int32) (t : vS) (h31 : (t.1 151 31).toInt = -1) (hb : 0 ≤ b.toInt ∧ b.toInt ≤ 10) (hc : 0 ≤ c.toInt ∧ c.toInt ≤ 10) (hd : ∀ k : Nat, (k = b.toInt.toNat ∨ k = c.toInt.toNat) → 0 ≤ (dM t k).toInt ∧ (dM t k).toInt ≤ 99) : v_P (f_Md_isOlder b c t) (fun r u => u = t ∧ (¬ r.toInt = 0 ↔ ol (dM t) b.toInt.toNat c.toInt.toNat)) := by
  have h1 := hd _ (Or.inl rfl)
  have h2 := hd _ (Or.inr rfl)
  unfold f_Md_isOlder
  refine v_Pbi (y_order b t h31 hb h1) ?_
  rintro r1 u ⟨rfl, e1⟩
  refine v_Pbi (y_order c u h31 hc h2) ?_
  rintro r2 u ⟨rfl, e2⟩
  unfold ol
  by_cases hz : r2.toInt ≤ r1.toInt
  · rw [if_pos hz]
    exact v_Pret ⟨rfl, fun q => absurd rfl q, fun q => by omega⟩
  · rw [if_neg hz]
    refine v_Pret ⟨rfl, fun _ => ?_, fun _ => by decide⟩
    omega
theorem y_fsC {s0 : vS} {K : vS → Option (Unit × vS)} {Q : Unit → vS → Prop} (hK : ∀ t, sr_E s0 t → t.2 = s0.2 → (t.1 151 30 = s0.1 151 30 ∧ t.1 151 31 = s0.1 151 31) → (∀ k : Nat, (k : Int) < (s0.1 151 14).toInt → (t.1 170 k).toInt = 0) → v_P (K t) Q) : ∀ (m : Nat) (v : Int32) (s : vS), 0 ≤ v.toInt → sr_E s0 s → s.2 = s0.2 → (s.1 151 30 = s0.1 151 30 ∧ s.1 151 31 = s0.1 151 31) → (∀ k : Nat, (k : Int) < v.toInt → (s.1 170 k).toInt = 0) → v_P (f_Md_findStands_L12 K m v s) Q
  | 0, _, _, _, _, _, _, _ => v_Pnone
  | m + 1, v, s, hv, hE, h2, h30, hr => by
    show v_P (f_Md_findStands_L12b K (f_Md_findStands_L12 K m) v s) Q
    unfold f_Md_findStands_L12b
    rw [hE 151 14 (by omega)]
    by_cases hc : (s0.1 151 14).toInt ≤ v.toInt
    · rw [if_pos hc]
      exact hK s hE h2 h30 (fun k hk => hr k (by omega))
    · rw [if_neg hc]
      refine v_Pif (fun hv11 => v_Plet ?_) (fun _ => v_Pnone)
      have h11 := hv11.2
      have ei := v_inc (x := v) (by omega)
      refine y_fsC hK m (v + 1) _ (by omega) (fun a j q => by rw [v_w1_1, if_neg (by omega)]; exact hE a j q) h2 ⟨by rw [v_w1_1, if_neg (by omega)]; exact h30.1, by rw [v_w1_1, if_neg (by omega)]; exact h30.2⟩ (fun k hk => ?_)
      rw [v_w1_1, v_nc]
      by_cases hz : k = v.toInt.toNat
      · rw [if_pos ⟨rfl, hz⟩]
        decide
      · rw [if_neg (fun q => hz q.2)]
        exact hr k (by omega)
/-- the oldest of those that are not done -/
def sr_O (D : Nat → Int32) (d : Int32) (k : Nat) (w : Int32) : Prop := (w.toInt = -1 ∧ ∀ m, m < k → bt d m = true) ∨ (0 ≤ w.toInt ∧ w.toInt.toNat < k ∧ bt d w.toInt.toNat = false ∧ ∀ m, m < k → bt d m = false → m = w.toInt.toNat ∨ ol D w.toInt.toNat m)
theorem y_fsO {s : vS} {n : Nat} (hn : (s.1 151 14).toInt = n) (hn10 : n ≤ 10) (h31 : (s.1 151 31).toInt = -1) (hd : ∀ k, k < n → 0 ≤ (dM s k).toInt ∧ (dM s k).toInt ≤ 99) {d p4 : Int32} {K : Int32 → vS → Option (Unit × vS)} {Q : Unit → vS → Prop} (hK : ∀ w, sr_O (dM s) d n w → v_P (K w s) Q) : ∀ (m : Nat) (v w : Int32), 0 ≤ w.toInt → w.toInt ≤ n → sr_O (dM s) d w.toInt.toNat v → v_P (f_Md_findStands_L53 d p4 K m v w s) Q
  | 0, _, _, _, _, _ => v_Pnone
  | m + 1, v, w, hw, hwn, hO => by
    show v_P (f_Md_findStands_L53b d p4 K (f_Md_findStands_L53 d p4 K m) v w s) Q
    unfold f_Md_findStands_L53b
    by_cases hc : (s.1 151 14).toInt ≤ w.toInt
    · rw [if_pos hc]
      exact hK v (by rw [show n = w.toInt.toNat by omega]; exact hO)
    · rw [if_neg hc]
      have ei := v_inc (x := w) (by omega)
      have en : (w + 1).toInt.toNat = w.toInt.toNat + 1 := by omega
      have hg := b_get (x := d) (n := w.toInt.toNat) (by omega)
      rw [← v_of hw] at hg
      have hgo : ∀ x : Int32, sr_O (dM s) d (w.toInt.toNat + 1) x → v_P (f_Md_findStands_L53 d p4 K m x (w + 1) s) Q := fun x hx => y_fsO hn hn10 h31 hd hK m x (w + 1) (by omega) (by omega) (by rw [en]; exact hx)
      by_cases c1 : ((d >>> (w &&& 31)) &&& (1 : Int32)).toInt = 0
      · rw [if_pos c1]
        have hnd := hg.mp c1
        by_cases c2 : v.toInt < 0
        · rw [if_pos c2]
          refine hgo w (Or.inr ⟨hw, by omega, hnd, fun m hm hb => ?_⟩)
          rcases hO with ⟨-, q⟩ | ⟨q, -⟩
          · by_cases hz : m = w.toInt.toNat
            · exact Or.inl hz
            · rw [q m (by omega)] at hb
              cases hb
          · omega
        · rw [if_neg c2]
          rcases hO with ⟨q, -⟩ | ⟨q1, q2, q3, q4⟩
          · omega
          · refine v_Pbi (y_isOlderM w v s h31 ⟨hw, by omega⟩ ⟨q1, by omega⟩ (fun k hk => hd k (by omega))) ?_
            rintro r u ⟨rfl, hr⟩
            by_cases c3 : r.toInt = 0
            · rw [if_pos c3]
              refine hgo v (Or.inr ⟨q1, by omega, q3, fun m hm hb => ?_⟩)
              by_cases hz : m = w.toInt.toNat
              · subst hz
                exact Or.inr (ol_tot (by omega) (fun q => absurd c3 (hr.mpr q)))
              · exact q4 m (by omega) hb
            · rw [if_neg c3]
              have hol := hr.mp c3
              refine hgo w (Or.inr ⟨hw, by omega, hnd, fun m hm hb => ?_⟩)
              by_cases hz : m = w.toInt.toNat
              · exact Or.inl hz
              · rcases q4 m (by omega) hb with z | z
                · rw [z]; exact Or.inr hol
                · exact Or.inr (ol_tr hol z)
      · rw [if_neg c1]
        have hd1 : bt d w.toInt.toNat = true := by
          cases hq : bt d w.toInt.toNat with
          | true => rfl
          | false => exact absurd (hg.mpr hq) c1
        refine hgo v ?_
        rcases hO with ⟨q1, q2⟩ | ⟨q1, q2, q3, q4⟩
        · refine Or.inl ⟨q1, fun m hm => ?_⟩
          by_cases hz : m = w.toInt.toNat
          · rw [hz]; exact hd1
          · exact q2 m (by omega)
        · refine Or.inr ⟨q1, by omega, q3, fun m hm hb => ?_⟩
          by_cases hz : m = w.toInt.toNat
          · rw [hz, hd1] at hb
            cases hb
          · exact q4 m (by omega) hb
/-- whether an older one that stands strikes it -/
theorem y_fsS {s : vS} {n : Nat} (hn : (s.1 151 14).toInt = n) (hn10 : n ≤ 10) (h31 : (s.1 151 31).toInt = -1) (hd : ∀ k, k < n → 0 ≤ (dM s k).toInt ∧ (dM s k).toInt ≤ 99) {p3 p4 x : Int32} (hx : 0 ≤ x.toInt ∧ x.toInt.toNat < n) {T : Prop} {K : Int32 → vS → Option (Unit × vS)} {Q : Unit → vS → Prop} (hK : ∀ v, (v = 0 ∨ v = 1) → (¬ v.toInt = 0 ↔ (T ∧ ¬ ∃ j, j < n ∧ ol (dM s) j x.toInt.toNat ∧ ¬ (s.1 170 j).toInt = 0 ∧ (stM s j).toInt = x.toInt)) → v_P (K v s) Q) : ∀ (m : Nat) (v w : Int32), 0 ≤ w.toInt → w.toInt ≤ n → (v = 0 ∨ v = 1) → (¬ v.toInt = 0 ↔ (T ∧ ¬ ∃ j, j < w.toInt.toNat ∧ ol (dM s) j x.toInt.toNat ∧ ¬ (s.1 170 j).toInt = 0 ∧ (stM s j).toInt = x.toInt)) → v_P (f_Md_findStands_L115 p3 p4 x K m v w s) Q
  | 0, _, _, _, _, _, _ => v_Pnone
  | m + 1, v, w, hw, hwn, hv, hV => by
    show v_P (f_Md_findStands_L115b p3 p4 x K (f_Md_findStands_L115 p3 p4 x K m) v w s) Q
    unfold f_Md_findStands_L115b
    by_cases hc : (s.1 151 14).toInt ≤ w.toInt
    · rw [if_pos hc]
      exact hK v hv (by rw [show n = w.toInt.toNat by omega]; exact hV)
    · rw [if_neg hc]
      have ei := v_inc (x := w) (by omega)
      have en : (w + 1).toInt.toNat = w.toInt.toNat + 1 := by omega
      have hno : ¬ (ol (dM s) w.toInt.toNat x.toInt.toNat ∧ ¬ (s.1 170 w.toInt.toNat).toInt = 0 ∧ (stM s w.toInt.toNat).toInt = x.toInt) → v_P (f_Md_findStands_L115 p3 p4 x K m v (w + 1) s) Q := fun q => y_fsS hn hn10 h31 hd hx hK m v (w + 1) (by omega) (by omega) hv (by
        rw [en, hV]
        constructor
        · rintro ⟨q1, q2⟩
          refine ⟨q1, fun ⟨j, j1, j2⟩ => ?_⟩
          by_cases hz : j = w.toInt.toNat
          · rw [hz] at j2; exact q j2
          · exact q2 ⟨j, by omega, j2⟩
        · rintro ⟨q1, q2⟩
          exact ⟨q1, fun ⟨j, j1, j2⟩ => q2 ⟨j, by omega, j2⟩⟩)
      rw [v_nc]
      refine v_Pif (fun _ => ?_) (fun _ => v_Pnone)
      by_cases c1 : (s.1 170 w.toInt.toNat).toInt = 0
      · rw [if_pos c1]
        exact hno (fun q => q.2.1 c1)
      · rw [if_neg c1]
        refine v_Pif (fun _ => ?_) (fun _ => v_Pnone)
        by_cases c2 : (s.1 162 w.toInt.toNat).toInt = x.toInt
        · rw [if_pos c2]
          refine v_Pbi (y_isOlderM w x s h31 ⟨hw, by omega⟩ ⟨hx.1, by omega⟩ (fun k hk => hd k (by omega))) ?_
          rintro r u ⟨rfl, hr⟩
          by_cases c3 : r.toInt = 0
          · rw [if_pos c3]
            exact hno (fun q => absurd c3 (hr.mpr q.1))
          · rw [if_neg c3]
            refine y_fsS hn hn10 h31 hd hx hK m 0 (w + 1) (by omega) (by omega) (Or.inl rfl) ⟨fun q => absurd rfl q, fun q => ?_⟩
            exact absurd ⟨w.toInt.toNat, by omega, hr.mp c3, c1, c2⟩ q.2
        · rw [if_neg c2]
          exact hno (fun q => c2 q.2.2)
theorem b_cnt_set {x y : Int32} {k : Nat} (hk : bt x k = false) : ∀ n, (∀ i, i < n → bt y i = (bt x i || decide (i = k))) → b_cnt y n = b_cnt x n + (if k < n then 1 else 0)
  | 0, _ => rfl
  | n + 1, h => by
    have ih := b_cnt_set hk n (fun i hi => h i (by omega))
    have h1 := h n (by omega)
    show b_cnt y n + (if bt y n = true then 1 else 0) = b_cnt x n + (if bt x n = true then 1 else 0) + (if k < n + 1 then 1 else 0)
    rw [h1, ih]
    by_cases hz : n = k
    · subst hz
      rw [hk, if_neg (show ¬ n < n by omega), if_pos (show n < n + 1 by omega), if_pos (show (false || decide (n = n)) = true by simp), if_neg (show ¬ false = true by decide)]
    · have e : (bt x n || decide (n = k)) = bt x n := by simp [hz]
      rw [e]
      by_cases hkn : k < n
      · rw [if_pos hkn, if_pos (show k < n + 1 by omega)]
        omega
      · rw [if_neg hkn, if_neg (show ¬ k < n + 1 by omega)]
        omega
theorem b_cnt_len {x : Int32} : ∀ n, b_cnt x n ≤ n
  | 0 => Nat.le_refl _
  | n + 1 => by
    have := b_cnt_len (x := x) n
    show b_cnt x n + (if bt x n = true then 1 else 0) ≤ n + 1
    by_cases h : bt x n = true
    · rw [if_pos h]; omega
    · rw [if_neg h]; omega
theorem b_cnt_full {x : Int32} : ∀ n, b_cnt x n = n → ∀ i, i < n → bt x i = true
  | 0, _, i, hi => absurd hi (Nat.not_lt_zero i)
  | n + 1, h, i, hi => by
    have h1 := b_cnt_len (x := x) n
    have h2 : b_cnt x n + (if bt x n = true then 1 else 0) = n + 1 := h
    by_cases hb : bt x n = true
    · rw [if_pos hb] at h2
      by_cases hz : i = n
      · rw [hz]; exact hb
      · exact b_cnt_full n (by omega) i (by omega)
    · rw [if_neg hb] at h2
      omega
/-- those done, and who stands of them -/
def sr_L (n : Nat) (T : Nat → Prop) (t : vS) (d : Int32) (k : Nat) : Prop := b_cnt d n = k ∧ (∀ m, m < n → bt d m = false → (t.1 170 m).toInt = 0) ∧ (∀ m, m < n → bt d m = true → (¬ (t.1 170 m).toInt = 0 ↔ (T m ∧ ¬ ∃ j, j < n ∧ ol (dM t) j m ∧ ¬ (t.1 170 j).toInt = 0 ∧ (stM t j).toInt = m))) ∧ ∀ m j, m < n → j < n → bt d m = true → ol (dM t) j m → bt d j = true
theorem v_bool {v : Int32} (h : v = 0 ∨ v = 1) : vp_nar .boolean v = v := by rcases h with rfl | rfl <;> decide
theorem y_isIn (b : Int32) (t : vS) (hb : 0 ≤ b.toInt ∧ b.toInt < (t.1 151 14).toInt) (h10 : (t.1 151 14).toInt ≤ 10) : v_P (f_Md_isIn b t) (fun r u => u = t ∧ (r = 0 ∨ r = 1) ∧ (¬ r.toInt = 0 ↔ (xThM t b.toInt ∧ bt (t.1 151 30) b.toInt.toNat = false))) := by
  unfold f_Md_isIn
  refine v_Pbi (y_thereM b t hb) ?_
  rintro r u ⟨rfl, hr⟩
  by_cases hz : r.toInt = 0
  · rw [if_pos hz]
    exact v_Pret ⟨rfl, Or.inl rfl, fun q => absurd rfl q, fun q => absurd hz (hr.mpr q.1)⟩
  · rw [if_neg hz]
    have hg := b_get (x := u.1 151 30) (n := b.toInt.toNat) (by omega)
    rw [← v_of hb.1] at hg
    by_cases hy : (((u.1 151 30) >>> (b &&& 31)) &&& (1 : Int32)).toInt = 0
    · rw [if_pos hy]
      exact v_Pret ⟨rfl, Or.inr rfl, fun _ => ⟨hr.mp hz, hg.mp hy⟩, fun _ => by decide⟩
    · rw [if_neg hy]
      exact v_Pret ⟨rfl, Or.inl rfl, fun q => absurd rfl q, fun q => absurd (hg.mpr q.2) hy⟩
theorem y_fsL {s0 : vS} {n : Nat} (hn : (s0.1 151 14).toInt = n) (hn10 : n ≤ 10) (h31 : (s0.1 151 31).toInt = -1) (hd : ∀ k, k < n → 0 ≤ (dM s0 k).toInt ∧ (dM s0 k).toInt ≤ 99) {K : vS → Option (Unit × vS)} {Q : Unit → vS → Prop} (hK : ∀ t d, (∀ a j, ¬ a = 170 → t.1 a j = s0.1 a j) → t.2 = s0.2 → sr_L n (fun m => xThM s0 m ∧ bt (s0.1 151 30) m = false) t d n → v_P (K t) Q) : ∀ (m : Nat) (d w : Int32) (s : vS), 0 ≤ w.toInt → w.toInt ≤ n → (∀ a j, ¬ a = 170 → s.1 a j = s0.1 a j) → s.2 = s0.2 → sr_L n (fun m => xThM s0 m ∧ bt (s0.1 151 30) m = false) s d w.toInt.toNat → v_P (f_Md_findStands_L38 K m d w s) Q
  | 0, _, _, _, _, _, _, _, _ => v_Pnone
  | m + 1, d, w, s, hw, hwn, hE, h2, hL => by
    show v_P (f_Md_findStands_L38b K (f_Md_findStands_L38 K m) d w s) Q
    unfold f_Md_findStands_L38b
    have e14 := hE 151 14 (by decide)
    rw [e14]
    by_cases hc : (s0.1 151 14).toInt ≤ w.toInt
    · rw [if_pos hc]
      exact hK s d hE h2 (by have e : w.toInt.toNat = n := (by omega); rw [e] at hL; exact hL)
    · rw [if_neg hc]
      have ei := v_inc (x := w) (by omega)
      have en : (w + 1).toInt.toNat = w.toInt.toNat + 1 := by omega
      have hD : dM s = dM s0 := funext fun k => hE _ _ (by decide)
      have hT : stM s = stM s0 := funext fun k => hE _ _ (by decide)
      have hd2 : ∀ k, k < n → 0 ≤ (dM s k).toInt ∧ (dM s k).toInt ≤ 99 := fun k hk => by rw [hD]; exact hd k hk
      have h31s : (s.1 151 31).toInt = -1 := by rw [hE 151 31 (by decide)]; exact h31
      obtain ⟨a1, a2, a3, a4⟩ := hL
      refine y_fsO (s := s) (n := n) (by rw [e14]; exact hn) hn10 h31s hd2 (fun x hx => ?_) 4096 (-1) 0 (by decide) (by show (0 : Int) ≤ _; omega) (Or.inl ⟨rfl, fun q hq => absurd hq (Nat.not_lt_zero _)⟩)
      rcases hx with ⟨-, q⟩ | ⟨q1, q2, q3, q4⟩
      · have h5 := b_cnt_all n q
        omega
      · refine v_Pbi (y_isIn x s ⟨q1, by rw [e14]; omega⟩ (by rw [e14]; omega)) ?_
        rintro r u ⟨rfl, hr, hr2⟩
        have hxs : xThM u x.toInt ∧ bt (u.1 151 30) x.toInt.toNat = false ↔ xThM s0 x.toInt ∧ bt (s0.1 151 30) x.toInt.toNat = false := by
          have e1 : u.1 160 = s0.1 160 := hD
          show x_th (u.1 151 14).toInt (u.1 151 19).toInt (u.1 160) x.toInt ∧ _ ↔ x_th (s0.1 151 14).toInt (s0.1 151 19).toInt (s0.1 160) x.toInt ∧ _
          rw [e14, hE 151 19 (by decide), e1, hE 151 30 (by decide)]
        rw [hxs] at hr2
        have exn : ((x.toInt.toNat : Nat) : Int) = x.toInt := by omega
        refine y_fsS (s := u) (n := n) (by rw [e14]; exact hn) hn10 h31s hd2 ⟨q1, q2⟩ (T := xThM s0 x.toInt ∧ bt (s0.1 151 30) x.toInt.toNat = false) (fun v hv hV => ?_) 4096 r 0 (by decide) (by show (0 : Int) ≤ _; omega) hr (hr2.trans ⟨fun q => ⟨q, fun ⟨j, j1, _⟩ => absurd j1 (Nat.not_lt_zero j)⟩, fun q => q.1⟩)
        refine v_Pif (fun _ => v_Plet ?_) (fun _ => v_Pnone)
        rw [v_bool hv, v_nc]
        have hbs : ∀ i, i < 32 → bt (d ||| ((1 : Int32) <<< (x &&& 31))) i = (bt d i || decide (i = x.toInt.toNat)) := fun i hi => by
          have h6 := b_set (x := d) (n := x.toInt.toNat) (i := i) (by omega) hi
          rw [← v_of q1] at h6
          exact h6
        have hat : ∀ j, (v_w1 u 170 x.toInt.toNat v).1 170 j = if j = x.toInt.toNat then v else u.1 170 j := fun j => by
          rw [v_w1_1]
          by_cases hz : j = x.toInt.toNat
          · rw [if_pos ⟨rfl, hz⟩, if_pos hz]
          · rw [if_neg (fun q => hz q.2), if_neg hz]
        have hout : ∀ a j, ¬ a = 170 → (v_w1 u 170 x.toInt.toNat v).1 a j = u.1 a j := fun a j q => v_w1_1.trans (if_neg (fun z => q z.1))
        have hD2 : dM (v_w1 u 170 x.toInt.toNat v) = dM u := funext fun k => hout _ _ (by decide)
        have hT2 : stM (v_w1 u 170 x.toInt.toNat v) = stM u := funext fun k => hout _ _ (by decide)
        have hw2 : (v_w1 u 170 x.toInt.toNat v).2 = u.2 := rfl
        generalize v_w1 u 170 x.toInt.toNat v = z at hat hout hD2 hT2 hw2 ⊢
        -- older ones than x are done, and are not x
        have hex : ∀ k, k < n → (∀ j, j < n → ol (dM u) j k → ¬ j = x.toInt.toNat) → ((∃ j, j < n ∧ ol (dM z) j k ∧ ¬ (z.1 170 j).toInt = 0 ∧ (stM z j).toInt = k) ↔ ∃ j, j < n ∧ ol (dM u) j k ∧ ¬ (u.1 170 j).toInt = 0 ∧ (stM u j).toInt = k) := fun k hk hj => by
          rw [hD2, hT2]
          constructor
          · rintro ⟨j, j1, j2, j3, j4⟩
            rw [hat j, if_neg (hj j j1 j2)] at j3
            exact ⟨j, j1, j2, j3, j4⟩
          · rintro ⟨j, j1, j2, j3, j4⟩
            exact ⟨j, j1, j2, by rw [hat j, if_neg (hj j j1 j2)]; exact j3, j4⟩
        refine y_fsL hn hn10 h31 hd hK m _ (w + 1) z (by omega) (by omega) (fun a j q => (hout a j q).trans (hE a j q)) (hw2.trans h2) ⟨?_, fun k hk hb => ?_, fun k hk hb => ?_, fun k j hk hj hb hol => ?_⟩
        · rw [b_cnt_set q3 n (fun i hi => hbs i (by omega)), if_pos q2, a1, en]
        · rw [hbs k (by omega), Bool.or_eq_false_iff, decide_eq_false_iff_not] at hb
          rw [hat k, if_neg hb.2]
          exact a2 k hk hb.1
        · rw [hbs k (by omega), Bool.or_eq_true, decide_eq_true_eq] at hb
          by_cases hz : k = x.toInt.toNat
          · dsimp only
            rw [hex k hk (fun j j1 j2 e => by rw [e, hz] at j2; exact ol_ir j2), hat k, if_pos hz, hV, hz, exn]
          · have hbd := hb.resolve_right hz
            rw [hex k hk (fun j j1 j2 e => by rw [e] at j2; rw [a4 k _ hk q2 hbd j2] at q3; cases q3), hat k, if_neg hz]
            exact a3 k hk hbd
        · rw [hbs k (by omega), Bool.or_eq_true, decide_eq_true_eq] at hb
          rw [hbs j (by omega), Bool.or_eq_true, decide_eq_true_eq]
          rw [hD2] at hol
          rcases hb with hb | hb
          · exact Or.inl (a4 k j hk hj hb hol)
          · rw [hb] at hol
            cases hq : bt d j with
            | true => exact Or.inl rfl
            | false =>
              rcases q4 j hj hq with z1 | z1
              · exact Or.inr z1
              · exact absurd hol (ol_as z1)
/-- the reference: who stands, but for a set -/
theorem y_findStands3 (b : Int32) (s : vS) (hm : 0 ≤ (s.1 151 14).toInt ∧ (s.1 151 14).toInt ≤ 10) (hd : ∀ k, k < (s.1 151 14).toInt.toNat → 0 ≤ (dM s k).toInt ∧ (dM s k).toInt ≤ 99) : v_P (f_Md_findStands b (-1) s) (fun _ t => (sr_E s t ∧ t.2 = s.2 ∧ st_F (s.1 151 14).toInt.toNat (fun m => xThM s m ∧ bt b m = false) (dM s) (stM s) (fun m => ¬ (t.1 170 m).toInt = 0)) ∧ (t.1 151 31).toInt = -1) := by
  unfold f_Md_findStands
  refine v_Plet (v_Plet ?_)
  have e30 : (v_w1 (v_w1 s 151 30 b) 151 31 (-1)).1 151 30 = b := by rw [v_w1_1, if_neg (by omega), v_w1_1, if_pos ⟨rfl, rfl⟩]
  have e31 : (v_w1 (v_w1 s 151 30 b) 151 31 (-1)).1 151 31 = -1 := by rw [v_w1_1, if_pos ⟨rfl, rfl⟩]
  have uE : ∀ a j, ¬ (a = 151 ∧ 30 ≤ j ∧ j ≤ 31) → (v_w1 (v_w1 s 151 30 b) 151 31 (-1)).1 a j = s.1 a j := fun a j q => by rw [v_w1_1, if_neg (by omega), v_w1_1, if_neg (by omega)]
  have u2 : (v_w1 (v_w1 s 151 30 b) 151 31 (-1)).2 = s.2 := rfl
  generalize v_w1 (v_w1 s 151 30 b) 151 31 (-1) = u at e30 e31 uE u2 ⊢
  have e14 : u.1 151 14 = s.1 151 14 := uE _ _ (by omega)
  refine y_fsC (s0 := u) (fun w wE w2 w30 w0 => ?_) 4096 0 u (by decide) (fun _ _ _ => rfl) rfl ⟨rfl, rfl⟩ (fun k hk => absurd hk (by show ¬ (k : Int) < 0; omega))
  have f14 : w.1 151 14 = s.1 151 14 := (wE _ _ (by omega)).trans e14
  have hD : dM w = dM s := funext fun k => (wE _ _ (by omega)).trans (uE _ _ (by omega))
  have hT : stM w = stM s := funext fun k => (wE _ _ (by omega)).trans (uE _ _ (by omega))
  have h31 : (w.1 151 31).toInt = -1 := by rw [w30.2, e31]; rfl
  refine y_fsL (s0 := w) (n := (s.1 151 14).toInt.toNat) (by rw [f14]; omega) (by omega) h31 (fun k hk => by rw [hD]; exact hd k hk) (fun t d tE t2 tL => ?_) 4096 0 0 w (by decide) (by show (0 : Int) ≤ _; omega) (fun _ _ _ => rfl) rfl ⟨b_cnt0 _, fun k hk _ => w0 k (by rw [e14]; omega), fun k hk hb => (by rw [b_0] at hb; cases hb), fun k j hk hj hb _ => (by rw [b_0] at hb; cases hb)⟩
  refine v_Pret ⟨⟨fun a j q => (tE a j (by omega)).trans ((wE a j q).trans (uE a j (by omega))), t2.trans (w2.trans u2), fun m hm2 => ?_⟩, by rw [tE 151 31 (by decide)]; exact h31⟩
  obtain ⟨a1, a2, a3, a4⟩ := tL
  have h5 := a3 m hm2 (b_cnt_full _ a1 m hm2)
  have hDt : dM t = dM s := (funext fun k => tE _ _ (by decide) : dM t = dM w).trans hD
  have hTt : stM t = stM s := (funext fun k => tE _ _ (by decide) : stM t = stM w).trans hT
  rw [hDt, hTt] at h5
  have hx : (xThM w m ∧ bt (w.1 151 30) m = false) ↔ (xThM s m ∧ bt b m = false) := by
    have e1 : w.1 160 = s.1 160 := hD
    show x_th (w.1 151 14).toInt (w.1 151 19).toInt (w.1 160) m ∧ _ ↔ x_th (s.1 151 14).toInt (s.1 151 19).toInt (s.1 160) m ∧ _
    rw [f14, (wE 151 19 (by omega)).trans (uE 151 19 (by omega)), e1, w30.1, e30]
  dsimp only at h5
  rw [hx] at h5
  exact h5
theorem y_findStands (b : Int32) (s : vS) (hm : 0 ≤ (s.1 151 14).toInt ∧ (s.1 151 14).toInt ≤ 10) (hd : ∀ k, k < (s.1 151 14).toInt.toNat → 0 ≤ (dM s k).toInt ∧ (dM s k).toInt ≤ 99) : v_P (f_Md_findStands b (-1) s) (fun _ t => sr_E s t ∧ t.2 = s.2 ∧ st_F (s.1 151 14).toInt.toNat (fun m => xThM s m ∧ bt b m = false) (dM s) (stM s) (fun m => ¬ (t.1 170 m).toInt = 0)) := v_Pm2 (y_findStands3 b s hm hd) (fun _ _ h => h.1)
