/-! rings -/
theorem x_inj : ∀ (n m : Nat) (f : Nat → Nat), (∀ i, i < m → f i < n) → (∀ i j, i < j → j < m → ¬ f i = f j) → m ≤ n
  | 0, m, f, h, _ => by
    rcases Nat.eq_zero_or_pos m with h0 | h0
    · omega
    · exact absurd (h 0 h0) (Nat.not_lt_zero _)
  | n + 1, 0, _, _, _ => Nat.zero_le _
  | n + 1, m + 1, f, h, hi => by
    refine Nat.succ_le_succ (x_inj n m (fun i => if f i = n then f m else f i) (fun i him => ?_) (fun i j hij hjm => ?_))
    · have h1 := h i (by omega)
      have h2 := h m (by omega)
      have h3 := hi i m him (by omega)
      by_cases hz : f i = n
      · show (if f i = n then f m else f i) < n
        rw [if_pos hz]
        omega
      · show (if f i = n then f m else f i) < n
        rw [if_neg hz]
        omega
    · have h1 := hi i j hij (by omega)
      have h2 := hi i m (by omega) (by omega)
      have h3 := hi j m hjm (by omega)
      show ¬ (if f i = n then f m else f i) = (if f j = n then f m else f j)
      by_cases hz : f i = n
      · rw [if_pos hz, if_neg (by omega)]
        omega
      · rw [if_neg hz]
        by_cases hy : f j = n
        · rw [if_pos hy]
          omega
        · rw [if_neg hy]
          exact h1
/-- a law x is there; whom it strikes, as either side goes on -/
abbrev x_th (n T : Int) (D : Nat → Int32) (x : Int) : Prop := (0 ≤ x ∧ x < n) ∧ (D x.toNat).toInt ≤ T
def rg_c (n T : Int) (D S : Nat → Int32) (x : Int) : Int := if x_th n T D x then (S x.toNat).toInt else -1
def rg_r (n T : Int) (D S : Nat → Int32) (x : Int) : Int := if 0 ≤ x ∧ x_th n T D (S x.toNat).toInt then (S x.toNat).toInt else -1
def x_it (g : Int → Int) : Nat → Int → Int
  | 0, x => x
  | k + 1, x => x_it g k (g x)
theorem x_it_add (g : Int → Int) : ∀ (a b : Nat) (x : Int), x_it g (a + b) x = x_it g b (x_it g a x)
  | 0, b, x => by rw [Nat.zero_add]; rfl
  | a + 1, b, x => by
    rw [show a + 1 + b = (a + b) + 1 by omega]
    show x_it g (a + b) (g x) = x_it g b (x_it g a (g x))
    exact x_it_add g a b (g x)
theorem x_it_s (g : Int → Int) (k : Nat) (x : Int) : x_it g (k + 1) x = g (x_it g k x) := by rw [x_it_add g k 1 x]; rfl
theorem x_r_neg {n T : Int} {D S : Nat → Int32} {x : Int} (h : x < 0) : rg_r n T D S x = -1 := by
  unfold rg_r
  rw [if_neg (by omega)]
theorem x_rit_neg {n T : Int} {D S : Nat → Int32} : ∀ (k : Nat) (x : Int), x < 0 → x_it (rg_r n T D S) k x < 0
  | 0, x, h => h
  | k + 1, x, h => by
    show x_it (rg_r n T D S) k (rg_r n T D S x) < 0
    rw [x_r_neg h]
    exact x_rit_neg k (-1) (by decide)
/-- both go the same way as long as one is there -/
theorem x_same {n T : Int} {D S : Nat → Int32} {x : Int} (hx : x_th n T D x) : ∀ k : Nat, (x_th n T D (x_it (rg_r n T D S) k x) ∧ x_it (rg_c n T D S) k x = x_it (rg_r n T D S) k x) ∨ (x_it (rg_r n T D S) k x < 0 ∧ ¬ x_th n T D (x_it (rg_c n T D S) k x))
  | 0 => Or.inl ⟨hx, rfl⟩
  | k + 1 => by
    rw [x_it_s, x_it_s]
    rcases x_same hx k with ⟨h1, h2⟩ | ⟨h1, h2⟩
    · rw [h2]
      generalize x_it (rg_r n T D S) k x = y at h1
      have e1 : rg_c n T D S y = (S y.toNat).toInt := if_pos h1
      rw [e1]
      by_cases hz : x_th n T D (S y.toNat).toInt
      · have e2 : rg_r n T D S y = (S y.toNat).toInt := if_pos ⟨h1.1.1, hz⟩
        rw [e2]
        exact Or.inl ⟨hz, rfl⟩
      · have e2 : rg_r n T D S y = -1 := if_neg (fun q => hz q.2)
        rw [e2]
        exact Or.inr ⟨by decide, hz⟩
    · refine Or.inr ⟨by rw [x_r_neg h1]; decide, ?_⟩
      have e1 : rg_c n T D S (x_it (rg_c n T D S) k x) = -1 := if_neg h2
      rw [e1]
      intro q
      have := q.1.1
      omega
theorem x_back {n T : Int} {D S : Nat → Int32} {x : Int} (hx : x_th n T D x) (k : Nat) : x_it (rg_c n T D S) k x = x ↔ x_it (rg_r n T D S) k x = x := by
  rcases x_same (S := S) hx k with ⟨h1, h2⟩ | ⟨h1, h2⟩
  · rw [h2]
  · constructor
    · intro e
      rw [e] at h2
      exact absurd hx h2
    · intro e
      have := hx.1.1
      omega
/-- who comes back comes back within so many steps as there are laws -/
theorem x_short {n T : Int} {D S : Nat → Int32} {x : Int} (hx : x_th n T D x) : ∀ (N k : Nat), k ≤ N → 1 ≤ k → x_it (rg_r n T D S) k x = x → ∃ j : Nat, 1 ≤ j ∧ (j : Int) ≤ n ∧ x_it (rg_r n T D S) j x = x
  | 0, k, h0, h1, _ => by omega
  | N + 1, k, h0, h1, hk => by
    by_cases hm : ∃ i : Nat, 1 ≤ i ∧ i < k ∧ x_it (rg_r n T D S) i x = x
    · obtain ⟨i, i1, i2, i3⟩ := hm
      exact x_short hx N i (by omega) i1 i3
    · refine ⟨k, h1, ?_, hk⟩
      have hpos : ∀ i, i ≤ k → 0 ≤ x_it (rg_r n T D S) i x := fun i hi => by
        rcases Int.lt_or_le (x_it (rg_r n T D S) i x) 0 with q | q
        · have h2 := x_rit_neg (n := n) (T := T) (D := D) (S := S) (k - i) _ q
          rw [← x_it_add, show i + (k - i) = k by omega, hk] at h2
          have := hx.1.1
          omega
        · exact q
      have hlt : ∀ i, i < k → x_it (rg_r n T D S) i x < n := fun i hi => by
        rcases x_same (S := S) hx i with ⟨h2, -⟩ | ⟨h2, -⟩
        · exact h2.1.2
        · have := hpos i (by omega)
          omega
      have hle := x_inj n.toNat k (fun i => (x_it (rg_r n T D S) i x).toNat) (fun i hi => by
        have := hpos i (by omega)
        have := hlt i hi
        show (x_it (rg_r n T D S) i x).toNat < n.toNat
        omega) (fun i j hij hjk e => by
        have e : (x_it (rg_r n T D S) i x).toNat = (x_it (rg_r n T D S) j x).toNat := e
        have p1 := hpos i (by omega)
        have p2 := hpos j (by omega)
        have e2 : x_it (rg_r n T D S) i x = x_it (rg_r n T D S) j x := by omega
        refine hm ⟨i + (k - j), by omega, by omega, ?_⟩
        rw [x_it_add, e2, ← x_it_add, show j + (k - j) = k by omega]
        exact hk)
      have := hx.1.1
      have := hx.1.2
      omega
theorem x_ring {n T : Int} {D S : Nat → Int32} (hn : n ≤ 10) {x : Int} : (x_th n T D x ∧ ∃ j : Nat, 1 ≤ j ∧ (j : Int) ≤ n ∧ x_it (rg_c n T D S) j x = x) ↔ (x_th n T D x ∧ ∃ j : Nat, j ≤ 10 ∧ x_it (rg_r n T D S) j (rg_r n T D S x) = x) := by
  constructor
  · rintro ⟨hx, j, j1, j2, j3⟩
    refine ⟨hx, j - 1, by omega, ?_⟩
    have e : x_it (rg_r n T D S) (j - 1 + 1) x = x := by rw [show j - 1 + 1 = j by omega]; exact (x_back hx j).mp j3
    exact e
  · rintro ⟨hx, j, j1, j2⟩
    obtain ⟨i, i1, i2, i3⟩ := x_short hx (j + 1) (j + 1) (Nat.le_refl _) (by omega) j2
    exact ⟨hx, i, i1, i2, (x_back hx i).mpr i3⟩
/-- the class's side -/
theorem y_thereC (b : Int32) (s : vS) (hm : (s.1 8 1).toInt ≤ 10) : v_P (f_Ct_isThere b s) (fun r u => u = s ∧ (r = 0 ∨ r = 1) ∧ (¬ r.toInt = 0 ↔ x_th (s.1 8 1).toInt (s.1 8 3).toInt (fun k => s.1 (23 + 5 * k) 1) b.toInt)) := by
  unfold f_Ct_isThere
  rw [jz_knows, v_bi_some, v_bif]
  by_cases h1 : 0 ≤ b.toInt ∧ b.toInt < (s.1 8 1).toInt
  · rw [if_pos h1, jz_at b s ⟨h1.1, by omega⟩, v_bi_some]
    refine v_Pif (fun _ => ?_) (fun _ => v_Pnone)
    by_cases h2 : (s.1 8 3).toInt < (s.1 (23 + 5 * b.toNatClampNeg) 1).toInt
    · rw [if_pos h2]
      refine v_Pret ⟨rfl, Or.inl rfl, fun q => absurd rfl q, fun q => ?_⟩
      have q2 : (s.1 (23 + 5 * b.toInt.toNat) 1).toInt ≤ (s.1 8 3).toInt := q.2
      rw [v_nc] at h2
      omega
    · rw [if_neg h2]
      refine v_Pret ⟨rfl, Or.inr rfl, fun _ => ⟨h1, ?_⟩, fun _ => by decide⟩
      show (s.1 (23 + 5 * b.toInt.toNat) 1).toInt ≤ (s.1 8 3).toInt
      rw [v_nc] at h2
      omega
  · rw [if_neg h1]
    exact v_Pret ⟨rfl, Or.inl rfl, fun q => absurd rfl q, fun q => absurd q.1 h1⟩
abbrev xC (s : vS) : Int → Int := rg_c (s.1 8 1).toInt (s.1 8 3).toInt (fun k => s.1 (23 + 5 * k) 1) (fun k => s.1 (23 + 5 * k) 3)
abbrev xTh (s : vS) : Int → Prop := x_th (s.1 8 1).toInt (s.1 8 3).toInt (fun k => s.1 (23 + 5 * k) 1)
theorem y_cbL {s : vS} (hm : (s.1 8 1).toInt ≤ 10) {p : Int32} (hp : 0 ≤ p.toInt) : ∀ (n : Nat) (v w : Int32) (m : Nat), w.toInt + m = (s.1 8 1).toInt → v_P (f_Ct_comesBack_L4 p (fun s1 => some (0, s1)) n v w s) (fun r u => u = s ∧ (¬ r.toInt = 0 ↔ (xTh s p.toInt ∧ ∃ j : Nat, 1 ≤ j ∧ j ≤ m ∧ x_it (xC s) j v.toInt = p.toInt)))
  | 0, _, _, _, _ => v_Pnone
  | n + 1, v, w, m, hw => by
    show v_P (f_Ct_comesBack_L4b p (fun s1 => some (0, s1)) (f_Ct_comesBack_L4 p (fun s1 => some (0, s1)) n) v w s) _
    unfold f_Ct_comesBack_L4b
    by_cases hc : (s.1 8 1).toInt ≤ w.toInt
    · rw [if_pos hc]
      exact v_Pret ⟨rfl, fun q => absurd rfl q, fun q => by obtain ⟨_, j, j1, j2, _⟩ := q; omega⟩
    · rw [if_neg hc]
      obtain ⟨m, rfl⟩ : ∃ q, m = q + 1 := ⟨m - 1, by omega⟩
      have ew := v_inc (x := w) (by omega)
      have hend : ∀ x : Int, xC s v.toInt = x → x = p.toInt → v_P (v_bi (f_Ct_isThere p s) (fun r105 s105 => (if r105 = 0 ∨ r105 = 1 then some (r105, s105) else none))) (fun r u => u = s ∧ (¬ r.toInt = 0 ↔ (xTh s p.toInt ∧ ∃ j : Nat, 1 ≤ j ∧ j ≤ m + 1 ∧ x_it (xC s) j v.toInt = p.toInt))) := fun x e1 e2 => by
        refine v_Pbi (y_thereC p s hm) ?_
        rintro r u ⟨rfl, hr, hr2⟩
        rw [if_pos hr]
        refine v_Pret ⟨rfl, fun q => ⟨hr2.mp q, 1, by decide, by omega, ?_⟩, fun q => hr2.mpr q.1⟩
        show xC u v.toInt = p.toInt
        rw [e1, e2]
      have hgo : ∀ y : Int32, xC s v.toInt = y.toInt → ¬ y.toInt = p.toInt → v_P (f_Ct_comesBack_L4 p (fun s1 => some (0, s1)) n y (w + 1) s) (fun r u => u = s ∧ (¬ r.toInt = 0 ↔ (xTh s p.toInt ∧ ∃ j : Nat, 1 ≤ j ∧ j ≤ m + 1 ∧ x_it (xC s) j v.toInt = p.toInt))) := fun y e1 e2 => by
        refine v_Pm2 (y_cbL hm hp n y (w + 1) m (by omega)) ?_
        rintro r u ⟨rfl, h2⟩
        refine ⟨rfl, h2.trans ⟨fun q => ?_, fun q => ?_⟩⟩
        · obtain ⟨q1, j, j1, j2, j3⟩ := q
          refine ⟨q1, j + 1, by omega, by omega, ?_⟩
          show x_it (xC u) j (xC u v.toInt) = p.toInt
          rw [e1]
          exact j3
        · obtain ⟨q1, j, j1, j2, j3⟩ := q
          obtain ⟨j, rfl⟩ : ∃ i, j = i + 1 := ⟨j - 1, by omega⟩
          have j3 : x_it (xC u) j (xC u v.toInt) = p.toInt := j3
          rw [e1] at j3
          rcases Nat.eq_zero_or_pos j with hj | hj
          · subst hj
            exact absurd j3 e2
          · exact ⟨q1, j, hj, by omega, j3⟩
      refine v_Pbi (y_thereC v s hm) ?_
      rintro r u ⟨rfl, hr, hr2⟩
      by_cases hz : r.toInt = 0
      · have e1 : xC u v.toInt = -1 := if_neg (fun q => absurd hz (hr2.mpr q))
        rw [if_pos hz, if_neg (by omega)]
        exact hgo (-1) e1 (by show ¬ (-1 : Int) = p.toInt; omega)
      · have hth := hr2.mp hz
        have e1 : xC u v.toInt = (u.1 (23 + 5 * v.toInt.toNat) 3).toInt := if_pos hth
        rw [if_neg hz, jz_at v u ⟨hth.1.1, by have := hth.1.2; omega⟩, v_bi_some]
        refine v_Pif (fun _ => ?_) (fun _ => v_Pnone)
        rw [v_nc]
        by_cases hy : (u.1 (23 + 5 * v.toInt.toNat) 3).toInt = p.toInt
        · rw [if_pos hy]
          exact hend _ e1 hy
        · rw [if_neg hy]
          exact hgo _ e1 hy
/-- the reference's side -/
abbrev xR (t : vS) : Int → Int := rg_r (t.1 151 14).toInt (t.1 151 19).toInt (t.1 160) (t.1 162)
abbrev xThM (t : vS) : Int → Prop := x_th (t.1 151 14).toInt (t.1 151 19).toInt (t.1 160)
theorem y_thereM (b : Int32) (t : vS) (hb : 0 ≤ b.toInt ∧ b.toInt < (t.1 151 14).toInt) : v_P (f_Md_isThere b t) (fun r u => u = t ∧ (¬ r.toInt = 0 ↔ xThM t b.toInt)) := by
  unfold f_Md_isThere
  refine v_Pif (fun _ => ?_) (fun _ => v_Pnone)
  rw [v_nc]
  by_cases h2 : (t.1 151 19).toInt < (t.1 160 b.toInt.toNat).toInt
  · rw [if_pos h2]
    exact v_Pret ⟨rfl, fun q => absurd rfl q, fun q => by have := q.2; omega⟩
  · rw [if_neg h2]
    exact v_Pret ⟨rfl, fun _ => ⟨hb, by omega⟩, fun _ => by decide⟩
theorem y_struck (b : Int32) (t : vS) (hb : 0 ≤ b.toInt) (hm : 0 ≤ (t.1 151 14).toInt) : v_P (f_Md_struckBy b t) (fun r u => u = t ∧ r.toInt = xR t b.toInt) := by
  unfold f_Md_struckBy
  rw [v_nc]
  refine v_Pif (fun _ => ?_) (fun _ => v_Pnone)
  rw [jz_isLaw _ t hm, v_bi_some, v_bif]
  by_cases h1 : 0 ≤ (t.1 162 b.toInt.toNat).toInt ∧ (t.1 162 b.toInt.toNat).toInt < (t.1 151 14).toInt
  · rw [if_pos h1]
    refine v_Pif (fun _ => ?_) (fun _ => v_Pnone)
    refine v_Pbi (y_thereM _ t h1) ?_
    rintro r u ⟨rfl, hr⟩
    by_cases hz : r.toInt = 0
    · rw [if_pos hz]
      refine v_Pret ⟨rfl, ?_⟩
      exact (show xR u b.toInt = -1 from if_neg (fun q => absurd hz (hr.mpr q.2))).symm
    · rw [if_neg hz]
      refine v_Pif (fun _ => v_Pret ⟨rfl, ?_⟩) (fun _ => v_Pnone)
      exact (show xR u b.toInt = (u.1 162 b.toInt.toNat).toInt from if_pos ⟨hb, hr.mp hz⟩).symm
  · rw [if_neg h1]
    refine v_Pret ⟨rfl, ?_⟩
    exact (show xR t b.toInt = -1 from if_neg (fun q => h1 q.2.1)).symm
theorem y_rgL {t : vS} (hm : 0 ≤ (t.1 151 14).toInt) {p1 p : Int32} (hp : 0 ≤ p.toInt) {k : Int32 → vS → Option (Int32 × vS)} {Q : Int32 → vS → Prop} {X : Prop} (hk : ∀ w : Int32, (w.toInt = p.toInt ↔ X) → v_P (k w t) Q) : ∀ (n : Nat) (v w : Int32) (m : Nat), w.toInt + m = 10 → (X ↔ ∃ j : Nat, j ≤ m ∧ x_it (xR t) j v.toInt = p.toInt) → v_P (f_Md_rings_L32 p1 p k n v w t) Q
  | 0, _, _, _, _, _ => v_Pnone
  | n + 1, v, w, m, hw, hX => by
    show v_P (f_Md_rings_L32b p1 p k (f_Md_rings_L32 p1 p k n) v w t) _
    unfold f_Md_rings_L32b
    by_cases hc : 10 ≤ w.toInt
    · rw [if_pos hc]
      refine hk v ⟨fun q => hX.mpr ⟨0, Nat.zero_le _, q⟩, fun q => ?_⟩
      obtain ⟨j, j1, j2⟩ := hX.mp q
      have hj : j = 0 := by omega
      rw [hj] at j2
      exact j2
    · rw [if_neg hc]
      by_cases hv : v.toInt < 0
      · rw [if_pos hv]
        refine hk v ⟨fun q => by omega, fun q => ?_⟩
        obtain ⟨j, j1, j2⟩ := hX.mp q
        have h9 : x_it (xR t) j v.toInt < 0 := x_rit_neg j v.toInt hv
        omega
      · rw [if_neg hv]
        by_cases hz : v.toInt = p.toInt
        · rw [if_pos hz]
          exact hk v ⟨fun _ => hX.mpr ⟨0, Nat.zero_le _, hz⟩, fun _ => hz⟩
        · rw [if_neg hz]
          obtain ⟨m, rfl⟩ : ∃ q, m = q + 1 := ⟨m - 1, by omega⟩
          have ew := v_inc (x := w) (by omega)
          refine v_Pbi (y_struck v t (by omega) hm) ?_
          rintro r u ⟨rfl, hr⟩
          refine y_rgL hm hp hk n r (w + 1) m (by omega) (hX.trans ⟨fun q => ?_, fun q => ?_⟩)
          · obtain ⟨j, j1, j2⟩ := q
            rcases Nat.eq_zero_or_pos j with hj | hj
            · subst hj
              exact absurd j2 hz
            · obtain ⟨j, rfl⟩ : ∃ i, j = i + 1 := ⟨j - 1, by omega⟩
              refine ⟨j, by omega, ?_⟩
              rw [hr]
              exact j2
          · obtain ⟨j, j1, j2⟩ := q
            refine ⟨j + 1, by omega, ?_⟩
            rw [hr] at j2
            exact j2
/-- both, law by law -/
theorem x_eqN {n T : Int} {D D2 S S2 : Nat → Int32} (h : ∀ k : Nat, (k : Int) < n → D k = D2 k ∧ S k = S2 k) (x : Int) : (x_th n T D x ↔ x_th n T D2 x) ∧ rg_c n T D S x = rg_c n T D2 S2 x := by
  by_cases hx : 0 ≤ x ∧ x < n
  · obtain ⟨e1, e2⟩ := h x.toNat (by omega)
    have e : x_th n T D x ↔ x_th n T D2 x := by unfold x_th; rw [e1]
    refine ⟨e, ?_⟩
    unfold rg_c
    by_cases hz : x_th n T D x
    · rw [if_pos hz, if_pos (e.mp hz), e2]
    · rw [if_neg hz, if_neg (fun q => hz (e.mpr q))]
  · refine ⟨⟨fun q => absurd q.1 hx, fun q => absurd q.1 hx⟩, ?_⟩
    unfold rg_c
    rw [if_neg (fun q => hx q.1), if_neg (fun q => hx q.1)]
theorem x_eqIt {g h : Int → Int} (e : ∀ x, g x = h x) : ∀ (k : Nat) (x : Int), x_it g k x = x_it h k x
  | 0, _ => rfl
  | k + 1, x => by
    show x_it g k (g x) = x_it h k (h x)
    rw [e x]
    exact x_eqIt e k (h x)
theorem j_ringsL {s t : vS} (h : j_R s t) (hm : 0 ≤ (t.1 151 14).toInt ∧ (t.1 151 14).toInt ≤ 10) : ∀ (n1 n2 : Nat) (v w : Int32), 0 ≤ w.toInt → ∀ r1 s1 r2 t1, f_Ol_rings_L4 (fun w1 s2 => some (w1, s2)) n1 v w s = some (r1, s1) → f_Md_rings_L4 (fun w1 s2 => some (w1, s2)) n2 v w t = some (r2, t1) → r1 = r2
  | 0, _, _, _, _ => fun _ _ _ _ e _ => by cases e
  | _ + 1, 0, _, _, _ => fun _ _ _ _ _ e => by cases e
  | n1 + 1, n2 + 1, v, w, hw => by
    intro r1 s1 r2 t1 e1 e2
    have em : s.1 8 1 = t.1 151 14 := h.1
    replace e1 : f_Ol_rings_L4b (fun w1 s2 => some (w1, s2)) (f_Ol_rings_L4 (fun w1 s2 => some (w1, s2)) n1) v w s = some (r1, s1) := e1
    replace e2 : f_Md_rings_L4b (fun w1 s2 => some (w1, s2)) (f_Md_rings_L4 (fun w1 s2 => some (w1, s2)) n2) v w t = some (r2, t1) := e2
    unfold f_Ol_rings_L4b at e1
    unfold f_Md_rings_L4b at e2
    rw [em] at e1
    by_cases hc : (t.1 151 14).toInt ≤ w.toInt
    · rw [if_pos hc] at e1 e2
      obtain ⟨rfl, rfl⟩ := v_so e1
      obtain ⟨rfl, rfl⟩ := v_so e2
      rfl
    · rw [if_neg hc] at e1 e2
      have ew := v_inc (x := w) (by omega)
      have hD : ∀ k : Nat, (k : Int) < (t.1 151 14).toInt → s.1 (23 + 5 * k) 1 = t.1 160 k ∧ s.1 (23 + 5 * k) 3 = t.1 162 k := fun k hk => by
        have h3 := h.2.2.2.1 k (by rw [em]; exact hk) (by omega)
        exact ⟨h3.1, h3.2.2⟩
      have e19 : s.1 8 3 = t.1 151 19 := h.2.2.2.2.1.2
      have hxc : ∀ x, xC s x = rg_c (t.1 151 14).toInt (t.1 151 19).toInt (t.1 160) (t.1 162) x := fun x => by
        show rg_c (s.1 8 1).toInt (s.1 8 3).toInt _ _ x = _
        rw [em, e19]
        exact (x_eqN hD x).2
      have hxt : xTh s w.toInt ↔ xThM t w.toInt := by
        show x_th (s.1 8 1).toInt (s.1 8 3).toInt _ _ ↔ _
        rw [em, e19]
        exact (x_eqN hD w.toInt).1
      have hmain : (xTh s w.toInt ∧ ∃ j : Nat, 1 ≤ j ∧ j ≤ (s.1 8 1).toInt.toNat ∧ x_it (xC s) j w.toInt = w.toInt) ↔ (xThM t w.toInt ∧ ∃ j : Nat, j ≤ 10 ∧ x_it (xR t) j (xR t w.toInt) = w.toInt) := by
        rw [hxt, em]
        have h4 := x_ring (n := (t.1 151 14).toInt) (T := (t.1 151 19).toInt) (D := t.1 160) (S := t.1 162) hm.2 (x := w.toInt)
        refine Iff.trans ⟨fun q => ?_, fun q => ?_⟩ h4
        · obtain ⟨q1, j, j1, j2, j3⟩ := q
          exact ⟨q1, j, j1, by omega, by rw [← x_eqIt hxc]; exact j3⟩
        · obtain ⟨q1, j, j1, j2, j3⟩ := q
          exact ⟨q1, j, j1, by omega, by rw [x_eqIt hxc]; exact j3⟩
      obtain ⟨x1, u1, a1, a2⟩ := v_bd e1
      obtain ⟨x2, u2, b1, b2⟩ := v_bd e2
      have hC : v_P (f_Ct_comesBack w s) (fun r u => u = s ∧ (¬ r.toInt = 0 ↔ (xTh s w.toInt ∧ ∃ j : Nat, 1 ≤ j ∧ j ≤ (s.1 8 1).toInt.toNat ∧ x_it (xC s) j w.toInt = w.toInt))) := by
        unfold f_Ct_comesBack
        exact y_cbL (by rw [em]; exact hm.2) hw 4096 w 0 _ (by show (0 : Int) + _ = _; rw [em]; omega)
      obtain ⟨rfl, hC⟩ := hC x1 u1 a1
      obtain ⟨rfl, hM⟩ := y_thereM w t ⟨hw, by omega⟩ x2 u2 b1
      by_cases hz : x2.toInt = 0
      · rw [if_pos hz] at b2
        have hx1 : x1.toInt = 0 := by
          by_cases hq : x1.toInt = 0
          · exact hq
          · exact absurd hz (hM.mpr (hmain.mp (hC.mp hq)).1)
        rw [if_pos hx1] at a2
        exact j_ringsL h hm n1 n2 v (w + 1) (by omega) r1 s1 r2 t1 a2 b2
      · rw [if_neg hz] at b2
        have hth := hM.mp hz
        have hgo : v_P (v_bi (f_Md_struckBy w u2) (fun r104 s104 => (f_Md_rings_L32 v w (fun w105 s106 => (if w105.toInt = w.toInt then (f_Md_rings_L4 (fun w1 s2 => some (w1, s2)) n2 (v ||| ((1 : Int32) <<< (w &&& 31))) (w + 1) s106) else (f_Md_rings_L4 (fun w1 s2 => some (w1, s2)) n2 v (w + 1) s106))) 4096 r104 0 s104))) (fun r2 t1 => f_Md_rings_L4 (fun w1 s2 => some (w1, s2)) n2 (if x1.toInt = 0 then v else v ||| ((1 : Int32) <<< (w &&& 31))) (w + 1) u2 = some (r2, t1)) := by
          refine v_Pbi (y_struck w u2 hw hm.1) ?_
          rintro r u ⟨rfl, hr⟩
          refine y_rgL hm.1 hw (X := ∃ j : Nat, j ≤ 10 ∧ x_it (xR u) j r.toInt = w.toInt) (fun y hy => ?_) 4096 r 0 10 (by decide) Iff.rfl
          by_cases hq : y.toInt = w.toInt
          · rw [if_pos hq]
            have hx1 : ¬ x1.toInt = 0 := hC.mpr (hmain.mpr ⟨hth, by rw [hr] at hy; exact hy.mp hq⟩)
            rw [if_neg hx1]
            exact fun _ _ e => e
          · rw [if_neg hq]
            have hx1 : x1.toInt = 0 := by
              by_cases hq2 : x1.toInt = 0
              · exact hq2
              · exact absurd (hy.mpr (by rw [hr]; exact (hmain.mp (hC.mp hq2)).2)) hq
            rw [if_pos hx1]
            exact fun _ _ e => e
        have b3 := hgo r2 t1 b2
        by_cases hx1 : x1.toInt = 0
        · rw [if_pos hx1] at a2 b3
          exact j_ringsL h hm n1 n2 v (w + 1) (by omega) r1 s1 r2 t1 a2 b3
        · rw [if_neg hx1] at a2 b3
          exact j_ringsL h hm n1 n2 _ (w + 1) (by omega) r1 s1 r2 t1 a2 b3
theorem jr_rings {s t : vS} (h : j_R s t) (hR : v_RI t) (hK : v_KQ s) : j_S (f_Ol_rings s) (f_Md_rings t) := fun r1 s1 r2 t1 e1 e2 => by
  refine ⟨j_S0q h (jq_n (n_rings s hK)) (jm_q (m_rings t hR.1)) r1 s1 r2 t1 e1 e2, ?_⟩
  unfold f_Ol_rings at e1
  unfold f_Md_rings at e2
  exact j_ringsL h hR.1.1 4096 4096 0 0 (by decide) r1 s1 r2 t1 e1 e2
