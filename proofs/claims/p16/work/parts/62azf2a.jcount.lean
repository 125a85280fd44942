/-! count -/
theorem y_hear0L {s0 : vS} (h0 : v_KQ s0) {K : vS → Option (Unit × vS)} {Q : Unit → vS → Prop} (hK : ∀ t, v_fr s0 t → v_P (K t) Q) : ∀ (n : Nat) (v : Int32) (s : vS), v_fr s0 s → v_P (f_Ct_hear_L2 K n v s) Q
  | 0, _, _, _ => v_Pnone
  | n + 1, v, s, hf => by
    show v_P (f_Ct_hear_L2b K (f_Ct_hear_L2 K n) v s) Q
    unfold f_Ct_hear_L2b
    refine v_Pif (fun _ => hK s hf) (fun _ => ?_)
    refine v_Pbi (v_PT (n_at _ _)) ?_
    rintro r u ⟨rfl, h4⟩
    refine v_Pif (fun _ => ?_) (fun _ => v_Pnone)
    exact v_Pbi (v_PT (q_Lhear r h4.1 _ _ (v_KQ_fr h0 hf))) (fun _ t ht => y_hear0L h0 hK n _ t (v_fr_tr hf ht))
theorem j_num_fr {s t : vS} (h : j_num s) (hf : v_fr s t) : j_num t := fun k hk => by rw [(hf _ _ (by unfold v_sc; omega)).1]; exact h k hk
theorem dC_fr {s t : vS} (hf : v_fr s t) : ∀ k, k < 10 → dC t k = dC s k := fun k hk => (hf _ _ (by unfold v_sc; omega)).1
/-- who stands speaks of the first n laws alone -/
theorem st_F_eq {n : Nat} {th th2 : Nat → Prop} {D D2 S S2 : Nat → Int32} {A : Nat → Prop} (h : st_F n th D S A) (h1 : ∀ m, m < n → (th m ↔ th2 m)) (h2 : ∀ k, k < n → D k = D2 k ∧ S k = S2 k) : st_F n th2 D2 S2 A := fun m hm => by
  rw [h m hm, h1 m hm]
  have e : ∀ j, j < n → (ol D j m ↔ ol D2 j m) := fun j hj => by unfold ol; rw [(h2 j hj).1, (h2 m hm).1]
  constructor
  · rintro ⟨q1, q2⟩
    exact ⟨q1, fun ⟨j, j1, j2, j3, j4⟩ => q2 ⟨j, j1, (e j j1).mpr j2, j3, by rw [(h2 j j1).2]; exact j4⟩⟩
  · rintro ⟨q1, q2⟩
    exact ⟨q1, fun ⟨j, j1, j2, j3, j4⟩ => q2 ⟨j, j1, (e j j1).mp j2, j3, by rw [← (h2 j j1).2]; exact j4⟩⟩
/-- after the class has heard: who stands, as bits -/
theorem y_hearS (s : vS) (h0 : v_KQ s) (hn : j_num s) (hr : j_ran s) : v_P (f_Ct_hear s) (fun _ t => v_fr s t ∧ st_F (s.1 8 1).toInt.toNat (fun m => xTh s m) (dC s) (stK s) (fun m => bt (t.1 8 4) m = true) ∧ ∀ m, m < 32 → bt (t.1 8 4) m = true → m < (s.1 8 1).toInt.toNat) := by
  have hm := h0.1
  unfold f_Ct_hear
  refine y_hear0L h0 (fun u hu => ?_) 4096 0 s v_fr_rf
  have e8 : u.1 8 1 = s.1 8 1 := (hu 8 1 (by unfold v_sc; omega)).1
  have e83 : u.1 8 3 = s.1 8 3 := (hu 8 3 (by unfold v_sc; omega)).1
  refine v_Pbi (v_PT (v_TP (q_sort u (v_KQ_fr h0 hu)) (y_sort u (j_num_fr hn hu) (by rw [e8]; exact hm)))) ?_
  rintro _ w ⟨w1, wE, wS⟩
  have hw := v_fr_tr hu w1
  have f8 : w.1 8 1 = s.1 8 1 := (hw 8 1 (by unfold v_sc; omega)).1
  have f83 : w.1 8 3 = s.1 8 3 := (hw 8 3 (by unfold v_sc; omega)).1
  have hD : dC u = dC w := funext fun k => (wE _ _ (by omega)).symm
  have hst : ∀ k, k < (s.1 8 1).toInt.toNat → stK w k = stK s k ∧ dC w k = dC s k := fun k hk => ⟨(hw _ _ (by unfold v_sc; omega)).1, (hw _ _ (by unfold v_sc; omega)).1⟩
  rw [e8, hD, ← f8] at wS
  refine v_Pbi (v_PT (v_TP (q_stand 0 w (v_KQ_fr h0 hw)) (y_standW 0 w (by rw [f8]; exact hm) wS (fun k hk => ?_)))) ?_
  · rw [f8] at hk
    rw [(hst k hk).1]
    exact (hr.1 k (by omega) (by omega)).2.2.2.2.1 rfl
  · rintro _ t ⟨t1, -, -, tF, tB⟩
    rw [f8] at tF tB
    refine v_Pret ⟨v_fr_tr hw t1, st_F_eq tF (fun m hm2 => ?_) (fun k hk => ⟨(hst k hk).2, (hst k hk).1⟩), tB⟩
    unfold st_T
    rw [b_0]
    have e1 : xTh w m ↔ xTh s m := by
      show x_th (w.1 8 1).toInt (w.1 8 3).toInt (dC w) m ↔ x_th (s.1 8 1).toInt (s.1 8 3).toInt (dC s) m
      unfold x_th
      rw [f8, f83, show ((m : Int)).toNat = m by omega, (hst m hm2).2]
    rw [e1]
    exact ⟨fun q => q.1, fun q => ⟨q, rfl⟩⟩
/-- counting bits -/
noncomputable def pcV (b : Int32) : Int32 := match f_In_bitCount b v_s0 with
  | some (r, _) => r
  | none => 0
theorem pc_eq (b : Int32) (s : vS) : f_In_bitCount b s = some (pcV b, s) := rfl
set_option maxRecDepth 100000 in
theorem pc_0 : (List.range 10).all (fun w => (List.range (2 ^ w)).all (fun j => decide (pcV (Int32.ofNat j ||| ((1 : Int32) <<< (Int32.ofNat w &&& 31))) = pcV (Int32.ofNat j) + 1) && decide ((Int32.ofNat j ||| ((1 : Int32) <<< (Int32.ofNat w &&& 31))).toInt = j + 2 ^ w))) = true := by decide +kernel
theorem pc_set {x : Int32} {w : Nat} (hw : w < 10) (h0 : 0 ≤ x.toInt) (h : x.toInt < (2 ^ w : Nat)) : pcV (x ||| ((1 : Int32) <<< (Int32.ofNat w &&& 31))) = pcV x + 1 ∧ 0 ≤ (x ||| ((1 : Int32) <<< (Int32.ofNat w &&& 31))).toInt ∧ (x ||| ((1 : Int32) <<< (Int32.ofNat w &&& 31))).toInt < (2 ^ (w + 1) : Nat) := by
  have h1 := List.all_eq_true.mp (List.all_eq_true.mp pc_0 w (List.mem_range.mpr hw)) x.toInt.toNat (List.mem_range.mpr (by omega))
  rw [Bool.and_eq_true, decide_eq_true_eq, decide_eq_true_eq, ← v_of h0] at h1
  refine ⟨h1.1, ?_⟩
  rw [h1.2]
  have h2 : 2 ^ (w + 1) = 2 ^ w * 2 := Nat.pow_succ 2 w
  have h3 : ((2 : Int) ^ w) = ((2 ^ w : Nat) : Int) := by simp
  rw [h3]
  omega
theorem pc_w {w : Nat} {x : Int32} (h : x.toInt < (2 ^ w : Nat)) : x.toInt < (2 ^ (w + 1) : Nat) := by
  have h2 : 2 ^ (w + 1) = 2 ^ w * 2 := Nat.pow_succ 2 w
  omega
/-- there() on the one side, thereMany() on the other -/
theorem j_tmL {s t : vS} (h : j_R s t) (hm : 0 ≤ (t.1 151 14).toInt ∧ (t.1 151 14).toInt ≤ 10) : ∀ (n1 n2 : Nat) (u v w : Int32), 0 ≤ w.toInt → w.toInt ≤ (t.1 151 14).toInt → (0 ≤ u.toInt ∧ u.toInt < (2 ^ w.toInt.toNat : Nat)) → pcV u = v → ∀ r1 s1 r2 t1, f_Ct_there_L4 (fun w1 s2 => some (w1, s2)) n1 u w s = some (r1, s1) → f_Md_thereMany_L4 (fun w1 s2 => some (w1, s2)) n2 v w t = some (r2, t1) → pcV r1 = r2
  | 0, _, _, _, _, _, _, _, _ => fun _ _ _ _ e _ => by cases e
  | _ + 1, 0, _, _, _, _, _, _, _ => fun _ _ _ _ _ e => by cases e
  | n1 + 1, n2 + 1, u, v, w, hw, hwm, hu, hv => by
    intro r1 s1 r2 t1 e1 e2
    have em : s.1 8 1 = t.1 151 14 := h.1
    replace e1 : f_Ct_there_L4b (fun w1 s2 => some (w1, s2)) (f_Ct_there_L4 (fun w1 s2 => some (w1, s2)) n1) u w s = some (r1, s1) := e1
    replace e2 : f_Md_thereMany_L4b (fun w1 s2 => some (w1, s2)) (f_Md_thereMany_L4 (fun w1 s2 => some (w1, s2)) n2) v w t = some (r2, t1) := e2
    unfold f_Ct_there_L4b at e1
    unfold f_Md_thereMany_L4b at e2
    rw [em] at e1
    by_cases hc : (t.1 151 14).toInt ≤ w.toInt
    · rw [if_pos hc] at e1 e2
      obtain ⟨rfl, rfl⟩ := v_so e1
      obtain ⟨rfl, rfl⟩ := v_so e2
      exact hv
    · rw [if_neg hc] at e1 e2
      have ei := v_inc (x := w) (by omega)
      have en : (w + 1).toInt.toNat = w.toInt.toNat + 1 := by omega
      obtain ⟨x1, u1, a1, a2⟩ := v_bd e1
      obtain ⟨x2, u2, b1, b2⟩ := v_bd e2
      obtain ⟨rfl, -, hC⟩ := y_thereC w s (by rw [em]; exact hm.2) x1 u1 a1
      obtain ⟨rfl, hM⟩ := y_thereM w t ⟨hw, by omega⟩ x2 u2 b1
      have hD : ∀ k : Nat, (k : Int) < (u2.1 151 14).toInt → u1.1 (23 + 5 * k) 1 = u2.1 160 k ∧ u1.1 (23 + 5 * k) 3 = u2.1 162 k := fun k hk => by
        have h3 := h.2.2.2.1 k (by rw [em]; exact hk) (by omega)
        exact ⟨h3.1, h3.2.2⟩
      have e19 : u1.1 8 3 = u2.1 151 19 := h.2.2.2.2.1.2
      have hxt : xTh u1 w.toInt ↔ xThM u2 w.toInt := by
        show x_th (u1.1 8 1).toInt (u1.1 8 3).toInt _ _ ↔ _
        rw [em, e19]
        exact (x_eqN hD w.toInt).1
      by_cases hz : x2.toInt = 0
      · have hx1 : x1.toInt = 0 := by
          by_cases hq : x1.toInt = 0
          · exact hq
          · exact absurd hz (hM.mpr (hxt.mp (hC.mp hq)))
        rw [if_pos hx1] at a2
        rw [if_pos hz] at b2
        exact j_tmL h hm n1 n2 u v (w + 1) (by omega) (by omega) ⟨hu.1, by rw [en]; exact pc_w hu.2⟩ hv r1 s1 r2 t1 a2 b2
      · have hx1 : ¬ x1.toInt = 0 := hC.mpr (hxt.mpr (hM.mp hz))
        rw [if_neg hx1] at a2
        rw [if_neg hz] at b2
        have hp := pc_set (x := u) (w := w.toInt.toNat) (by omega) hu.1 hu.2
        rw [← v_of hw] at hp
        exact j_tmL h hm n1 n2 _ _ (w + 1) (by omega) (by omega) ⟨hp.2.1, by rw [en]; exact hp.2.2⟩ (by rw [hp.1, hv]) r1 s1 r2 t1 a2 b2
/-- those that stand, counted -/
theorem y_stL {t : vS} {x : Int32} (hm : 0 ≤ (t.1 151 14).toInt ∧ (t.1 151 14).toInt ≤ 10) (hx : ∀ m : Nat, (m : Int) < (t.1 151 14).toInt → (bt x m = true ↔ ¬ (t.1 170 m).toInt = 0)) : ∀ (n : Nat) (u v w : Int32), 0 ≤ w.toInt → w.toInt ≤ (t.1 151 14).toInt → (0 ≤ u.toInt ∧ u.toInt < (2 ^ w.toInt.toNat : Nat)) → pcV u = v → (∀ m, m < 32 → (bt u m = true ↔ (m < w.toInt.toNat ∧ bt x m = true))) → v_P (f_Md_standing_L4 (fun w1 s2 => some (w1, s2)) n v w t) (fun r t1 => t1 = t ∧ ∃ y, pcV y = r ∧ ∀ m, m < 32 → (bt y m = true ↔ (m < (t.1 151 14).toInt.toNat ∧ bt x m = true)))
  | 0, _, _, _, _, _, _, _, _ => v_Pnone
  | n + 1, u, v, w, hw, hwm, hu, hv, hb => by
    show v_P (f_Md_standing_L4b (fun w1 s2 => some (w1, s2)) (f_Md_standing_L4 (fun w1 s2 => some (w1, s2)) n) v w t) _
    unfold f_Md_standing_L4b
    by_cases hc : (t.1 151 14).toInt ≤ w.toInt
    · rw [if_pos hc]
      exact v_Pret ⟨rfl, u, hv, by rw [show (t.1 151 14).toInt = w.toInt by omega]; exact hb⟩
    · rw [if_neg hc]
      have ei := v_inc (x := w) (by omega)
      have en : (w + 1).toInt.toNat = w.toInt.toNat + 1 := by omega
      have h1 := hx w.toInt.toNat (by omega)
      rw [v_nc]
      refine v_Pif (fun _ => ?_) (fun _ => v_Pnone)
      by_cases hz : (t.1 170 w.toInt.toNat).toInt = 0
      · rw [if_pos hz]
        refine y_stL hm hx n u v (w + 1) (by omega) (by omega) ⟨hu.1, by rw [en]; exact pc_w hu.2⟩ hv (fun m hm2 => ?_)
        rw [hb m hm2, en]
        constructor
        · rintro ⟨q1, q2⟩
          exact ⟨by omega, q2⟩
        · rintro ⟨q1, q2⟩
          by_cases hq : m = w.toInt.toNat
          · rw [hq] at q2; exact absurd hz (h1.mp q2)
          · exact ⟨by omega, q2⟩
      · rw [if_neg hz]
        have hp := pc_set (x := u) (w := w.toInt.toNat) (by omega) hu.1 hu.2
        refine y_stL hm hx n (u ||| ((1 : Int32) <<< (Int32.ofNat w.toInt.toNat &&& 31))) (v + 1) (w + 1) (by omega) (by omega) ⟨hp.2.1, by rw [en]; exact hp.2.2⟩ (by rw [hp.1, hv]) (fun m hm2 => ?_)
        rw [b_set (by omega) hm2, Bool.or_eq_true, decide_eq_true_eq, hb m hm2, en]
        constructor
        · rintro (q | q)
          · exact ⟨by omega, q.2⟩
          · rw [q]; exact ⟨by omega, h1.mpr hz⟩
        · rintro ⟨q1, q2⟩
          by_cases hq : m = w.toInt.toNat
          · exact Or.inr hq
          · exact Or.inl ⟨by omega, q2⟩
/-- both find the same ones standing -/
theorem j_stEq {s t u w : vS} (h : j_R s t) (hR : v_RI t) (hC : st_F (s.1 8 1).toInt.toNat (fun m => xTh s m) (dC s) (stK s) (fun m => bt (u.1 8 4) m = true)) (hM : st_F (t.1 151 14).toInt.toNat (fun m => xThM t m ∧ bt 0 m = false) (dM t) (stM t) (fun m => ¬ (w.1 170 m).toInt = 0)) : ∀ m : Nat, (m : Int) < (t.1 151 14).toInt → (bt (u.1 8 4) m = true ↔ ¬ (w.1 170 m).toInt = 0) := fun m hm => by
  have hm10 := hR.1.1
  have em : s.1 8 1 = t.1 151 14 := h.1
  have e19 : s.1 8 3 = t.1 151 19 := h.2.2.2.2.1.2
  have hD : ∀ k : Nat, (k : Int) < (t.1 151 14).toInt → s.1 (23 + 5 * k) 1 = t.1 160 k ∧ s.1 (23 + 5 * k) 3 = t.1 162 k := fun k hk => by
    have h3 := h.2.2.2.1 k (by rw [em]; exact hk) (by omega)
    exact ⟨h3.1, h3.2.2⟩
  rw [em] at hC
  have hC2 := st_F_eq hC (th2 := fun m => xThM t m ∧ bt 0 m = false) (D2 := dM t) (S2 := stM t) (fun k hk => by
    rw [b_0]
    have e1 : xTh s k ↔ xThM t k := by
      show x_th (s.1 8 1).toInt (s.1 8 3).toInt _ _ ↔ _
      rw [em, e19]
      exact (x_eqN hD k).1
    rw [e1]
    exact ⟨fun q => ⟨q, rfl⟩, fun q => q.1⟩) (fun k hk => hD k (by omega))
  exact st_uniq hC2 hM _ m (by omega) (Nat.lt_succ_self _) (by omega)
