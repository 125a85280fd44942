/-! the elements (begun): what shift makes of them on the reference's side -/
theorem x_L113 {s0 : vS} {p1 p2 p3 p4 p5 : Int32} {X : Nat} (hX : ((60 : Int32) * p1 + p2).toInt = X) (hX3 : X ≤ 360) {k : vS → Option (Int32 × vS)} {Q : Int32 → vS → Prop} (hk : ∀ t : vS, t.1 = s0.1 → (∀ i : Nat, (i : Int) < p5.toInt → t.2 184 i = s0.2 183 (X + i)) → (∀ a j, a ≠ 184 → t.2 a j = s0.2 a j) → v_P (k t) Q) : ∀ (n : Nat) (v : Int32) (s : vS), 0 ≤ v.toInt → s.1 = s0.1 → (∀ i : Nat, (i : Int) < v.toInt → s.2 184 i = s0.2 183 (X + i)) → (∀ a j, a ≠ 184 → s.2 a j = s0.2 a j) → v_P (f_Md_shift_L113 p1 p2 p3 p4 p5 k n v s) Q
  | 0, v, s, _, _, _, _ => v_Pnone
  | n + 1, v, s, hv, hs, h1, h2 => by
    show v_P (f_Md_shift_L113b p1 p2 p3 p4 p5 k (f_Md_shift_L113 p1 p2 p3 p4 p5 k n) v s) Q
    unfold f_Md_shift_L113b
    refine v_Pif (fun c => hk s hs (fun i hi => h1 i (by omega)) h2) (fun c => v_Pif (fun q => v_Pif (fun q2 => v_Plet ?_) (fun _ => v_Pnone)) (fun _ => v_Pnone))
    have hv6 : v.toInt < 60 := q2.2
    have e := v_inc (x := v) (by omega)
    have ei : ((60 : Int32) * p1 + p2 + v).toInt = X + v.toInt := by
      rw [i32_add (by omega) (by omega), hX]
    have en : ((60 : Int32) * p1 + p2 + v).toNatClampNeg = X + v.toInt.toNat := by rw [v_nc, ei]; omega
    rw [en]
    refine x_L113 hX hX3 hk n (v + 1) _ (by omega) hs (fun i hi => ?_) (fun a j ha => ?_)
    · show (if (184 : Nat) = 184 ∧ i = v.toNatClampNeg then s.2 183 (X + v.toInt.toNat) else s.2 184 i) = _
      by_cases hz : i = v.toNatClampNeg
      · rw [if_pos ⟨rfl, hz⟩, h2 183 _ (by decide), hz, v_nc]
      · rw [if_neg (fun q => hz q.2)]
        refine h1 i ?_
        rw [v_nc] at hz
        omega
    · show (if a = 184 ∧ j = v.toNatClampNeg then s.2 183 (X + v.toInt.toNat) else s.2 a j) = _
      rw [if_neg (fun q => ha q.1)]
      exact h2 a j ha
theorem x_L150 {s1 : vS} {p3 p4 p5 : Int32} {Y : Nat} (hY : ((60 : Int32) * p3 + p4).toInt = Y) (hY3 : Y ≤ 360) {k : vS → Option (Int32 × vS)} {Q : Int32 → vS → Prop} (hk : ∀ t : vS, t.1 = s1.1 → (∀ j, t.2 183 j = if Y ≤ j ∧ (j : Int) < Y + p5.toInt then s1.2 184 (j - Y) else s1.2 183 j) → (∀ a j, a ≠ 183 → t.2 a j = s1.2 a j) → v_P (k t) Q) : ∀ (n : Nat) (v : Int32) (s : vS), 0 ≤ v.toInt → (v.toInt ≤ p5.toInt ∨ v = 0) → s.1 = s1.1 → (∀ j, s.2 183 j = if Y ≤ j ∧ (j : Int) < Y + v.toInt then s1.2 184 (j - Y) else s1.2 183 j) → (∀ a j, a ≠ 183 → s.2 a j = s1.2 a j) → v_P (f_Md_shift_L150 p3 p4 p5 k n v s) Q
  | 0, v, s, _, _, _, _, _ => v_Pnone
  | n + 1, v, s, hv, hv5, hs, h1, h2 => by
    show v_P (f_Md_shift_L150b p3 p4 p5 k (f_Md_shift_L150 p3 p4 p5 k n) v s) Q
    unfold f_Md_shift_L150b
    refine v_Pif (fun c => hk s hs (fun j => ?_) h2) (fun c => v_Pif (fun q2 => v_Pif (fun q => v_Plet ?_) (fun _ => v_Pnone)) (fun _ => v_Pnone))
    · rw [h1 j]
      by_cases hz : Y ≤ j ∧ (j : Int) < Y + v.toInt
      · have hv0 : 0 < v.toInt := by omega
        have hle : v.toInt ≤ p5.toInt := hv5.resolve_right (fun z => by rw [z] at hv0; exact absurd hv0 (by decide))
        rw [if_pos hz, if_pos (by omega)]
      · rw [if_neg hz, if_neg (by omega)]
    · have hv6 : v.toInt < 60 := q2.2
      have e := v_inc (x := v) (by omega)
      have ei : ((60 : Int32) * p3 + p4 + v).toInt = Y + v.toInt := by
        rw [i32_add (by omega) (by omega), hY]
      have en : ((60 : Int32) * p3 + p4 + v).toNatClampNeg = Y + v.toInt.toNat := by rw [v_nc, ei]; omega
      rw [en]
      refine x_L150 hY hY3 hk n (v + 1) _ (by omega) (Or.inl (by omega)) hs (fun j => ?_) (fun a j ha => ?_)
      · show (if (183 : Nat) = 183 ∧ j = Y + v.toInt.toNat then s.2 184 v.toNatClampNeg else s.2 183 j) = _
        by_cases hz : j = Y + v.toInt.toNat
        · rw [if_pos ⟨rfl, hz⟩, if_pos (by omega), h2 184 _ (by decide), v_nc, show j - Y = v.toInt.toNat by omega]
        · rw [if_neg (fun q => hz q.2), h1 j]
          by_cases hy : Y ≤ j ∧ (j : Int) < Y + v.toInt
          · rw [if_pos hy, if_pos (by omega)]
          · rw [if_neg hy, if_neg (by omega)]
      · show (if a = 183 ∧ j = Y + v.toInt.toNat then s.2 184 v.toNatClampNeg else s.2 a j) = _
        rw [if_neg (fun q => ha q.1)]
        exact h2 a j ha
