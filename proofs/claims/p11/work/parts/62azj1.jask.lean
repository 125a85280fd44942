/-! verdict, speaks, of, never: the answers alike -/
/-- who is beaten, as bits -/
def btC (s : vS) (x i k : Nat) : Bool := aC s k && (pC s i k && decide (¬ (s.1 (23 + 5 * k) 2).toInt = (s.1 (23 + 5 * x) 2).toInt))
def btM (t : vS) (x i k : Nat) : Bool := aM t k && (pM t i k && decide (¬ (t.1 161 k).toInt = (t.1 161 x).toInt))
theorem yC_beatL {s : vS} {N : Nat} (hN : (s.1 8 1).toInt = N) (hN10 : N ≤ 10) {x i : Nat} {p2 : Int32} (hi : p2.toInt = i) (hi2 : i < 125) {k : Int32 → vS → Option (Int32 × vS)} {Q : Int32 → vS → Prop} (hk : v_P (k (bb (btC s x i) N) s) Q) : ∀ (n : Nat) (w v : Int32), 0 ≤ v.toInt → v.toInt ≤ N → w = bb (btC s x i) v.toInt.toNat → v_P (f_Ct_beatenBy_L5 (23 + 5 * x) p2 k n w v s) Q
  | 0, _, _, _, _, _ => v_Pnone
  | n + 1, w, v, h0, h1, hw => by
    show v_P (f_Ct_beatenBy_L5b (23 + 5 * x) p2 k (f_Ct_beatenBy_L5 (23 + 5 * x) p2 k n) w v s) Q
    unfold f_Ct_beatenBy_L5b
    by_cases c : (s.1 8 1).toInt ≤ v.toInt
    · rw [if_pos c, hw, show v.toInt.toNat = N by omega]
      exact hk
    · rw [if_neg c]
      obtain ⟨q, hq⟩ : ∃ q : Nat, v.toInt = q := ⟨v.toInt.toNat, by omega⟩
      have e1 := v_inc (x := v) (by omega)
      have en : v.toNatClampNeg = q := by rw [v_nc]; omega
      have hvo := v_ofn hq
      have hn1 : (v + 1).toInt.toNat = q + 1 := by omega
      have hn0 : v.toInt.toNat = q := by omega
      rw [hn0] at hw
      have hgo : ∀ w2, w2 = bb (btC s x i) (q + 1) → v_P (f_Ct_beatenBy_L5 (23 + 5 * x) p2 k n w2 (v + 1) s) Q := fun w2 h2 => yC_beatL hN hN10 hi hi2 hk n w2 (v + 1) (by omega) (by omega) (by rw [hn1]; exact h2)
      have hbb : bb (btC s x i) (q + 1) = if btC s x i q = true then bb (btC s x i) q ||| ((1 : Int32) <<< (Int32.ofNat q &&& 31)) else bb (btC s x i) q := rfl
      rw [jz_at v s ⟨h0, by omega⟩, v_bi_some, en]
      refine v_Pif (fun _ => ?_) (fun _ => v_Pnone)
      rw [y_isSt hq (by omega) (by omega), v_bi_some, b01, show 23 + 5 * q + 4 = 27 + 5 * q by omega]
      by_cases ca : aC s q = true
      · rw [if_pos ca, lb_has hi hi2, v_bi_some, b01]
        by_cases cp : lb s (27 + 5 * q) i = true
        · rw [if_pos cp]
          have cp2 : pC s i q = true := cp
          by_cases cs : (s.1 (23 + 5 * q) 2).toInt = (s.1 (23 + 5 * x) 2).toInt
          · rw [if_pos cs]
            refine hgo w ?_
            rw [hbb, if_neg (fun z => ?_)]
            · exact hw
            · unfold btC at z
              rw [ca, cp2, decide_eq_false (fun y => y cs)] at z
              cases z
          · rw [if_neg cs]
            refine hgo _ ?_
            rw [hbb, if_pos (show btC s x i q = true from ?_), hw, hvo]
            unfold btC
            rw [ca, cp2, decide_eq_true cs]
            rfl
        · rw [if_neg cp]
          refine hgo w ?_
          rw [hbb, if_neg (fun z => ?_)]
          · exact hw
          · unfold btC at z
            exact cp (Bool.and_eq_true_iff.mp (Bool.and_eq_true_iff.mp z).2).1
      · rw [if_neg ca]
        refine hgo w ?_
        rw [hbb, if_neg (show ¬ btC s x i q = true from fun z => ca (Bool.and_eq_true_iff.mp z).1)]
        exact hw
theorem yM_beatL {t : vS} {N : Nat} (hN : (t.1 151 14).toInt = N) (hN10 : N ≤ 10) {x i : Nat} (hx : x < 10) {p3 p4 : Int32} (hi : p3.toInt = i) (hi2 : i < 125) (h4 : p4.toInt = x) {k : Int32 → vS → Option (Int32 × vS)} {Q : Int32 → vS → Prop} (hk : v_P (k (bb (btM t x i) N) t) Q) : ∀ (n : Nat) (w v : Int32), 0 ≤ v.toInt → v.toInt ≤ N → w = bb (btM t x i) v.toInt.toNat → v_P (f_Md_verdict_L74 p3 p4 k n w v t) Q
  | 0, _, _, _, _, _ => v_Pnone
  | n + 1, w, v, h0, h1, hw => by
    show v_P (f_Md_verdict_L74b p3 p4 k (f_Md_verdict_L74 p3 p4 k n) w v t) Q
    unfold f_Md_verdict_L74b
    by_cases c : (t.1 151 14).toInt ≤ v.toInt
    · rw [if_pos c, hw, show v.toInt.toNat = N by omega]
      exact hk
    · rw [if_neg c]
      obtain ⟨q, hq⟩ : ∃ q : Nat, v.toInt = q := ⟨v.toInt.toNat, by omega⟩
      have e1 := v_inc (x := v) (by omega)
      have en : v.toNatClampNeg = q := by rw [v_nc]; omega
      have e4 : p4.toNatClampNeg = x := by rw [v_nc]; omega
      have hvo := v_ofn hq
      have hn1 : (v + 1).toInt.toNat = q + 1 := by omega
      have hn0 : v.toInt.toNat = q := by omega
      rw [hn0] at hw
      have hgo : ∀ w2, w2 = bb (btM t x i) (q + 1) → v_P (f_Md_verdict_L74 p3 p4 k n w2 (v + 1) t) Q := fun w2 h2 => yM_beatL hN hN10 hx hi hi2 h4 hk n w2 (v + 1) (by omega) (by omega) (by rw [hn1]; exact h2)
      have hbb : bb (btM t x i) (q + 1) = if btM t x i q = true then bb (btM t x i) q ||| ((1 : Int32) <<< (Int32.ofNat q &&& 31)) else bb (btM t x i) q := rfl
      have e125 := m_125 (b := v) (v := p3) ⟨by omega, by omega⟩ ⟨by omega, by omega⟩
      have enc : ((125 : Int32) * v + p3).toNatClampNeg = 125 * q + i := by rw [v_nc]; omega
      have hv11 : v_in v 11 := ⟨by omega, by omega⟩
      rw [if_pos hv11, en]
      by_cases ca : (t.1 170 q).toInt = 0
      · rw [if_pos ca]
        refine hgo w ?_
        rw [hbb, if_neg (show ¬ btM t x i q = true from fun z => absurd ca (of_decide_eq_true (Bool.and_eq_true_iff.mp z).1))]
        exact hw
      · rw [if_neg ca, if_pos (show v_in ((125 : Int32) * v + p3) 1375 from ⟨by omega, by omega⟩), enc]
        by_cases cp : (t.1 171 (125 * q + i)).toInt = 0
        · rw [if_pos cp]
          refine hgo w ?_
          rw [hbb, if_neg (show ¬ btM t x i q = true from fun z => absurd cp (of_decide_eq_true (Bool.and_eq_true_iff.mp (Bool.and_eq_true_iff.mp z).2).1))]
          exact hw
        · rw [if_neg cp, if_pos hv11, if_pos (show v_in p4 11 from ⟨by omega, by omega⟩), e4]
          by_cases cs : (t.1 161 q).toInt = (t.1 161 x).toInt
          · rw [if_pos cs]
            refine hgo w ?_
            rw [hbb, if_neg (show ¬ btM t x i q = true from fun z => absurd cs (of_decide_eq_true (Bool.and_eq_true_iff.mp (Bool.and_eq_true_iff.mp z).2).2))]
            exact hw
          · rw [if_neg cs]
            refine hgo _ ?_
            rw [hbb, if_pos (show btM t x i q = true from ?_), hw, hvo]
            unfold btM aM pM
            rw [decide_eq_true ca, decide_eq_true cp, decide_eq_true cs]
            rfl
def VC (u : vS) (i : Nat) (c r : Int) : Int32 := match hoC u i r with
  | none => -2
  | some x => if c = 0 then u.1 (23 + 5 * x) 2 else if c = 1 then u.1 (23 + 5 * x) 0 else bb (btC u x i) (nC u)
def VM (w : vS) (i : Nat) (c r : Int) : Int32 := match hoR w i r with
  | none => -2
  | some x => if c = 0 then w.1 161 x else if c = 1 then Int32.ofNat x else bb (btM w x i) (nM w)
theorem VC_VM {u w : vS} (h : j_V u w) {i : Nat} (hi : i < 125) (c r : Int) : VC u i c r = VM w i c r := by
  unfold VC VM
  rw [jv_ho h hi]
  cases hh : hoC u i r with
  | none => rfl
  | some x =>
    have hx := hol_lt _ _ hh
    have hx10 : x < 10 := by have := h.1.2; unfold nC at hx; omega
    dsimp only
    rw [(h.2.2.2.2.2.2.2 x hx).2]
    by_cases c0 : c = 0
    · rw [if_pos c0, if_pos c0]
    · rw [if_neg c0, if_neg c0]
      by_cases c1 : c = 1
      · rw [if_pos c1, if_pos c1]
        exact v_ofn (h.2.1 x hx10)
      · rw [if_neg c1, if_neg c1, jv_n h]
        refine bb_eq (nC u) (fun k hk => ?_)
        unfold btC btM
        rw [h.2.2.2.2.1 k hk, h.2.2.2.2.2.1 k i hk hi, (h.2.2.2.2.2.2.2 k hk).2, (h.2.2.2.2.2.2.2 x hx).2]
theorem jr_verdict {s t : vS} (h : j_R s t) (hR : v_RI t) (hK : v_KQ s) (h2 : j_2 s) (b c : Int32) : j_An s t (f_Ol_verdict b c s) (f_Md_verdict b c t) := by
  obtain ⟨AC, hAC⟩ := j_ACex h hR.1.1.2
  have hz2 : (0 : Int32).toInt ≤ c.toInt ∧ c.toInt ≤ (2 : Int32).toInt ↔ 0 ≤ c.toInt ∧ c.toInt ≤ 2 := Iff.rfl
  unfold f_Ol_verdict f_Md_verdict
  rw [y_placeOf, v_bi_some, y_isCase, v_bi_some, v_bif]
  by_cases hp : pl_C b = true
  · obtain ⟨i, hi, hv⟩ := pl_in hp
    rw [if_pos hp, if_neg (show ¬ (pl_V b).toInt < 0 by omega), if_pos hp, z_in, v_bi_some, v_bif]
    by_cases hc : 0 ≤ c.toInt ∧ c.toInt ≤ 2
    · rw [if_neg (show ¬ c.toInt < 0 by omega), if_pos hc.2, if_pos (hz2.mpr hc)]
      refine j_AnI (P := fun r _ => ∃ u, hd_C s u ∧ r = VC u i c.toInt (u.1 8 2).toInt) (Q := fun r _ => ∃ w, hd_M s t w AC ∧ r = VM w i c.toInt (w.1 151 18).toInt) ?_ ?_ ?_
      · refine v_Pbi (jd_C h hR hK h2 hAC) ?_
        rintro _ u hu
        refine v_Pbi (yC_holder hu.2.1 hu.2.2.1 hu.2.2.2 hv hi) ?_
        rintro o u2 ⟨rfl, ho⟩
        unfold VC
        cases hh : hoC u2 i (u2.1 8 2).toInt with
        | none =>
          rw [hh] at ho
          exact v_Pno ho (v_Pret ⟨u2, hu, by rw [hh]⟩)
        | some x =>
          rw [hh] at ho
          refine v_Pos ho (v_Pif (fun _ => ?_) (fun _ => v_Pnone))
          by_cases c0 : c.toInt = 0
          · rw [if_pos c0]
            refine v_Pret ⟨u2, hu, ?_⟩
            rw [hh]
            exact (if_pos c0).symm
          · rw [if_neg c0]
            by_cases c1 : c.toInt = 1
            · rw [if_pos c1]
              refine v_Pret ⟨u2, hu, ?_⟩
              rw [hh]
              exact ((if_neg c0).trans (if_pos c1)).symm
            · rw [if_neg c1]
              have hm := hu.2.1
              refine v_Pbi (P := fun r _ => r = bb (btC u2 x i) (nC u2)) ?_ ?_
              · unfold f_Ct_beatenBy
                exact yC_beatL (N := nC u2) (by unfold nC; have := hm.1; omega) (by unfold nC; have := hm.2; omega) hv hi (v_Pret (P := fun r _ => r = bb (btC u2 x i) (nC u2)) rfl) 4096 0 0 (by decide) (by show (0 : Int) ≤ _; omega) rfl
              · rintro r u3 hr
                refine v_Pret ⟨u2, hu, ?_⟩
                rw [hh, hr]
                exact ((if_neg c0).trans (if_neg c1)).symm
      · refine v_Pbi (jd_M h hR hAC) ?_
        rintro _ w hw
        rw [y_caseOf, v_bi_some]
        refine v_Pbi (yM_holder hw.2.1 hw.2.2 hv hi) ?_
        rintro o w2 ⟨rfl, ho⟩
        unfold VM
        cases hh : hoR w2 i (w2.1 151 18).toInt with
        | none =>
          rw [hh] at ho
          rw [ho, if_neg (show ¬ 0 ≤ (hoM none).toInt by decide)]
          exact v_Pret ⟨w2, hw, by rw [hh]⟩
        | some x =>
          rw [hh] at ho
          have hm := hw.2.1
          have hx := hol_lt _ _ hh
          have hx10 : x < 10 := by unfold nM at hx; omega
          have e : o.toInt = x := by rw [ho]; exact v_oi (n := x) (by omega)
          have en : o.toNatClampNeg = x := by rw [v_nc]; omega
          rw [if_pos (show 0 ≤ o.toInt by omega)]
          by_cases c2 : 2 ≤ c.toInt
          · rw [if_pos c2]
            refine yM_beatL (N := nM w2) (by unfold nM; have := hm.1; omega) (by unfold nM; have := hm.2; omega) hx10 hv hi e ?_ 4096 0 0 (by decide) (by show (0 : Int) ≤ _; omega) rfl
            refine v_Pret ⟨w2, hw, ?_⟩
            rw [hh]
            exact ((if_neg (show ¬ c.toInt = 0 by omega)).trans (if_neg (show ¬ c.toInt = 1 by omega))).symm
          · rw [if_neg c2]
            by_cases c0 : c.toInt = 0
            · rw [if_pos c0]
              refine v_Pif (fun _ => ?_) (fun _ => v_Pnone)
              refine v_Pret ⟨w2, hw, ?_⟩
              rw [hh, en]
              exact (if_pos c0).symm
            · rw [if_neg c0]
              refine v_Pret ⟨w2, hw, ?_⟩
              rw [hh, ho]
              exact ((if_neg c0).trans (if_pos (show c.toInt = 1 by omega))).symm
      · rintro r1 _ r2 _ ⟨u, hu, rfl⟩ ⟨w, hw, rfl⟩
        obtain ⟨hV, hr, _⟩ := jd_V h hR hAC hu hw
        rw [VC_VM hV hi, hr]
    · rw [if_neg (fun z => hc (hz2.mp z))]
      refine j_AnI (P := fun r _ => r = -1) (Q := fun r _ => r = -1) ?_ (v_Pret rfl) (fun _ _ _ _ a1 a2 => by rw [a1, a2])
      by_cases c0 : c.toInt < 0
      · rw [if_pos c0]; exact v_Pret rfl
      · rw [if_neg c0, if_neg (show ¬ c.toInt ≤ 2 by omega)]; exact v_Pret rfl
  · rw [if_neg hp, if_pos (show (-1 : Int32).toInt < 0 by decide), if_neg hp]
    exact j_AnI (P := fun r _ => r = -1) (Q := fun r _ => r = -1) (v_Pret rfl) (v_Pret rfl) (fun _ _ _ _ a1 a2 => by rw [a1, a2])
/-! speaks -/
theorem jr_speaks {s t : vS} (h : j_R s t) (hR : v_RI t) (hK : v_KQ s) (h2 : j_2 s) (b c : Int32) : j_An s t (f_Ol_speaks b c s) (f_Md_speaks b c t) := by
  obtain ⟨AC, hAC⟩ := j_ACex h hR.1.1.2
  have hm := hR.1.1
  have em : s.1 8 1 = t.1 151 14 := h.1
  unfold f_Ol_speaks f_Md_speaks
  rw [y_placeOf, v_bi_some, jz_knows, v_bi_some, v_bif, jz_isLaw b t hm.1, v_bi_some, v_bif, em]
  by_cases hb : 0 ≤ b.toInt ∧ b.toInt < (t.1 151 14).toInt
  · rw [if_pos hb, if_pos hb, y_isCase, v_bi_some, v_bif]
    by_cases hp : pl_C c = true
    · obtain ⟨i, hi, hv⟩ := pl_in hp
      rw [if_pos hp, if_pos (show 0 ≤ (pl_V c).toInt by omega), if_pos hp, y_caseOf, v_bi_some]
      obtain ⟨p, hpb⟩ : ∃ p : Nat, b.toInt = p := ⟨b.toInt.toNat, by omega⟩
      have hA := hAC p (by omega)
      refine j_AnI (P := fun r _ => r = if spM t p (AC p) i = true then 1 else 0) (Q := fun r _ => r = if spM t p (AC p) i = true then 1 else 0) ?_ ?_ (fun _ _ _ _ a1 a2 => by rw [a1, a2])
      · refine v_Pbi (jd_C h hR hK h2 hAC) ?_
        rintro _ u hu
        rw [jz_at b u ⟨hb.1, by omega⟩, v_bi_some, show b.toNatClampNeg = p by rw [v_nc]; omega]
        refine v_Pif (fun _ => ?_) (fun _ => v_Pnone)
        rw [show 23 + 5 * p + 4 = 27 + 5 * p by omega, lb_has hv hi, v_bi_some, b01]
        have hsp := jv_sp h hm.2 hAC hu.1.1.1 hu.1.1.2.2 (k := p) (by omega) i (by omega)
        rw [hsp, decide_eq_true hi, Bool.true_and]
        cases spM t p (AC p) i with
        | true => exact v_Pret rfl
        | false => exact v_Pret rfl
      · refine v_Pbi (y_doesSpeak (p := p) (i := i) hpb (by omega) (v_ofn hv) hA.1 hA.2.2.2.2) ?_
        rintro r w ⟨hr, _⟩
        have e : nzB (e_mnM t 0) (e_mnM t 1) (e_mnM t 2) (t.1 160 p) (t.1 151 19) b (AC p) i = spM t p (AC p) i := by
          unfold spM
          rw [v_ofn hpb]
        rw [e] at hr
        rw [hr, b01]
        cases spM t p (AC p) i with
        | true => exact v_Pret rfl
        | false => exact v_Pret rfl
    · rw [if_neg hp, if_neg (show ¬ 0 ≤ (-1 : Int32).toInt by decide), if_neg hp]
      exact j_AnI (P := fun r _ => r = -1) (Q := fun r _ => r = -1) (v_Pret rfl) (v_Pret rfl) (fun _ _ _ _ a1 a2 => by rw [a1, a2])
  · rw [if_neg hb, if_neg hb]
    exact j_AnI (P := fun r _ => r = -1) (Q := fun r _ => r = -1) (v_Pret rfl) (v_Pret rfl) (fun _ _ _ _ a1 a2 => by rw [a1, a2])
/-! of -/
theorem jr_ofLaw {s t : vS} (h : j_R s t) (hR : v_RI t) (hK : v_KQ s) (h2 : j_2 s) {AC : Nat → List gL} (hAC : j_AC s t AC) {b c : Int32} (hb : 0 ≤ b.toInt ∧ b.toInt < (t.1 151 14).toInt) (hc : 0 ≤ c.toInt ∧ c.toInt ≤ 5) {g : vS → Option (Int32 × vS)} (hg : ∀ w, g w = (if c.toInt < 0 ∨ 4 < c.toInt then (if v_in b 11 then (some ((w.1 172 (Int32.toNatClampNeg b)), w)) else none) else (if c.toInt = 0 then (if v_in b 11 then (some ((w.1 160 (Int32.toNatClampNeg b)), w)) else none) else (if c.toInt = 1 then (if v_in b 11 then (some ((w.1 161 (Int32.toNatClampNeg b)), w)) else none) else (if c.toInt = 2 then (if v_in b 11 then (some ((w.1 162 (Int32.toNatClampNeg b)), w)) else none) else (if c.toInt = 3 then (v_bi (f_Md_isThere b w) (fun r21 s21 => (if r21.toInt = 0 then (some (0, s21)) else (some (1, s21))))) else (if v_in b 11 then (if (w.1 170 (Int32.toNatClampNeg b)).toInt = 0 then (some (0, w)) else (some (1, w))) else none))))))) : j_An s t (f_Ol_ofLaw b c s) (v_bi (f_Md_findAll t) (fun _ s11 => g s11)) := by
  have hm := hR.1.1
  have em : s.1 8 1 = t.1 151 14 := h.1
  obtain ⟨p, hpb⟩ : ∃ p : Nat, b.toInt = p := ⟨b.toInt.toNat, by omega⟩
  have en : b.toNatClampNeg = p := by rw [v_nc]; omega
  have hi : v_in b 11 := ⟨by omega, by omega⟩
  have hl := h.2.2.2.1 p (by rw [em]; omega) (by omega)
  have e19 : s.1 8 3 = t.1 151 19 := h.2.2.2.2.1.2
  have hfind := jd_M h hR hAC
  unfold f_Ol_ofLaw
  by_cases c2 : c.toInt ≤ 2
  · rw [if_neg (show ¬ 2 < c.toInt by omega)]
    refine j_AnI (P := fun r _ => r = if c.toInt = 0 then t.1 160 p else if c.toInt = 1 then t.1 161 p else t.1 162 p) (Q := fun r _ => r = if c.toInt = 0 then t.1 160 p else if c.toInt = 1 then t.1 161 p else t.1 162 p) ?_ ?_ (fun _ _ _ _ a1 a2 => by rw [a1, a2])
    · unfold f_Ct_valueOf
      rw [jz_at b s ⟨hb.1, by omega⟩, v_bi_some, en]
      refine v_Pbi (P := fun r _ => r = if c.toInt = 0 then t.1 160 p else if c.toInt = 1 then t.1 161 p else t.1 162 p) (v_Pif (fun _ => ?_) (fun _ => v_Pnone)) (fun r u hr => v_Pret hr)
      rw [if_neg (show ¬ (c.toInt < 0 ∨ 3 < c.toInt) by omega), hl.1, hl.2.1, hl.2.2]
      by_cases k0 : c.toInt = 0
      · rw [if_pos k0, if_pos k0]; exact v_Pret rfl
      · rw [if_neg k0, if_neg k0]
        by_cases k1 : c.toInt = 1
        · rw [if_pos k1, if_pos k1]; exact v_Pret rfl
        · rw [if_neg k1, if_neg k1, if_pos (show c.toInt = 2 by omega)]; exact v_Pret rfl
    · refine v_Pbi hfind ?_
      rintro _ w hw
      have wE := hw.1.1.1
      rw [hg, if_neg (show ¬ (c.toInt < 0 ∨ 4 < c.toInt) by omega), if_pos hi, if_pos hi, if_pos hi, en, wE 160 p (by omega), wE 161 p (by omega), wE 162 p (by omega)]
      by_cases k0 : c.toInt = 0
      · rw [if_pos k0, if_pos k0]; exact v_Pret rfl
      · rw [if_neg k0, if_neg k0]
        by_cases k1 : c.toInt = 1
        · rw [if_pos k1, if_pos k1]; exact v_Pret rfl
        · rw [if_neg k1, if_neg k1, if_pos (show c.toInt = 2 by omega)]; exact v_Pret rfl
  · rw [if_pos (show 2 < c.toInt by omega)]
    by_cases c3 : c.toInt = 3
    · rw [if_pos c3]
      refine j_AnI (P := fun r _ => r = if (t.1 151 19).toInt < (t.1 160 p).toInt then 0 else 1) (Q := fun r _ => r = if (t.1 151 19).toInt < (t.1 160 p).toInt then 0 else 1) ?_ ?_ (fun _ _ _ _ a1 a2 => by rw [a1, a2])
      · unfold f_Ct_isThere
        rw [jz_knows, v_bi_some, v_bif, em, if_pos hb, jz_at b s ⟨hb.1, by omega⟩, v_bi_some, en, e19, hl.1]
        refine v_Pbi (P := fun r _ => r = if (t.1 151 19).toInt < (t.1 160 p).toInt then 0 else 1) (v_Pif (fun _ => ?_) (fun _ => v_Pnone)) ?_
        · by_cases k : (t.1 151 19).toInt < (t.1 160 p).toInt
          · rw [if_pos k, if_pos k]; exact v_Pret rfl
          · rw [if_neg k, if_neg k]; exact v_Pret rfl
        · intro r u hr
          by_cases k : (t.1 151 19).toInt < (t.1 160 p).toInt
          · rw [if_pos k] at hr ⊢
            rw [hr]; exact v_Pret rfl
          · rw [if_neg k] at hr ⊢
            rw [hr]; exact v_Pret rfl
      · refine v_Pbi hfind ?_
        rintro _ w hw
        have wE := hw.1.1.1
        rw [hg, if_neg (show ¬ (c.toInt < 0 ∨ 4 < c.toInt) by omega), if_neg (show ¬ c.toInt = 0 by omega), if_neg (show ¬ c.toInt = 1 by omega), if_neg (show ¬ c.toInt = 2 by omega), if_pos c3]
        unfold f_Md_isThere
        rw [if_pos hi, en, wE 160 p (by omega), wE 151 19 (by omega)]
        by_cases k : (t.1 151 19).toInt < (t.1 160 p).toInt
        · rw [if_pos k, if_pos k]; exact v_Pret rfl
        · rw [if_neg k, if_neg k]; exact v_Pret rfl
    · rw [if_neg c3]
      by_cases c4 : c.toInt = 4
      · refine j_AnI (P := fun r _ => ∃ u, hd_C s u ∧ r = if aC u p = true then 1 else 0) (Q := fun r _ => ∃ w, hd_M s t w AC ∧ r = if aM w p = true then 1 else 0) ?_ ?_ ?_
        · refine v_Pbi (jd_C h hR hK h2 hAC) ?_
          rintro _ u hu
          have e8 : u.1 8 1 = t.1 151 14 := ((hu.1.1.1 8 1 (by unfold hx_S hx_R; omega)).1).trans em
          rw [if_pos c4, y_isSt hpb (by rw [e8]; omega) (by rw [e8]; omega), v_bi_some, b01]
          cases hx : aC u p with
          | true => exact v_Pret ⟨u, hu, by rw [hx]; rfl⟩
          | false => exact v_Pret ⟨u, hu, by rw [hx]; rfl⟩
        · refine v_Pbi hfind ?_
          rintro _ w hw
          rw [hg, if_neg (show ¬ (c.toInt < 0 ∨ 4 < c.toInt) by omega), if_neg (show ¬ c.toInt = 0 by omega), if_neg (show ¬ c.toInt = 1 by omega), if_neg (show ¬ c.toInt = 2 by omega), if_neg c3, if_pos hi, en]
          by_cases k : (w.1 170 p).toInt = 0
          · rw [if_pos k]
            exact v_Pret ⟨w, hw, by unfold aM; rw [decide_eq_false (fun z => z k)]; rfl⟩
          · rw [if_neg k]
            exact v_Pret ⟨w, hw, by unfold aM; rw [decide_eq_true k]; rfl⟩
        · rintro r1 _ r2 _ ⟨u, hu, rfl⟩ ⟨w, hw, rfl⟩
          obtain ⟨hV, _, _⟩ := jd_V h hR hAC hu hw
          have hn : p < nC u := by
            have e8 : u.1 8 1 = t.1 151 14 := ((hu.1.1.1 8 1 (by unfold hx_S hx_R; omega)).1).trans em
            unfold nC
            rw [e8]
            omega
          rw [hV.2.2.2.2.1 p hn]
      · refine j_AnI (P := fun r _ => ∃ u, hd_C s u ∧ r = Int32.ofNat (cnt (lb u (27 + 5 * p)) 125)) (Q := fun r _ => ∃ w, hd_M s t w AC ∧ r = w.1 172 p) ?_ ?_ ?_
        · refine v_Pbi (jd_C h hR hK h2 hAC) ?_
          rintro _ u hu
          have e8 : u.1 8 1 = t.1 151 14 := ((hu.1.1.1 8 1 (by unfold hx_S hx_R; omega)).1).trans em
          rw [if_neg c4, jz_at b u ⟨hb.1, by omega⟩, v_bi_some, en]
          refine v_Pif (fun _ => ?_) (fun _ => v_Pnone)
          rw [show 23 + 5 * p + 4 = 27 + 5 * p by omega, lb_size (hu.2.2.2 p (by unfold nC; rw [e8]; omega)), v_bi_some]
          exact v_Pret ⟨u, hu, rfl⟩
        · refine v_Pbi hfind ?_
          rintro _ w hw
          rw [hg, if_pos (show c.toInt < 0 ∨ 4 < c.toInt by omega), if_pos hi, en]
          exact v_Pret ⟨w, hw, rfl⟩
        · rintro r1 _ r2 _ ⟨u, hu, rfl⟩ ⟨w, hw, rfl⟩
          obtain ⟨hV, _, _⟩ := jd_V h hR hAC hu hw
          have e8 : u.1 8 1 = t.1 151 14 := ((hu.1.1.1 8 1 (by unfold hx_S hx_R; omega)).1).trans em
          have hn : p < nC u := by
            unfold nC
            rw [e8]
            omega
          have h7 := hV.2.2.2.2.2.2.1 p hn
          have h8 := (hw.2.2.2 p (by rw [jv_n hV]; exact hn)).2
          rw [← h7]
          exact (v_of h8).symm
theorem jr_of {s t : vS} (h : j_R s t) (hR : v_RI t) (hK : v_KQ s) (h2 : j_2 s) (b c : Int32) : j_An s t (f_Ol_of b c s) (f_Md_of b c t) := by
  obtain ⟨AC, hAC⟩ := j_ACex h hR.1.1.2
  have hm := hR.1.1
  have em : s.1 8 1 = t.1 151 14 := h.1
  have e18 : s.1 8 2 = t.1 151 18 := h.2.2.2.2.1.1
  have e19 : s.1 8 3 = t.1 151 19 := h.2.2.2.2.1.2
  have ret : ∀ (x : Int32) (a : vS) (d : vS), j_An s t (some (x, a)) (some (x, d)) := fun x a d => j_AnI (P := fun r _ => r = x) (Q := fun r _ => r = x) (v_Pret rfl) (v_Pret rfl) (fun _ _ _ _ a1 a2 => by rw [a1, a2])
  unfold f_Ol_of f_Md_of
  by_cases c5 : 0 ≤ c.toInt ∧ c.toInt ≤ 5
  · rw [if_neg (show ¬ c.toInt < 0 by omega), if_neg (show ¬ 5 < c.toInt by omega), if_neg (show ¬ c.toInt = 10 by omega), z_in, v_bi_some, v_bif, if_neg (show ¬ ((20 : Int32).toInt ≤ c.toInt ∧ c.toInt ≤ (21 : Int32).toInt) from fun z => by have : (20 : Int) ≤ c.toInt := z.1; omega), z_in, v_bi_some, v_bif, if_pos (show (0 : Int32).toInt ≤ c.toInt ∧ c.toInt ≤ (5 : Int32).toInt from c5), jz_isLaw b t hm.1, v_bi_some, v_bif, jz_knows, v_bi_some, v_bif, em]
    by_cases hb : 0 ≤ b.toInt ∧ b.toInt < (t.1 151 14).toInt
    · rw [if_pos hb, if_pos hb]
      have hq := jr_ofLaw h hR hK h2 hAC hb c5 (g := fun s11 => (if c.toInt < 0 ∨ 4 < c.toInt then (if v_in b 11 then (some ((s11.1 172 (Int32.toNatClampNeg b)), s11)) else none) else (if c.toInt = 0 then (if v_in b 11 then (some ((s11.1 160 (Int32.toNatClampNeg b)), s11)) else none) else (if c.toInt = 1 then (if v_in b 11 then (some ((s11.1 161 (Int32.toNatClampNeg b)), s11)) else none) else (if c.toInt = 2 then (if v_in b 11 then (some ((s11.1 162 (Int32.toNatClampNeg b)), s11)) else none) else (if c.toInt = 3 then (v_bi (f_Md_isThere b s11) (fun r21 s21 => (if r21.toInt = 0 then (some (0, s21)) else (some (1, s21))))) else (if v_in b 11 then (if (s11.1 170 (Int32.toNatClampNeg b)).toInt = 0 then (some (0, s11)) else (some (1, s11))) else none))))))) (fun w => rfl)
      intro r1 s1 r2 t1 e1 e2
      obtain ⟨x, u, a1, a2⟩ := v_bd e1
      obtain ⟨rfl, rfl⟩ := v_so a2
      exact hq _ _ _ _ a1 e2
    · rw [if_neg hb, if_neg hb]
      exact ret _ _ _
  · have hout : (if c.toInt < 0 then (0 : Int) else if 5 < c.toInt then 0 else 1) = 0 := by
      by_cases k : c.toInt < 0
      · rw [if_pos k]
      · rw [if_neg k, if_pos (by omega)]
    have hcl : ∀ X Y : Option (Int32 × vS), (if c.toInt < 0 then X else (if 5 < c.toInt then X else Y)) = X := fun X Y => by
      by_cases k : c.toInt < 0
      · rw [if_pos k]
      · rw [if_neg k, if_pos (by omega)]
    rw [hcl]
    by_cases c10 : c.toInt = 10
    · rw [if_pos c10, if_pos c10, jz_isWord, v_bi_some, v_bif, z_in, v_bi_some, v_bif]
      by_cases hb : 0 ≤ b.toInt ∧ b.toInt ≤ 2
      · rw [if_pos hb, if_pos (show (0 : Int32).toInt ≤ b.toInt ∧ b.toInt ≤ (2 : Int32).toInt from hb)]
        obtain ⟨w, hw⟩ : ∃ w : Nat, b.toInt = w := ⟨b.toInt.toNat, by omega⟩
        rw [y_mnC hw (by omega), v_bi_some, y_mnM hw (by omega), v_bi_some, j_mnw h.2.2.2.2.2.2.1 e19 (fun _ _ _ => rfl) (by omega)]
        exact ret _ _ _
      · rw [if_neg hb, if_neg (show ¬ ((0 : Int32).toInt ≤ b.toInt ∧ b.toInt ≤ (2 : Int32).toInt) from hb), if_neg (show ¬ c.toInt = 20 by omega), if_neg (show ¬ c.toInt = 21 by omega)]
        exact ret _ _ _
    · rw [if_neg c10, if_neg c10, z_in, v_bi_some, v_bif]
      by_cases c20 : c.toInt = 20
      · rw [if_pos c20, if_pos (show (20 : Int32).toInt ≤ c.toInt ∧ c.toInt ≤ (21 : Int32).toInt by rw [c20]; decide)]
        by_cases b0 : b.toInt = 0
        · rw [if_pos b0, if_pos b0, if_pos c20, e18]
          exact ret _ _ _
        · rw [if_neg b0, if_neg (show ¬ c.toInt = 21 by omega), if_neg b0]
          exact ret _ _ _
      · rw [if_neg c20]
        by_cases c21 : c.toInt = 21
        · rw [if_pos c21, if_pos (show (20 : Int32).toInt ≤ c.toInt ∧ c.toInt ≤ (21 : Int32).toInt by rw [c21]; decide)]
          by_cases b0 : b.toInt = 0
          · rw [if_pos b0, if_pos b0, if_neg c20, e19]
            exact ret _ _ _
          · rw [if_neg b0, if_neg b0]
            exact ret _ _ _
        · rw [if_neg c21, if_neg (show ¬ ((20 : Int32).toInt ≤ c.toInt ∧ c.toInt ≤ (21 : Int32).toInt) from fun z => by have h1 : (20 : Int) ≤ c.toInt := z.1; have h2 : c.toInt ≤ (21 : Int) := z.2; omega), z_in, v_bi_some, v_bif, if_neg (show ¬ ((0 : Int32).toInt ≤ c.toInt ∧ c.toInt ≤ (5 : Int32).toInt) from c5)]
          exact ret _ _ _
/-! never -/
def nvC (u : vS) (r : Int) (k : Nat) (x : Int32) : Prop := ∀ m, m < 32 → (bt x m = true ↔ ∃ i, i < k ∧ hoC u i r = some m)
theorem yC_nvL {u : vS} (ho : ok_C u) {k : Int32 → vS → Option (Int32 × vS)} {Q : Int32 → vS → Prop} (hk : ∀ x, nvC u (u.1 8 2).toInt 125 x → v_P (k x u) Q) : ∀ (n : Nat) (x v : Int32), 0 ≤ v.toInt → v.toInt ≤ 125 → nvC u (u.1 8 2).toInt v.toInt.toNat x → v_P (f_Ol_never_L11 k n x v u) Q
  | 0, _, _, _, _, _ => v_Pnone
  | n + 1, x, v, h0, h1, hx => by
    show v_P (f_Ol_never_L11b k (f_Ol_never_L11 k n) x v u) Q
    unfold f_Ol_never_L11b
    by_cases c : 125 ≤ v.toInt
    · rw [if_pos c]
      rw [show v.toInt.toNat = 125 by omega] at hx
      exact hk x hx
    · rw [if_neg c]
      obtain ⟨q, hq⟩ : ∃ q : Nat, v.toInt = q := ⟨v.toInt.toNat, by omega⟩
      have e1 := v_inc (x := v) (by omega)
      have hn1 : (v + 1).toInt.toNat = q + 1 := by omega
      have hn0 : v.toInt.toNat = q := by omega
      rw [hn0] at hx
      refine v_Pbi (yC_holder ho.1 ho.2.1 ho.2.2 hq (by omega)) ?_
      rintro o u2 ⟨rfl, hoo⟩
      cases hh : hoC u2 q (u2.1 8 2).toInt with
      | none =>
        rw [hh] at hoo
        refine v_Pno hoo (yC_nvL ho hk n x (v + 1) (by omega) (by omega) ?_)
        rw [hn1]
        intro m hm
        rw [hx m hm]
        constructor
        · rintro ⟨i, i1, i2⟩
          exact ⟨i, by omega, i2⟩
        · rintro ⟨i, i1, i2⟩
          by_cases z : i = q
          · rw [z, hh] at i2; cases i2
          · exact ⟨i, by omega, i2⟩
      | some y =>
        rw [hh] at hoo
        have hy := hol_lt _ _ hh
        have hy10 : y < 10 := by have := ho.1.2; unfold nC at hy; omega
        refine v_Pos hoo (v_Pif (fun _ => ?_) (fun _ => v_Pnone))
        have en : u2.1 (adC y) 0 = Int32.ofNat y := v_ofn (ho.2.1 y hy10)
        rw [en]
        refine yC_nvL ho hk n _ (v + 1) (by omega) (by omega) ?_
        rw [hn1]
        intro m hm
        rw [b_set (by omega) hm, Bool.or_eq_true, hx m hm, decide_eq_true_iff]
        constructor
        · rintro (⟨i, i1, i2⟩ | rfl)
          · exact ⟨i, by omega, i2⟩
          · exact ⟨q, by omega, hh⟩
        · rintro ⟨i, i1, i2⟩
          by_cases z : i = q
          · rw [z, hh] at i2
            exact Or.inr (Option.some.inj i2).symm
          · exact Or.inl ⟨i, by omega, i2⟩
def nvM (w : vS) (r : Int) (k : Nat) (x0 x : Int32) : Prop := ∀ m, m < 32 → (bt x m = true ↔ (bt x0 m = true ∧ ¬ ∃ i, i < k ∧ hoR w i r = some m))
theorem yM_nvL {w : vS} (ho : ok_M w) {x0 : Int32} {k : Int32 → vS → Option (Int32 × vS)} {Q : Int32 → vS → Prop} (hk : ∀ x, nvM w (w.1 151 18).toInt 125 x0 x → v_P (k x w) Q) : ∀ (n : Nat) (x v : Int32), 0 ≤ v.toInt → v.toInt ≤ 125 → nvM w (w.1 151 18).toInt v.toInt.toNat x0 x → v_P (f_Md_never_L15 k n x v w) Q
  | 0, _, _, _, _, _ => v_Pnone
  | n + 1, x, v, h0, h1, hx => by
    show v_P (f_Md_never_L15b k (f_Md_never_L15 k n) x v w) Q
    unfold f_Md_never_L15b
    by_cases c : 125 ≤ v.toInt
    · rw [if_pos c]
      rw [show v.toInt.toNat = 125 by omega] at hx
      exact hk x hx
    · rw [if_neg c]
      obtain ⟨q, hq⟩ : ∃ q : Nat, v.toInt = q := ⟨v.toInt.toNat, by omega⟩
      have e1 := v_inc (x := v) (by omega)
      have hn1 : (v + 1).toInt.toNat = q + 1 := by omega
      have hn0 : v.toInt.toNat = q := by omega
      rw [hn0] at hx
      refine v_Pbi (yM_holder ho.1 ho.2 hq (by omega)) ?_
      rintro o w2 ⟨rfl, hoo⟩
      cases hh : hoR w2 q (w2.1 151 18).toInt with
      | none =>
        rw [hh] at hoo
        rw [hoo, if_pos (show (hoM none).toInt < 0 by decide)]
        refine yM_nvL ho hk n x (v + 1) (by omega) (by omega) ?_
        rw [hn1]
        intro m hm
        rw [hx m hm]
        refine and_congr_right (fun _ => not_congr ⟨?_, ?_⟩)
        · rintro ⟨i, i1, i2⟩
          exact ⟨i, by omega, i2⟩
        · rintro ⟨i, i1, i2⟩
          by_cases z : i = q
          · rw [z, hh] at i2; cases i2
          · exact ⟨i, by omega, i2⟩
      | some y =>
        rw [hh] at hoo
        have hy := hol_lt _ _ hh
        have hm10 := ho.1
        have hy10 : y < 10 := by unfold nM at hy; omega
        have e : o.toInt = y := by rw [hoo]; exact v_oi (n := y) (by omega)
        have hoo2 : o = Int32.ofNat y := hoo
        rw [if_neg (show ¬ o.toInt < 0 by omega), hoo2]
        refine yM_nvL ho hk n _ (v + 1) (by omega) (by omega) ?_
        rw [hn1]
        intro m hm
        have hb : bt ((1 : Int32) <<< (Int32.ofNat y &&& 31)) m = decide (m = y) := by
          have h3 := b_set (x := 0) (n := y) (i := m) (by omega) hm
          rw [b_0, Bool.false_or] at h3
          rw [← h3, b_or, b_0, Bool.false_or]
        rw [b_and, b_not hm, hb, Bool.and_eq_true, hx m hm]
        constructor
        · rintro ⟨⟨a1, a2⟩, a3⟩
          refine ⟨a1, ?_⟩
          rintro ⟨i, i1, i2⟩
          by_cases z : i = q
          · rw [z, hh] at i2
            rw [decide_eq_true (Option.some.inj i2).symm] at a3
            cases a3
          · exact a2 ⟨i, by omega, i2⟩
        · rintro ⟨a1, a2⟩
          refine ⟨⟨a1, fun ⟨i, i1, i2⟩ => a2 ⟨i, by omega, i2⟩⟩, ?_⟩
          rw [decide_eq_false (fun z => a2 ⟨q, by omega, by rw [hh, z]⟩)]
          rfl
theorem jr_never {s t : vS} (h : j_R s t) (hR : v_RI t) (hK : v_KQ s) (h2 : j_2 s) : j_An s t (f_Ol_never s) (f_Md_never t) := by
  obtain ⟨AC, hAC⟩ := j_ACex h hR.1.1.2
  unfold f_Ol_never f_Md_never
  refine j_AnI (P := fun r _ => ∃ u x, hd_C s u ∧ nvC u (u.1 8 2).toInt 125 x ∧ r = (((1 : Int32) <<< ((u.1 8 1) &&& 31)) - (1 : Int32)) &&& (x ^^^ (-1))) (Q := fun r _ => ∃ w, hd_M s t w AC ∧ nvM w (w.1 151 18).toInt 125 (((1 : Int32) <<< ((w.1 151 14) &&& 31)) - (1 : Int32)) r) ?_ ?_ ?_
  · refine v_Pbi (jd_C h hR hK h2 hAC) ?_
    rintro _ u hu
    refine yC_nvL hu.2 (fun x hx => ?_) 4096 0 0 (by decide) (by decide) (fun m _ => ⟨fun q => (by rw [b_0] at q; cases q), fun ⟨i, i1, _⟩ => absurd i1 (Nat.not_lt_zero i)⟩)
    exact v_Pret ⟨u, x, hu, hx, rfl⟩
  · refine v_Pbi (jd_M h hR hAC) ?_
    rintro _ w hw
    exact yM_nvL hw.2 (fun x hx => v_Pret ⟨w, hw, hx⟩) 4096 _ 0 (by decide) (by decide) (fun m _ => ⟨fun q => ⟨q, fun ⟨i, i1, _⟩ => absurd i1 (Nat.not_lt_zero i)⟩, fun q => q.1⟩)
  · rintro r1 _ r2 _ ⟨u, x, hu, hx, rfl⟩ ⟨w, hw, hr⟩
    obtain ⟨hV, hr8, _⟩ := jd_V h hR hAC hu hw
    refine b_ext (fun m hm => ?_)
    have h3 := hr m hm
    have h4 := hx m hm
    rw [b_and, b_not hm]
    have hiff : (∃ i, i < 125 ∧ hoR w i (w.1 151 18).toInt = some m) ↔ (∃ i, i < 125 ∧ hoC u i (u.1 8 2).toInt = some m) := by
      rw [hr8]
      constructor
      · rintro ⟨i, i1, i2⟩
        exact ⟨i, i1, by rw [← jv_ho hV i1]; exact i2⟩
      · rintro ⟨i, i1, i2⟩
        exact ⟨i, i1, by rw [jv_ho hV i1]; exact i2⟩
    rw [hiff, ← h4, ← hV.1.1] at h3
    cases hb : bt (((1 : Int32) <<< ((u.1 8 1) &&& 31)) - (1 : Int32)) m with
    | false =>
      rw [Bool.false_and]
      cases hy : bt r2 m with
      | false => rfl
      | true => have := (h3.mp hy).1; rw [hb] at this; cases this
    | true =>
      rw [Bool.true_and]
      cases hz : bt x m with
      | true =>
        cases hy : bt r2 m with
        | false => rfl
        | true => exact absurd hz (h3.mp hy).2
      | false =>
        exact (h3.mpr ⟨hb, fun z => by rw [hz] at z; cases z⟩).symm
