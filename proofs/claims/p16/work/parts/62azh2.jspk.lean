/-! the reference: in which cases each law speaks -/
def e_mnM (t : vS) (w : Nat) : Int32 := if (t.1 163 w).toInt < 0 then Int32.ofNat w else if (t.1 151 19).toInt < (t.1 164 w).toInt then Int32.ofNat w else t.1 163 w
theorem y_mnM {b : Int32} {w : Nat} (hb : b.toInt = w) (hw : w < 3) (s : vS) : f_Md_meaning b s = some (e_mnM s w, s) := by
  have e : b.toNatClampNeg = w := by rw [v_nc]; omega
  have e2 : Int32.ofNat w = b := Int32.toInt_inj.mp (by rw [v_oi (by omega)]; exact hb.symm)
  have hi : v_in b 3 := ⟨by omega, by omega⟩
  unfold f_Md_meaning e_mnM
  rw [if_pos hi, e, e2]
  by_cases h : (s.1 163 w).toInt < 0
  · rw [if_pos h, if_pos h]
  · rw [if_neg h, if_neg h, if_pos hi]
    by_cases h2 : (s.1 151 19).toInt < (s.1 164 w).toInt
    · rw [if_pos h2, if_pos h2]
    · rw [if_neg h2, if_neg h2, if_pos hi]
theorem y_wordInM (b c : Int32) (s : vS) : f_Md_wordIn b c s = some (e_dig b c, s) := by
  unfold f_Md_wordIn e_dig
  by_cases h0 : c.toInt = 0
  · rw [if_pos h0, if_pos h0]
  · rw [if_neg h0, if_neg h0]
    by_cases h1 : c.toInt = 1
    · rw [if_pos h1, if_pos h1]
    · rw [if_neg h1, if_neg h1]
theorem y_dsL {b c : Int32} {k : vS → Option (Int32 × vS)} {Q : Int32 → vS → Prop} {s0 : vS} (hk : ∀ t, (∀ a j, ¬ a = 158 → t.1 a j = s0.1 a j) → t.2 = s0.2 → (∀ w, w < 3 → t.1 158 w = e_dig c (e_mnM s0 w)) → v_P (k t) Q) : ∀ (n : Nat) (v : Int32) (s : vS), 0 ≤ v.toInt → v.toInt ≤ 3 → (∀ a j, ¬ a = 158 → s.1 a j = s0.1 a j) → s.2 = s0.2 → (∀ w : Nat, (w : Int) < v.toInt → s.1 158 w = e_dig c (e_mnM s0 w)) → v_P (f_Md_doesSpeak_L2 b c k n v s) Q
  | 0, _, _, _, _, _, _, _ => v_Pnone
  | n + 1, v, s, h0, h3, hE, h2, hv => by
    show v_P (f_Md_doesSpeak_L2b b c k (f_Md_doesSpeak_L2 b c k n) v s) Q
    unfold f_Md_doesSpeak_L2b
    by_cases c3 : 3 ≤ v.toInt
    · rw [if_pos c3]
      exact hk s hE h2 (fun w hw => hv w (by omega))
    · rw [if_neg c3]
      obtain ⟨w, hw⟩ : ∃ w : Nat, v.toInt = w := ⟨v.toInt.toNat, by omega⟩
      have e1 := v_inc (x := v) (by omega)
      have en : v.toNatClampNeg = w := by rw [v_nc]; omega
      have em : e_mnM s w = e_mnM s0 w := by
        unfold e_mnM
        rw [hE 163 w (by decide), hE 164 w (by decide), hE 151 19 (by decide)]
      rw [y_mnM hw (by omega), v_bi_some, y_wordInM, v_bi_some, if_pos (show v_in v 6 from ⟨by omega, by omega⟩), en, em]
      refine v_Plw (fun t t2 tw tE => ?_)
      refine y_dsL hk n (v + 1) t (by omega) (by omega) (fun a j z => (tE a j (fun y => z y.1)).trans (hE a j z)) (t2.trans h2) (fun x hx => ?_)
      by_cases hxw : x = w
      · rw [hxw]; exact tw
      · rw [tE 158 x (fun y => hxw y.2)]; exact hv x (by omega)
/-- the cells that the working out of texts touches -/
def e_E89 (s t : vS) : Prop := (∀ a j, ¬ (a = 158 ∨ a = 159) → t.1 a j = s.1 a j) ∧ t.2 = s.2
theorem e_E89_rf {s : vS} : e_E89 s s := ⟨fun _ _ _ => rfl, rfl⟩
theorem m_textE2 {s t : vS} {p : Nat} {acc : List gL} (h : m_text s p acc) (hE : ∀ a j, 153 ≤ a → a ≤ 157 → t.1 a j = s.1 a j) : m_text t p acc :=
  m_text_eq h (hE 155 p (by decide) (by decide)) (fun j _ _ => ⟨hE 153 j (by decide) (by decide), hE 154 j (by decide) (by decide)⟩) (fun j _ _ => ⟨hE 156 j (by decide) (by decide), hE 157 j (by decide) (by decide)⟩)
theorem y_doesSpeak {s : vS} {b c : Int32} {p i : Nat} {acc : List gL} (hb : b.toInt = p) (hp : p ≤ 10) (hc : c = Int32.ofNat i) (h : m_text s p acc) (htk : g_tok acc) : v_P (f_Md_doesSpeak b c s) (fun r t => r = (if nzB (e_mnM s 0) (e_mnM s 1) (e_mnM s 2) (s.1 160 p) (s.1 151 19) b acc i = true then 1 else 0) ∧ e_E89 s t) := by
  have en : b.toNatClampNeg = p := by rw [v_nc]; omega
  unfold f_Md_doesSpeak
  refine y_dsL (s0 := s) (fun u uE u2 uw => ?_) 4096 0 s (by decide) (by decide) (fun _ _ _ => rfl) rfl (fun w hw => absurd hw (by show ¬ (w : Int) < 0; omega))
  rw [if_pos (show v_in b 11 from ⟨by omega, by omega⟩), en, uE 160 p (by decide)]
  refine v_Plw (fun s1 z1 g1 f1 => ?_)
  rw [f1 151 19 (by decide), uE 151 19 (by decide)]
  refine v_Plw (fun s2 z2 g2 f2 => ?_)
  refine v_Plw (fun s3 z3 g3 f3 => ?_)
  have hE3 : ∀ a j, ¬ a = 158 → s3.1 a j = s.1 a j := fun a j q => by rw [f3 a j (fun z => q z.1), f2 a j (fun z => q z.1), f1 a j (fun z => q z.1), uE a j q]
  have h32 : s3.2 = s.2 := by rw [z3, z2, z1, u2]
  have hfc : ∀ j, j < 6 → s3.1 158 j = e_fc (e_mnM s 0) (e_mnM s 1) (e_mnM s 2) (s.1 160 p) (s.1 151 19) b c j := fun j hj => by
    match j, hj with
    | 0, _ => exact (f3 158 0 (by decide)).trans ((f2 158 0 (by decide)).trans ((f1 158 0 (by decide)).trans (uw 0 (by decide))))
    | 1, _ => exact (f3 158 1 (by decide)).trans ((f2 158 1 (by decide)).trans ((f1 158 1 (by decide)).trans (uw 1 (by decide))))
    | 2, _ => exact (f3 158 2 (by decide)).trans ((f2 158 2 (by decide)).trans ((f1 158 2 (by decide)).trans (uw 2 (by decide))))
    | 3, _ => exact (f3 158 3 (by decide)).trans ((f2 158 3 (by decide)).trans g1)
    | 4, _ => exact (f3 158 4 (by decide)).trans g2
    | 5, _ => exact g3
    | j + 6, hj => omega
  refine v_Pbi (y_gives hfc hb hp (m_textE2 h (fun a j h1 h2 => hE3 a j (by omega))) htk) ?_
  rintro r t ⟨hr, hE, h2⟩
  have hEt : e_E89 s t := ⟨fun a j q => (hE a j (fun z => q (Or.inr z))).trans (hE3 a j (fun z => q (Or.inl z))), h2.trans h32⟩
  have hnz : nzB (e_mnM s 0) (e_mnM s 1) (e_mnM s 2) (s.1 160 p) (s.1 151 19) b acc i = decide (¬ r.toInt = 0) := by
    unfold nzB
    rw [hr, hc]
  rw [hnz]
  by_cases hz : r.toInt = 0
  · rw [if_pos hz]
    exact v_Pret ⟨by rw [decide_eq_false (fun q => q hz)]; rfl, hEt⟩
  · rw [if_neg hz]
    exact v_Pret ⟨by rw [decide_eq_true hz]; rfl, hEt⟩
/-- which cells the finding of who speaks touches -/
def e_E4 (s t : vS) : Prop := (∀ a j, ¬ (a = 158 ∨ a = 159 ∨ a = 171 ∨ a = 172) → t.1 a j = s.1 a j) ∧ t.2 = s.2
theorem e_E4_rf {s : vS} : e_E4 s s := ⟨fun _ _ _ => rfl, rfl⟩
theorem e_E4_tr {s t u : vS} (h1 : e_E4 s t) (h2 : e_E4 t u) : e_E4 s u := ⟨fun a j q => (h2.1 a j q).trans (h1.1 a j q), h2.2.trans h1.2⟩
def spM (s : vS) (p : Nat) (acc : List gL) : Nat → Bool := nzB (e_mnM s 0) (e_mnM s 1) (e_mnM s 2) (s.1 160 p) (s.1 151 19) (Int32.ofNat p) acc
theorem e_mnM_E {s t : vS} (hE : ∀ a j, ¬ (a = 158 ∨ a = 159 ∨ a = 171 ∨ a = 172) → t.1 a j = s.1 a j) (w : Nat) : e_mnM t w = e_mnM s w := by
  unfold e_mnM
  rw [hE 163 w (by decide), hE 164 w (by decide), hE 151 19 (by decide)]
theorem spM_E {s t : vS} (h : e_E4 s t) (p : Nat) (acc : List gL) : spM t p acc = spM s p acc := by
  unfold spM
  rw [e_mnM_E h.1, e_mnM_E h.1, e_mnM_E h.1, h.1 160 p (by decide), h.1 151 19 (by decide)]
/-- who speaks where, as the reference keeps it -/
def hvM (t : vS) (p : Nat) (g : Nat → Bool) : Prop := (∀ i, i < 125 → t.1 171 (125 * p + i) = if g i = true then 1 else 0) ∧ t.1 172 p = Int32.ofNat (cnt g 125)
theorem y_fpI {s0 : vS} {b : Int32} {p : Nat} {acc : List gL} (hb : b.toInt = p) (hp : p ≤ 9) (h : m_text s0 p acc) (htk : g_tok acc) {G : Nat → Bool} (hG : spM s0 p acc = G) {k : vS → Option (Unit × vS)} {Q : Unit → vS → Prop} (hk : ∀ t, e_E4 s0 t → (∀ q, ¬ q = p → (∀ i, i < 125 → t.1 171 (125 * q + i) = s0.1 171 (125 * q + i)) ∧ t.1 172 q = s0.1 172 q) → hvM t p G → v_P (k t) Q) : ∀ (n : Nat) (v : Int32) (s : vS), 0 ≤ v.toInt → v.toInt ≤ 125 → e_E4 s0 s → (∀ q, ¬ q = p → (∀ i, i < 125 → s.1 171 (125 * q + i) = s0.1 171 (125 * q + i)) ∧ s.1 172 q = s0.1 172 q) → (∀ i : Nat, (i : Int) < v.toInt → s.1 171 (125 * p + i) = if G i = true then 1 else 0) → s.1 172 p = Int32.ofNat (cnt G v.toInt.toNat) → v_P (f_Md_findSpeaks_L19 b k n v s) Q
  | 0, _, _, _, _, _, _, _, _ => v_Pnone
  | n + 1, v, s, h0, h1, hE, hO, hv, hc => by
    show v_P (f_Md_findSpeaks_L19b b k (f_Md_findSpeaks_L19 b k n) v s) Q
    unfold f_Md_findSpeaks_L19b
    by_cases c : 125 ≤ v.toInt
    · rw [if_pos c]
      have e : v.toInt.toNat = 125 := by omega
      rw [e] at hc
      exact hk s hE hO ⟨fun i hi => hv i (by omega), hc⟩
    · rw [if_neg c]
      obtain ⟨i, hi⟩ : ∃ i : Nat, v.toInt = i := ⟨v.toInt.toNat, by omega⟩
      have e1 := v_inc (x := v) (by omega)
      have hvo : v = Int32.ofNat i := by rw [v_of h0, hi]; rfl
      have hbo : b = Int32.ofNat p := by rw [v_of (x := b) (by omega), hb]; rfl
      have e125 := m_125 (b := b) (v := v) ⟨by omega, by omega⟩ ⟨by omega, by omega⟩
      have hin : v_in ((125 : Int32) * b + v) 1375 := ⟨by omega, by omega⟩
      have hnc : ((125 : Int32) * b + v).toNatClampNeg = 125 * p + i := by rw [v_nc]; omega
      have hbn : b.toNatClampNeg = p := by rw [v_nc]; omega
      have hb1 : v_in b 11 := ⟨by omega, by omega⟩
      have hD := y_doesSpeak (s := s) (b := b) (c := v) (i := i) hb (by omega) hvo (m_textE2 h (fun a j q1 q2 => hE.1 a j (by omega))) htk
      have hsp : nzB (e_mnM s 0) (e_mnM s 1) (e_mnM s 2) (s.1 160 p) (s.1 151 19) b acc i = G i := by
        rw [hbo, ← hG]
        exact congrFun (spM_E hE p acc) i
      rw [hsp] at hD
      refine v_Pbi hD ?_
      rintro r t ⟨hr, tE, t2⟩
      rw [if_pos hin, hnc]
      have hnar : vp_nar .boolean r = r := by
        refine v_bool ?_
        rw [hr]
        by_cases z : G i = true
        · rw [if_pos z]; exact Or.inr rfl
        · rw [if_neg z]; exact Or.inl rfl
      rw [hnar]
      refine v_Plw (fun u u2 uw uE => ?_)
      rw [if_pos hin, uw]
      have f : ∀ a j, ¬ (a = 158 ∨ a = 159 ∨ (a = 171 ∧ j = 125 * p + i)) → u.1 a j = s.1 a j := fun a j q => (uE a j (fun z => q (Or.inr (Or.inr z)))).trans (tE a j (fun z => q (z.elim Or.inl (fun y => Or.inr (Or.inl y)))))
      have fE : e_E4 s0 u := ⟨fun a j q => (f a j (fun z => q (by omega))).trans (hE.1 a j q), (u2.trans t2).trans hE.2⟩
      have fO : ∀ q, ¬ q = p → (∀ i, i < 125 → u.1 171 (125 * q + i) = s0.1 171 (125 * q + i)) ∧ u.1 172 q = s0.1 172 q := fun q hq => ⟨fun i2 hi2 => (f _ _ (by omega)).trans ((hO q hq).1 i2 hi2), (f _ _ (by omega)).trans (hO q hq).2⟩
      have fv : ∀ x : Nat, (x : Int) < (v + 1).toInt → u.1 171 (125 * p + x) = if G x = true then 1 else 0 := fun x hx => by
        by_cases hxi : x = i
        · rw [hxi, uw, hr]
        · rw [f _ _ (by omega)]
          exact hv x (by omega)
      have hn1 : (v + 1).toInt.toNat = i + 1 := by omega
      have hn0 : v.toInt.toNat = i := by omega
      rw [hn0] at hc
      have hu172 : u.1 172 p = Int32.ofNat (cnt G i) := (f _ _ (by omega)).trans hc
      by_cases hz : G i = true
      · have hr1 : r = 1 := by rw [hr, if_pos hz]
        rw [hr1, if_neg (by decide), if_pos hb1, if_pos hb1, hbn]
        refine v_Plw (fun w w2 ww wE => ?_)
        refine y_fpI hb hp h htk hG hk n (v + 1) w (by omega) (by omega) ⟨fun a j q => (wE a j (fun z => q (by omega))).trans (fE.1 a j q), w2.trans fE.2⟩ (fun q hq => ⟨fun i2 hi2 => (wE _ _ (by omega)).trans ((fO q hq).1 i2 hi2), (wE _ _ (by omega)).trans (fO q hq).2⟩) (fun x hx => (wE _ _ (by omega)).trans (fv x hx)) ?_
        rw [ww, hu172, hn1, v_on1]
        show Int32.ofNat (cnt G i + 1) = Int32.ofNat (cnt G i + (if G i = true then 1 else 0))
        rw [if_pos hz]
      · have hr0 : r = 0 := by rw [hr, if_neg hz]
        rw [hr0, if_pos (by decide)]
        refine y_fpI hb hp h htk hG hk n (v + 1) u (by omega) (by omega) fE fO fv ?_
        rw [hu172, hn1]
        show Int32.ofNat (cnt G i) = Int32.ofNat (cnt G i + (if G i = true then 1 else 0))
        rw [if_neg hz]
        rfl
theorem y_fpO {s0 : vS} (hm : 0 ≤ (s0.1 151 14).toInt ∧ (s0.1 151 14).toInt ≤ 10) {AC : Nat → List gL} (hAC : ∀ q : Nat, (q : Int) < (s0.1 151 14).toInt → m_text s0 q (AC q) ∧ g_tok (AC q)) {k : vS → Option (Unit × vS)} {Q : Unit → vS → Prop} (hk : ∀ t, e_E4 s0 t → (∀ q : Nat, (q : Int) < (s0.1 151 14).toInt → hvM t q (spM s0 q (AC q))) → v_P (k t) Q) : ∀ (n : Nat) (v : Int32) (s : vS), 0 ≤ v.toInt → v.toInt ≤ (s0.1 151 14).toInt → e_E4 s0 s → (∀ q : Nat, (q : Int) < v.toInt → hvM s q (spM s0 q (AC q))) → v_P (f_Md_findSpeaks_L2 k n v s) Q
  | 0, _, _, _, _, _, _ => v_Pnone
  | n + 1, v, s, h0, h1, hE, hv => by
    show v_P (f_Md_findSpeaks_L2b k (f_Md_findSpeaks_L2 k n) v s) Q
    unfold f_Md_findSpeaks_L2b
    have e14 : s.1 151 14 = s0.1 151 14 := hE.1 _ _ (by decide)
    rw [e14]
    by_cases c : (s0.1 151 14).toInt ≤ v.toInt
    · rw [if_pos c]
      exact hk s hE (fun q hq => hv q (by omega))
    · rw [if_neg c]
      obtain ⟨p, hp⟩ : ∃ p : Nat, v.toInt = p := ⟨v.toInt.toNat, by omega⟩
      have e1 := v_inc (x := v) (by omega)
      have hvn : v.toNatClampNeg = p := by rw [v_nc]; omega
      rw [if_pos (show v_in v 11 from ⟨by omega, by omega⟩), hvn]
      refine v_Plw (fun u u2 uw uE => ?_)
      have fE : e_E4 s0 u := ⟨fun a j q => (uE a j (fun z => q (by omega))).trans (hE.1 a j q), u2.trans hE.2⟩
      obtain ⟨a1, a2⟩ := hAC p (by omega)
      refine y_fpI (s0 := u) (p := p) hp (by omega) (m_textE2 a1 (fun a j q1 q2 => fE.1 a j (by omega))) a2 (spM_E fE p (AC p)) (fun t tE tO tV => ?_) 4096 0 u (by decide) (by decide) e_E4_rf (fun q _ => ⟨fun _ _ => rfl, rfl⟩) (fun x hx => absurd hx (by show ¬ (x : Int) < 0; omega)) (by rw [uw]; rfl)
      refine y_fpO hm hAC hk n (v + 1) t (by omega) (by omega) (e_E4_tr fE tE) (fun q hq => ?_)
      by_cases hqp : q = p
      · rw [hqp]; exact tV
      · obtain ⟨b1, b2⟩ := tO q hqp
        obtain ⟨c1, c2⟩ := hv q (by omega)
        exact ⟨fun i hi => (b1 i hi).trans ((uE _ _ (by omega)).trans (c1 i hi)), b2.trans ((uE _ _ (by omega)).trans c2)⟩
theorem y_findSpeaks (s : vS) (hm : 0 ≤ (s.1 151 14).toInt ∧ (s.1 151 14).toInt ≤ 10) {AC : Nat → List gL} (hAC : ∀ q : Nat, (q : Int) < (s.1 151 14).toInt → m_text s q (AC q) ∧ g_tok (AC q)) : v_P (f_Md_findSpeaks s) (fun _ t => e_E4 s t ∧ ∀ q : Nat, (q : Int) < (s.1 151 14).toInt → hvM t q (spM s q (AC q))) := by
  unfold f_Md_findSpeaks
  exact y_fpO hm hAC (fun t h1 h2 => v_Pret ⟨h1, h2⟩) 4096 0 s (by decide) hm.1 e_E4_rf (fun q hq => absurd hq (by show ¬ (q : Int) < 0; omega))
