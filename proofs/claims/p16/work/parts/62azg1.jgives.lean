/-! the reference works a text out -/
abbrev fM (t : vS) : Nat → Int32 := t.1 158
theorem y_wkL {F : Nat → Int32} {p1 p3 : Int32} {s0 : vS} {k : vS → Option (Int32 × vS)} {Q : Int32 → vS → Prop} {R : Int32} (hk : ∀ t, (∀ a j, ¬ a = 159 → t.1 a j = s0.1 a j) → t.2 = s0.2 → t.1 159 0 = R → v_P (k t) Q) (hF : ∀ j, j < 6 → s0.1 158 j = F j) : ∀ (l : List (Int32 × Int32)) (n : Nat) (v w : Int32) (s : vS) (p : List Int32), 0 ≤ w.toInt → w.toInt + l.length = ((130 : Int32) * p1 + p3).toInt → w.toInt + l.length ≤ 1430 → g_row (m_pr2 s) w.toInt.toNat l → v.toInt = p.length → p.length + l.length ≤ 130 → r_run l p.length = some 1 → t_al l → e_pl (s.1 159) p → (e_rn F l p).headD 0 = R → (∀ a j, ¬ a = 159 → s.1 a j = s0.1 a j) → s.2 = s0.2 → v_P (f_Md_worked_L12 p1 p3 k n v w s) Q
  | _, 0, _, _, _, _, _, _, _, _, _, _, _, _, _, _, _, _ => v_Pnone
  | [], n + 1, v, w, s, p, hw, he, hm, hrow, hv, hd, hrun, htk, hp, hR, hE, h2 => by
    show v_P (f_Md_worked_L12b p1 p3 k (f_Md_worked_L12 p1 p3 k n) v w s) Q
    unfold f_Md_worked_L12b
    rw [if_pos (by have : w.toInt + ((0 : Nat) : Int) = _ := he; omega)]
    have hl : p.length = 1 := Option.some.inj hrun
    refine hk s hE h2 ?_
    cases p with
    | nil => cases hl
    | cons a r =>
      have hr : r.length = 0 := Nat.succ.inj hl
      have h3 := e_pl_top hp
      rw [hr] at h3
      rw [h3]
      exact hR
  | q :: l, n + 1, v, w, s, p, hw, he, hm, hrow, hv, hd, hrun, htk, hp, hR, hE, h2 => by
    rw [List.length_cons] at he hm hd
    show v_P (f_Md_worked_L12b p1 p3 k (f_Md_worked_L12 p1 p3 k n) v w s) Q
    have hwn : w.toNatClampNeg = w.toInt.toNat := rfl
    have hq0 := hrow 0 q rfl
    have hx1 : s.1 153 w.toNatClampNeg = q.1 := congrArg (fun z => z.1) hq0
    have hx2 : s.1 154 w.toNatClampNeg = q.2 := congrArg (fun z => z.2) hq0
    have hrun2 : (r_st q p.length).bind (fun e => r_run l e) = some 1 := hrun
    have hw1 : (w + 1).toInt = w.toInt + 1 := v_inc (by omega)
    have hwn1 : (w + 1).toInt.toNat = w.toInt.toNat + 1 := by omega
    have hv1 : (v + 1).toInt = v.toInt + 1 := v_inc (by omega)
    have htl : t_al l := fun x hx => htk x (List.mem_cons_of_mem q hx)
    have htq : t_ok q := htk q List.mem_cons_self
    obtain ⟨d, hd1, hd2⟩ : ∃ d, r_st q p.length = some d ∧ r_run l d = some 1 := by
      cases hz : r_st q p.length with
      | none => rw [hz] at hrun2; cases hrun2
      | some d => rw [hz] at hrun2; exact ⟨d, rfl, hrun2⟩
    have hlen : (e_tk F q p).length = d := e_tk_len hd1
    have hgo : ∀ (u : Int32) (t : vS), (∀ a j, ¬ a = 159 → t.1 a j = s.1 a j) → t.2 = s.2 → u.toInt = (e_tk F q p).length → (e_tk F q p).length ≤ p.length + 1 → e_pl (t.1 159) (e_tk F q p) → v_P (f_Md_worked_L12 p1 p3 k n u (w + 1) t) Q := fun u t tE t2 hu hul hpl => by
      refine y_wkL hk hF l n u (w + 1) t (e_tk F q p) (by omega) (by omega) (by omega) ?_ hu (by omega) (by rw [hlen]; exact hd2) htl hpl hR (fun a j z => (tE a j z).trans (hE a j z)) (t2.trans h2)
      rw [hwn1]
      intro j x hj
      have h1 := hrow (j + 1) x hj
      unfold m_pr2 at h1 ⊢
      rw [tE 153 _ (by decide), tE 154 _ (by decide), show w.toInt.toNat + 1 + j = w.toInt.toNat + (j + 1) by omega]
      exact h1
    have hwr : ∀ (i : Nat) (x : Int32), (∀ a j, ¬ a = 159 → (v_w1 s 159 i x).1 a j = s.1 a j) ∧ (v_w1 s 159 i x).1 159 i = x ∧ ∀ j, ¬ j = i → (v_w1 s 159 i x).1 159 j = s.1 159 j := fun i x => ⟨fun a j z => v_w1_1.trans (if_neg (fun y => z y.1)), v_w1_1.trans (if_pos ⟨rfl, rfl⟩), fun j z => v_w1_1.trans (if_neg (fun y => z y.2))⟩
    unfold f_Md_worked_L12b
    rw [if_neg (by omega), hx1, hx2]
    refine v_Pif (fun _ => ?_) (fun _ => v_Pnone)
    by_cases c1 : q.1.toInt = 1
    · have et : e_tk F q p = q.2 :: p := if_pos c1
      rw [if_pos c1, if_pos c1]
      refine v_Pif (fun _ => v_Pif (fun _ => v_Plet ?_) (fun _ => v_Pnone)) (fun _ => v_Pnone)
      obtain ⟨g1, g2, g3⟩ := hwr v.toNatClampNeg q.2
      have hvn : v.toNatClampNeg = p.length := by rw [v_nc]; omega
      rw [hvn] at g1 g2 g3 ⊢
      refine hgo _ _ g1 rfl (by rw [et]; show _ = ((p.length + 1 : Nat) : Int); omega) (by rw [et]; show p.length + 1 ≤ _; omega) (by rw [et]; exact e_pl_push hp g2 (fun j hj => g3 j (by omega)))
    · rw [if_neg c1]
      by_cases c2 : q.1.toInt = 2
      · have et : e_tk F q p = F q.2.toInt.toNat :: p := by unfold e_tk; rw [if_neg c1, if_pos c2]
        rw [if_pos c2, if_neg c1]
        refine v_Pif (fun _ => v_Pif (fun h6 => v_Pif (fun _ => v_Plet ?_) (fun _ => v_Pnone)) (fun _ => v_Pnone)) (fun _ => v_Pnone)
        have e6 : s.1 158 q.2.toNatClampNeg = F q.2.toInt.toNat := by rw [hE 158 _ (by decide), v_nc]; exact hF _ (by have := h6.2; have := h6.1; omega)
        rw [e6]
        obtain ⟨g1, g2, g3⟩ := hwr v.toNatClampNeg (F q.2.toInt.toNat)
        have hvn : v.toNatClampNeg = p.length := by rw [v_nc]; omega
        rw [hvn] at g1 g2 g3 ⊢
        refine hgo _ _ g1 rfl (by rw [et]; show _ = ((p.length + 1 : Nat) : Int); omega) (by rw [et]; show p.length + 1 ≤ _; omega) (by rw [et]; exact e_pl_push hp g2 (fun j hj => g3 j (by omega)))
      · rw [if_neg c2]
        have em1 : (v - (1 : Int32)).toInt = v.toInt - 1 := v_sub (y := 1) (show -2147483648 ≤ v.toInt - 1 by omega) (show v.toInt - 1 < 2147483648 by omega)
        have em2 : (v + (-1)).toInt = v.toInt - 1 := v_dec (by omega)
        generalize hv2 : v + (-1) = v2 at em2 ⊢
        have em3 : (v2 - (1 : Int32)).toInt = v.toInt - 2 := by
          rw [v_sub (y := 1) (show -2147483648 ≤ v2.toInt - 1 by omega) (show v2.toInt - 1 < 2147483648 by omega), em2]
          show v.toInt - 1 - 1 = v.toInt - 2
          omega
        generalize hv3 : v2 - (1 : Int32) = v3 at em3 ⊢
        generalize hv4 : v - (1 : Int32) = v4 at em1 ⊢
        unfold r_st at hd1
        rw [if_neg c1, if_neg c2] at hd1
        by_cases c3 : q.1.toInt = 3
        · rw [if_pos c3]
          rw [if_pos (Or.inl c3)] at hd1
          cases p with
          | nil => cases hd1
          | cons a r =>
            have hv5 : v.toInt = ((r.length + 1 : Nat) : Int) := hv
            have et : e_tk F q (a :: r) = (if a.toInt = 0 then 1 else 0) :: r := by unfold e_tk; rw [if_neg c1, if_neg c2, if_pos c3]
            have hn4 : v4.toNatClampNeg = r.length := by rw [v_nc]; omega
            have ha : s.1 159 r.length = a := e_pl_top hp
            refine v_Pif (fun _ => ?_) (fun _ => v_Pnone)
            rw [hn4, ha]
            by_cases hz : a.toInt = 0
            · rw [if_pos hz]
              refine v_Pif (fun _ => v_Plet ?_) (fun _ => v_Pnone)
              obtain ⟨g1, g2, g3⟩ := hwr r.length 1
              exact hgo _ _ g1 rfl (by rw [et]; exact hv5) (by rw [et]; show r.length + 1 ≤ r.length + 1 + 1; omega) (by rw [et, if_pos hz]; exact e_pl_push (e_pl_tl hp) g2 (fun j hj => g3 j (by omega)))
            · rw [if_neg hz]
              refine v_Pif (fun _ => v_Plet ?_) (fun _ => v_Pnone)
              obtain ⟨g1, g2, g3⟩ := hwr r.length 0
              exact hgo _ _ g1 rfl (by rw [et]; exact hv5) (by rw [et]; show r.length + 1 ≤ r.length + 1 + 1; omega) (by rw [et, if_neg hz]; exact e_pl_push (e_pl_tl hp) g2 (fun j hj => g3 j (by omega)))
        · rw [if_neg c3]
          by_cases c4 : q.1.toInt = 4
          · rw [if_pos c4]
            rw [if_pos (Or.inr c4)] at hd1
            cases p with
            | nil => cases hd1
            | cons a r =>
              have hv5 : v.toInt = ((r.length + 1 : Nat) : Int) := hv
              have et : e_tk F q (a :: r) = (-a) :: r := by unfold e_tk; rw [if_neg c1, if_neg c2, if_neg c3, if_pos c4]
              have hn4 : v4.toNatClampNeg = r.length := by rw [v_nc]; omega
              have ha : s.1 159 r.length = a := e_pl_top hp
              refine v_Pif (fun _ => v_Pif (fun _ => v_Plet ?_) (fun _ => v_Pnone)) (fun _ => v_Pnone)
              rw [hn4, ha]
              obtain ⟨g1, g2, g3⟩ := hwr r.length (-a)
              exact hgo _ _ g1 rfl (by rw [et]; exact hv5) (by rw [et]; show r.length + 1 ≤ r.length + 1 + 1; omega) (by rw [et]; exact e_pl_push (e_pl_tl hp) g2 (fun j hj => g3 j (by omega)))
          · rw [if_neg c4]
            rw [if_neg (by omega)] at hd1
            cases p with
            | nil => rw [if_neg (fun z => absurd z.1 (by show ¬ 2 ≤ 0; omega))] at hd1; cases hd1
            | cons b r =>
              cases r with
              | nil => rw [if_neg (fun z => absurd z.1 (by show ¬ 2 ≤ 1; omega))] at hd1; cases hd1
              | cons a r =>
                have hv5 : v.toInt = ((r.length + 1 + 1 : Nat) : Int) := hv
                have et : e_tk F q (b :: a :: r) = e_two q.1 a b :: r := by unfold e_tk; rw [if_neg c1, if_neg c2, if_neg c3, if_neg c4]
                have hn2 : v2.toNatClampNeg = r.length + 1 := by rw [v_nc]; omega
                have hn3 : v3.toNatClampNeg = r.length := by rw [v_nc]; omega
                have hb : s.1 159 (r.length + 1) = b := e_pl_top hp
                have ha : s.1 159 r.length = a := e_pl_top (e_pl_tl hp)
                refine v_Pif (fun _ => v_Pif (fun _ => ?_) (fun _ => v_Pnone)) (fun _ => v_Pnone)
                rw [hn2, hn3, ha, hb]
                refine v_Pbi (y_twoOf q.1 a b s ⟨?_, ?_⟩) ?_
                · unfold t_ok at htq ⊢
                  exact htq
                · unfold t_ok at htq
                  omega
                · rintro x t ⟨rfl, rfl⟩
                  refine v_Pif (fun _ => v_Plet ?_) (fun _ => v_Pnone)
                  obtain ⟨g1, g2, g3⟩ := hwr r.length (e_two q.1 a b)
                  exact hgo _ _ g1 rfl (by rw [et]; show _ = ((r.length + 1 : Nat) : Int); omega) (by rw [et]; show r.length + 1 ≤ r.length + 1 + 1 + 1; omega) (by rw [et]; exact e_pl_push (e_pl_tl (e_pl_tl hp)) g2 (fun j hj => g3 j (by omega)))
def e_E9 (s t : vS) : Prop := (∀ a j, ¬ a = 159 → t.1 a j = s.1 a j) ∧ t.2 = s.2
theorem y_worked {F : Nat → Int32} {s : vS} (hF : ∀ j, j < 6 → s.1 158 j = F j) {b c d : Int32} {p x : Nat} {l : List (Int32 × Int32)} (hb : b.toInt = p) (hp : p ≤ 10) (hc : c.toInt = x) (hd : d.toInt = (x : Int) + l.length) (hx : x + l.length ≤ 130) (hrow : g_row (m_pr2 s) (130 * p + x) l) (hrun : r_run l 0 = some 1) (htk : t_al l) : v_P (f_Md_worked b c d s) (fun r t => r = e_top F l ∧ e_E9 s t) := by
  have e1 := m_130 (v := c) hb hp ⟨by omega, by omega⟩
  have e2 := m_130 (v := d) hb hp ⟨by omega, by omega⟩
  unfold f_Md_worked
  refine y_wkL (F := F) (s0 := s) (R := e_top F l) (fun t tE t2 t0 => v_Pret ⟨t0, tE, t2⟩) hF l 4096 0 _ s [] (by omega) (by omega) (by omega) ?_ rfl (by show 0 + l.length ≤ 130; omega) hrun htk e_pl_nil rfl (fun _ _ _ => rfl) rfl
  rw [e1, show (130 * (p : Int) + c.toInt).toNat = 130 * p + x by omega]
  exact hrow
theorem y_givesL {F : Nat → Int32} {s0 : vS} (hF : ∀ j, j < 6 → s0.1 158 j = F j) {b : Int32} {p : Nat} (hb : b.toInt = p) (hp : p ≤ 10) : ∀ (r : List gL) (n : Nat) (v w : Int32) (s : vS) (x q : Nat), (s0.1 155 p).toInt = (q : Int) + r.length → q + r.length ≤ 61 → v.toInt = x → w.toInt = 61 * (p : Int) + q → x + (m_cat r).length ≤ 130 → g_row (m_pr2 s0) (130 * p + x) (m_cat r) → g_row (m_ends s0) (61 * p + q) (m_en x r) → (∀ ln, ln ∈ r → g_wl ln) → g_tok r → e_E9 s0 s → v_P (f_Md_gives_L7 b (fun w1 s2 => (if v_in w1 671 then (if v_in w1 671 then (v_bi (f_Md_worked b (s2.1 156 (Int32.toNatClampNeg w1)) (s2.1 157 (Int32.toNatClampNeg w1)) s2) (fun r6 s6 => (some (r6, s6)))) else none) else none)) (fun s3 => (some (0, s3))) n v w s) (fun y t => y = e_tx F r ∧ e_E9 s0 t)
  | _, 0, _, _, _, _, _, _, _, _, _, _, _, _, _, _, _ => v_Pnone
  | [], n + 1, v, w, s, x, q, hm, hq, hv, hw, _, _, _, _, _, h0 => by
    have hbn : b.toNatClampNeg = p := by rw [v_nc]; omega
    have e1 := m_61 (v := s0.1 155 p) hb hp ⟨by omega, by rw [List.length_nil] at hm hq; omega⟩
    rw [List.length_nil] at hm
    unfold f_Md_gives_L7
    show v_P (f_Md_gives_L7b b _ _ (f_Md_gives_L7 b _ _ n) v w s) _
    unfold f_Md_gives_L7b
    rw [hbn, h0.1 155 p (by decide)]
    refine v_Pif (fun _ => ?_) (fun _ => v_Pnone)
    rw [if_pos (by omega)]
    exact v_Pret ⟨rfl, h0⟩
  | ln :: r, n + 1, v, w, s, x, q, hm, hq, hv, hw, hx, hrow, hend, hwl, htk, h0 => by
    rw [List.length_cons] at hm hq
    have hbn : b.toNatClampNeg = p := by rw [v_nc]; omega
    have e1 := m_61 (v := s0.1 155 p) hb hp ⟨by omega, by omega⟩
    unfold f_Md_gives_L7
    show v_P (f_Md_gives_L7b b _ _ (f_Md_gives_L7 b _ _ n) v w s) _
    unfold f_Md_gives_L7b
    have hwn : w.toNatClampNeg = 61 * p + q := by rw [v_nc]; omega
    have he0 := hend 0 _ rfl
    have hte : (s0.1 156 (61 * p + q)).toInt = (x : Int) + ln.1.length := congrArg (fun z => z.1) he0
    have hle : (s0.1 157 (61 * p + q)).toInt = (x : Int) + ln.1.length + ln.2.length := congrArg (fun z => z.2) he0
    rw [m_cat_cons] at hrow hx
    rw [List.length_append, List.length_append] at hx
    obtain ⟨r1, r2⟩ := g_row_app hrow
    obtain ⟨r3, r4⟩ := g_row_app r2
    obtain ⟨w1, w2⟩ := hwl ln List.mem_cons_self
    obtain ⟨k1, k2⟩ := htk ln List.mem_cons_self
    have hpr : ∀ t, e_E9 s0 t → ∀ j, m_pr2 t j = m_pr2 s0 j := fun t ht j => by
      unfold m_pr2
      rw [ht.1 153 j (by decide), ht.1 154 j (by decide)]
    have hFt : ∀ t, e_E9 s0 t → ∀ j, j < 6 → t.1 158 j = F j := fun t ht j hj => by rw [ht.1 158 j (by decide)]; exact hF j hj
    have htr : ∀ {t u}, e_E9 s0 t → e_E9 t u → e_E9 s0 u := fun h1 h2 => ⟨fun a j z => (h2.1 a j z).trans (h1.1 a j z), h2.2.trans h1.2⟩
    have hlast : ∀ t, e_E9 s0 t → e_tx F (ln :: r) = e_top F ln.2 → v_P (if v_in w 671 then (if v_in w 671 then (v_bi (f_Md_worked b (t.1 156 (Int32.toNatClampNeg w)) (t.1 157 (Int32.toNatClampNeg w)) t) (fun r6 s6 => (some (r6, s6)))) else none) else none) (fun (y : Int32) u => y = e_tx F (ln :: r) ∧ e_E9 s0 u) := by
      intro t ht et
      refine v_Pif (fun _ => v_Pif (fun _ => ?_) (fun _ => v_Pnone)) (fun _ => v_Pnone)
      rw [hwn]
      refine v_Pbi (y_worked (F := F) (hFt t ht) (p := p) (x := x + ln.1.length) (l := ln.2) hb hp ?_ ?_ (by omega) ?_ (w2 0) k2) ?_
      · rw [ht.1 156 _ (by decide), hte]
        omega
      · rw [ht.1 157 _ (by decide), hle]
        omega
      · rw [show 130 * p + (x + ln.1.length) = 130 * p + x + ln.1.length by omega]
        exact g_row_eq r3 (fun j _ _ => hpr t ht j)
      · rintro y u ⟨rfl, hu⟩
        exact v_Pret ⟨et.symm, htr ht hu⟩
    rw [hbn, h0.1 155 p (by decide)]
    refine v_Pif (fun _ => ?_) (fun _ => v_Pnone)
    rw [if_neg (by omega)]
    refine v_Pif (fun _ => ?_) (fun _ => v_Pnone)
    rw [hwn, h0.1 156 _ (by decide)]
    by_cases hne : (s0.1 156 (61 * p + q)).toInt = v.toInt
    · rw [if_pos hne]
      have hl : ln.1 = [] := List.eq_nil_of_length_eq_zero (by omega)
      exact hlast s h0 (if_pos (Or.inl hl))
    · rw [if_neg hne]
      refine v_Pif (fun _ => ?_) (fun _ => v_Pnone)
      have hl1 : ¬ ln.1 = [] := fun z => hne (by rw [hte, hv, z]; show (x : Int) + ((0 : Nat) : Int) = _; omega)
      refine v_Pbi (y_worked (F := F) (hFt s h0) (p := p) (x := x) (l := ln.1) hb hp hv hte (by omega) (g_row_eq r1 (fun j _ _ => hpr s h0 j)) ((w1.resolve_left hl1) 0) k1) ?_
      rintro z t ⟨rfl, ht⟩
      have ht0 := htr h0 ht
      by_cases hz : (e_top F ln.1).toInt = 0
      · rw [if_pos hz]
        refine v_Pif (fun _ => ?_) (fun _ => v_Pnone)
        have hw1 : (w + 1).toInt = w.toInt + 1 := v_inc (by omega)
        have et : e_tx F (ln :: r) = e_tx F r := if_neg (fun q => q.elim hl1 (fun y => y hz))
        rw [et]
        refine y_givesL hF hb hp r n _ (w + 1) t (x + ln.1.length + ln.2.length) (q + 1) (by rw [hm]; omega) (by omega) ?_ (by omega) (by omega) ?_ ?_ (fun y hy => hwl y (List.mem_cons_of_mem _ hy)) (fun y hy => htk y (List.mem_cons_of_mem _ hy)) ht0
        · rw [ht0.1 157 _ (by decide), hle]
          omega
        · rw [show 130 * p + (x + ln.1.length + ln.2.length) = 130 * p + x + ln.1.length + ln.2.length by omega]
          exact r4
        · intro j y hj
          have h1 := hend (j + 1) y hj
          rw [show 61 * p + (q + 1) + j = 61 * p + q + (j + 1) by omega]
          exact h1
      · rw [if_neg hz]
        exact hlast t ht0 (if_pos (Or.inr hz))
theorem y_gives {F : Nat → Int32} {s : vS} (hF : ∀ j, j < 6 → s.1 158 j = F j) {b : Int32} {p : Nat} {acc : List gL} (hb : b.toInt = p) (hp : p ≤ 10) (h : m_text s p acc) (htk : g_tok acc) : v_P (f_Md_gives b s) (fun y t => y = e_tx F acc ∧ e_E9 s t) := by
  obtain ⟨h1, h2, h3, h4, h5, h6⟩ := h
  have e1 : ((61 : Int32) * b).toInt = 61 * b.toInt := i32_mul (x := 61) (show -2 ^ 31 ≤ (61 : Int) * b.toInt by omega) (show (61 : Int) * b.toInt < 2 ^ 31 by omega)
  unfold f_Md_gives
  exact y_givesL hF hb hp acc 4096 0 _ s 0 0 (by rw [h1]; omega) (by omega) (by rfl) (by rw [e1, hb]; omega) (by omega) h4 h5 h6 htk ⟨fun _ _ _ => rfl, rfl⟩
