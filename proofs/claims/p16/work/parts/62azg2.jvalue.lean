/-! the class works a text out -/
theorem g_en_3 (q : Int32 × Int32) (h : q.1.toInt = 3) : g_en q = 20033 := by unfold g_en; rw [if_neg (by omega), if_neg (by omega), if_pos h]
theorem g_en_4 (q : Int32 × Int32) (h : q.1.toInt = 4) : g_en q = 20095 := by unfold g_en; rw [if_neg (by omega), if_neg (by omega), if_neg (by omega), if_pos h]
/-- work: a sign on the stack -/
theorem y_work {F : Nat → Int32} {a : Nat} {q : Int32 × Int32} {s : vS} {p : List Int32} {c : Int32} {d : Nat} (hc : c.toInt = p.length) (hc61 : p.length ≤ 61) (hd : r_st q p.length = some d) (h1 : ¬ q.1.toInt = 1) (h2 : ¬ q.1.toInt = 2) (hq : t_ok q) (hp : e_pl (s.1 (a + 2)) p) : v_P (f_Tx_work a (g_en q - 20000) c s) (fun r t => r.toInt = (e_tk F q p).length ∧ (∀ b j, ¬ b = a + 2 → t.1 b j = s.1 b j) ∧ t.2 = s.2 ∧ e_pl (t.1 (a + 2)) (e_tk F q p)) := by
  have hwr : ∀ (i : Nat) (x : Int32), (∀ b j, ¬ b = a + 2 → (v_w1 s (a + 2) i x).1 b j = s.1 b j) ∧ (v_w1 s (a + 2) i x).1 (a + 2) i = x ∧ ∀ j, ¬ j = i → (v_w1 s (a + 2) i x).1 (a + 2) j = s.1 (a + 2) j := fun i x => ⟨fun b j z => v_w1_1.trans (if_neg (fun y => z y.1)), v_w1_1.trans (if_pos ⟨rfl, rfl⟩), fun j z => v_w1_1.trans (if_neg (fun y => z y.2))⟩
  have ec1 : (c - (1 : Int32)).toInt = c.toInt - 1 := v_sub (y := 1) (show -2147483648 ≤ c.toInt - 1 by omega) (show c.toInt - 1 < 2147483648 by omega)
  have ec2 : (c - (2 : Int32)).toInt = c.toInt - 2 := v_sub (y := 2) (show -2147483648 ≤ c.toInt - 2 by omega) (show c.toInt - 2 < 2147483648 by omega)
  have ec11 : ((c - (1 : Int32)) + 1).toInt = c.toInt := by rw [v_inc (by omega)]; omega
  have ec21 : ((c - (2 : Int32)) + 1).toInt = c.toInt - 1 := by rw [v_inc (by omega)]; omega
  unfold r_st at hd
  rw [if_neg h1, if_neg h2] at hd
  unfold f_Tx_work
  generalize c - (1 : Int32) = c1 at ec1 ec11 ⊢
  generalize c - (2 : Int32) = c2 at ec2 ec21 ⊢
  by_cases c3 : q.1.toInt = 3
  · rw [g_en_3 q c3, show (20033 : Int32) - 20000 = 33 from rfl, if_pos (by decide)]
    rw [if_pos (Or.inl c3)] at hd
    cases p with
    | nil => cases hd
    | cons x r =>
      have hc2 : c.toInt = ((r.length + 1 : Nat) : Int) := hc
      have hl : r.length + 1 ≤ 61 := hc61
      have et : e_tk F q (x :: r) = (if x.toInt = 0 then 1 else 0) :: r := by unfold e_tk; rw [if_neg h1, if_neg h2, if_pos c3]
      have hn : c1.toNatClampNeg = r.length := by rw [v_nc]; omega
      have hx : s.1 (a + 2) r.length = x := e_pl_top hp
      rw [if_neg (by omega), if_pos (by omega)]
      refine v_Pif (fun _ => ?_) (fun _ => v_Pnone)
      rw [hn, hx]
      unfold f_Tx_alone
      rw [if_pos (by decide)]
      refine v_Pbi (P := fun y u => y = (if x.toInt = 0 then 1 else 0) ∧ u = s) ?_ ?_
      · by_cases hz : x.toInt = 0
        · rw [if_pos hz, if_pos hz, y_bit1, v_bi_some]; exact v_Pret ⟨rfl, rfl⟩
        · rw [if_neg hz, if_neg hz, y_bit0, v_bi_some]; exact v_Pret ⟨rfl, rfl⟩
      · rintro y u ⟨rfl, rfl⟩
        refine v_Pif (fun _ => v_Plet ?_) (fun _ => v_Pnone)
        obtain ⟨g1, g2, g3⟩ := hwr r.length (if x.toInt = 0 then 1 else 0)
        rw [et]
        exact v_Pret ⟨by rw [ec11]; exact hc2, g1, rfl, e_pl_push (e_pl_tl hp) g2 (fun j hj => g3 j (by omega))⟩
  · by_cases c4 : q.1.toInt = 4
    · rw [g_en_4 q c4, show (20095 : Int32) - 20000 = 95 from rfl, if_neg (by decide), if_pos (by decide)]
      rw [if_pos (Or.inr c4)] at hd
      cases p with
      | nil => cases hd
      | cons x r =>
        have hc2 : c.toInt = ((r.length + 1 : Nat) : Int) := hc
        have hl : r.length + 1 ≤ 61 := hc61
        have et : e_tk F q (x :: r) = (-x) :: r := by unfold e_tk; rw [if_neg h1, if_neg h2, if_neg c3, if_pos c4]
        have hn : c1.toNatClampNeg = r.length := by rw [v_nc]; omega
        have hx : s.1 (a + 2) r.length = x := e_pl_top hp
        rw [if_neg (by omega), if_pos (by omega)]
        refine v_Pif (fun _ => ?_) (fun _ => v_Pnone)
        rw [hn, hx]
        unfold f_Tx_alone
        rw [if_neg (by decide), v_bi_some]
        refine v_Pif (fun _ => v_Plet ?_) (fun _ => v_Pnone)
        obtain ⟨g1, g2, g3⟩ := hwr r.length (-x)
        rw [et]
        exact v_Pret ⟨by rw [ec11]; exact hc2, g1, rfl, e_pl_push (e_pl_tl hp) g2 (fun j hj => g3 j (by omega))⟩
    · rw [if_neg (by omega)] at hd
      have h5 : 5 ≤ q.1.toInt ∧ q.1.toInt < 127 := by unfold t_ok at hq; omega
      have hsub : g_en q - 20000 = q.1 := by
        rw [show q = (q.1, q.2) from rfl, g_en_bin h5]
        show (20000 : Int32) + q.1 - 20000 = q.1
        apply Int32.toInt_inj.mp
        have e1 : ((20000 : Int32) + q.1).toInt = 20000 + q.1.toInt := i32_add (x := 20000) (show -2 ^ 31 ≤ (20000 : Int) + q.1.toInt by omega) (show (20000 : Int) + q.1.toInt < 2 ^ 31 by omega)
        rw [v_sub (y := 20000) (show -2147483648 ≤ ((20000 : Int32) + q.1).toInt - 20000 by omega) (show ((20000 : Int32) + q.1).toInt - 20000 < 2147483648 by omega), e1]
        show 20000 + q.1.toInt - 20000 = _
        omega
      rw [hsub, if_neg (by unfold t_ok at hq; omega), if_neg (by unfold t_ok at hq; omega)]
      cases p with
      | nil => rw [if_neg (fun z => absurd z.1 (by show ¬ 2 ≤ 0; omega))] at hd; cases hd
      | cons y r =>
        cases r with
        | nil => rw [if_neg (fun z => absurd z.1 (by show ¬ 2 ≤ 1; omega))] at hd; cases hd
        | cons x r =>
          have hc2 : c.toInt = ((r.length + 1 + 1 : Nat) : Int) := hc
          have hl : r.length + 1 + 1 ≤ 61 := hc61
          have et : e_tk F q (y :: x :: r) = e_two q.1 x y :: r := by unfold e_tk; rw [if_neg h1, if_neg h2, if_neg c3, if_neg c4]
          have hn1 : c1.toNatClampNeg = r.length + 1 := by rw [v_nc]; omega
          have hn2 : c2.toNatClampNeg = r.length := by rw [v_nc]; omega
          have hy : s.1 (a + 2) (r.length + 1) = y := e_pl_top hp
          have hx : s.1 (a + 2) r.length = x := e_pl_top (e_pl_tl hp)
          rw [if_neg (by omega), if_pos (by omega)]
          refine v_Pif (fun _ => v_Pif (fun _ => ?_) (fun _ => v_Pnone)) (fun _ => v_Pnone)
          rw [hn1, hn2, hx, hy]
          refine v_Pbi (y_joined q.1 x y s ⟨by unfold t_ok at hq ⊢; exact hq, h5.1⟩) ?_
          rintro z u ⟨rfl, rfl⟩
          refine v_Pif (fun _ => v_Plet ?_) (fun _ => v_Pnone)
          obtain ⟨g1, g2, g3⟩ := hwr r.length (e_two q.1 x y)
          rw [et]
          exact v_Pret ⟨by rw [ec21]; show _ = ((r.length + 1 : Nat) : Int); omega, g1, rfl, e_pl_push (e_pl_tl (e_pl_tl hp)) g2 (fun j hj => g3 j (by omega))⟩
/-- what a step is, by its token -/
theorem g_en_num {q : Int32 × Int32} {d e : Nat} (h1 : q.1.toInt = 1) (h : r_st q d = some e) : g_en q = q.2 ∧ (0 ≤ q.2.toInt ∧ q.2.toInt < 10000) := by
  unfold r_st at h
  rw [if_pos h1] at h
  by_cases z : 0 ≤ q.2.toInt ∧ q.2.toInt < 10000
  · exact ⟨if_pos h1, z⟩
  · rw [if_neg z] at h; cases h
theorem g_en_nam {q : Int32 × Int32} {d e : Nat} (h1 : q.1.toInt = 2) (h : r_st q d = some e) : g_en q = 10000 + q.2 ∧ (0 ≤ q.2.toInt ∧ q.2.toInt < 6) := by
  unfold r_st at h
  rw [if_neg (by omega), if_pos h1] at h
  by_cases z : 0 ≤ q.2.toInt ∧ q.2.toInt < 6
  · refine ⟨?_, z⟩
    unfold g_en
    rw [if_neg (by omega), if_pos h1]
  · rw [if_neg z] at h; cases h
theorem g_en_sgn {q : Int32 × Int32} (h1 : ¬ q.1.toInt = 1) (h2 : ¬ q.1.toInt = 2) (hq : t_ok q) : 20000 ≤ (g_en q).toInt ∧ (g_en q).toInt < 30000 := by
  by_cases c3 : q.1.toInt = 3
  · rw [g_en_3 q c3]; decide
  · by_cases c4 : q.1.toInt = 4
    · rw [g_en_4 q c4]; decide
    · have h5 : 5 ≤ q.1.toInt ∧ q.1.toInt < 127 := by unfold t_ok at hq; omega
      rw [show q = (q.1, q.2) from rfl, g_en_bin h5]
      have e1 : ((20000 : Int32) + q.1).toInt = 20000 + q.1.toInt := i32_add (x := 20000) (show -2 ^ 31 ≤ (20000 : Int) + q.1.toInt by omega) (show (20000 : Int) + q.1.toInt < 2 ^ 31 by omega)
      omega
/-- the machine: a stretch of tokens -/
def e_E2 (a : Nat) (s t : vS) : Prop := (∀ b j, ¬ b = a + 2 → t.1 b j = s.1 b j) ∧ t.2 = s.2
theorem e_E2_tr {a : Nat} {s t u : vS} (h1 : e_E2 a s t) (h2 : e_E2 a t u) : e_E2 a s u := ⟨fun b j z => (h2.1 b j z).trans (h1.1 b j z), h2.2.trans h1.2⟩
theorem y_valT {F : Nat → Int32} {a : Nat} (ha : ¬ a + 2 = 21) {s0 : vS} (hF : ∀ j, j < 6 → s0.1 21 j = F j) {k38 k185 : vS → Option (Int32 × vS)} {k82 : Int32 → vS → Option (Int32 × vS)} {Q : Int32 → vS → Prop} : ∀ (l : List (Int32 × Int32)) (n : Nat) (v w x : Int32) (s : vS) (p : List Int32), 0 ≤ w.toInt → w.toInt + l.length < (s0.1 a 2).toInt → (s0.1 a 2).toInt ≤ 61 → x.toInt ≤ w.toInt → 0 ≤ x.toInt → g_row (fun j => s0.1 (a + 1) j) w.toInt.toNat (l.map g_en) → v.toInt = p.length → p.length ≤ w.toInt.toNat → (∃ e, r_run l p.length = some e) → t_al l → e_pl (s.1 (a + 2)) p → e_E2 a s0 s → (∀ (m : Nat) (v2 w2 x2 : Int32) (t : vS), m < n → w2.toInt = w.toInt + l.length → 0 ≤ x2.toInt → x2.toInt ≤ w2.toInt → v2.toInt = (e_rn F l p).length → e_pl (t.1 (a + 2)) (e_rn F l p) → e_E2 a s0 t → v_P (f_Tx_value_L7 a k38 k82 k185 (m + 1) v2 w2 x2 t) Q) → v_P (f_Tx_value_L7 a k38 k82 k185 n v w x s) Q
  | _, 0, _, _, _, _, _, _, _, _, _, _, _, _, _, _, _, _, _, _ => v_Pnone
  | [], n + 1, v, w, x, s, p, hw, hl, h61, hx, hx0, _, hv, _, _, _, hp, hE, hk => hk n v w x s (Nat.lt_succ_self n) (by show w.toInt = w.toInt + ((0 : Nat) : Int); omega) hx0 hx hv hp hE
  | q :: l, n + 1, v, w, x, s, p, hw, hl, h61, hx, hx0, hrow, hv, hpw, hrun, htk, hp, hE, hk => by
    rw [List.length_cons] at hl
    show v_P (f_Tx_value_L7b a k38 k82 k185 (f_Tx_value_L7 a k38 k82 k185 n) v w x s) Q
    have hw1 : (w + 1).toInt = w.toInt + 1 := v_inc (by omega)
    have hx1 : (x + 1).toInt = x.toInt + 1 := v_inc (by omega)
    have hv1 : (v + 1).toInt = v.toInt + 1 := v_inc (by omega)
    have hwn1 : (w + 1).toInt.toNat = w.toInt.toNat + 1 := by omega
    obtain ⟨e, hrun⟩ := hrun
    have hrun2 : (r_st q p.length).bind (fun e => r_run l e) = some e := hrun
    obtain ⟨d, hd1, hd2⟩ : ∃ d, r_st q p.length = some d ∧ r_run l d = some e := by
      cases hz : r_st q p.length with
      | none => rw [hz] at hrun2; cases hrun2
      | some d => rw [hz] at hrun2; exact ⟨d, rfl, hrun2⟩
    have hlen : (e_tk F q p).length = d := e_tk_len hd1
    have hd9 : d ≤ p.length + 1 := by
      unfold r_st at hd1
      by_cases c1 : q.1.toInt = 1
      · rw [if_pos c1] at hd1
        by_cases z : 0 ≤ q.2.toInt ∧ q.2.toInt < 10000
        · rw [if_pos z] at hd1; cases hd1; omega
        · rw [if_neg z] at hd1; cases hd1
      · rw [if_neg c1] at hd1
        by_cases c2 : q.1.toInt = 2
        · rw [if_pos c2] at hd1
          by_cases z : 0 ≤ q.2.toInt ∧ q.2.toInt < 6
          · rw [if_pos z] at hd1; cases hd1; omega
          · rw [if_neg z] at hd1; cases hd1
        · rw [if_neg c2] at hd1
          by_cases c3 : q.1.toInt = 3 ∨ q.1.toInt = 4
          · rw [if_pos c3] at hd1
            by_cases z : 1 ≤ p.length
            · rw [if_pos z] at hd1; cases hd1; omega
            · rw [if_neg z] at hd1; cases hd1
          · rw [if_neg c3] at hd1
            by_cases z : 2 ≤ p.length ∧ 5 ≤ q.1.toInt ∧ q.1.toInt < 127
            · rw [if_pos z] at hd1; cases hd1; omega
            · rw [if_neg z] at hd1; cases hd1
    have htq : t_ok q := htk q List.mem_cons_self
    have hgo : ∀ (u : Int32) (t : vS), u.toInt = (e_tk F q p).length → e_pl (t.1 (a + 2)) (e_tk F q p) → e_E2 a s t → v_P (f_Tx_value_L7 a k38 k82 k185 n u (w + 1) (x + 1) t) Q := fun u t hu hpl hEt => by
      refine y_valT ha hF l n u (w + 1) (x + 1) t (e_tk F q p) (by omega) (by omega) h61 (by omega) (by omega) ?_ hu (by omega) ⟨e, by rw [hlen]; exact hd2⟩ (fun y hy => htk y (List.mem_cons_of_mem q hy)) hpl (e_E2_tr hE hEt) (fun m v2 w2 x2 t2 hm hw2 g1 g2 g3 g4 g5 => hk m v2 w2 x2 t2 (by omega) (by show w2.toInt = w.toInt + ((l.length + 1 : Nat) : Int); omega) g1 g2 g3 g4 g5)
      rw [hwn1]
      intro j y hj
      have h1 := hrow (j + 1) y hj
      rw [show w.toInt.toNat + 1 + j = w.toInt.toNat + (j + 1) by omega]
      exact h1
    have hq0 : s.1 (a + 1) w.toNatClampNeg = g_en q := by
      rw [hE.1 _ _ (by omega), v_nc]
      exact hrow 0 (g_en q) rfl
    unfold f_Tx_value_L7b
    rw [if_neg (by omega), if_neg (by omega), hE.1 a 2 (by omega), if_neg (by omega), if_pos (by omega), hq0]
    refine v_Pif (fun _ => ?_) (fun _ => v_Pnone)
    by_cases c1 : q.1.toInt = 1
    · obtain ⟨e1, e2⟩ := g_en_num c1 hd1
      have et : e_tk F q p = q.2 :: p := if_pos c1
      rw [e1, if_pos (by omega), if_pos (by omega), if_neg (by omega), if_neg (by omega), if_neg (by omega)]
      refine v_Pif (fun _ => v_Plet ?_) (fun _ => v_Pnone)
      have hvn : v.toNatClampNeg = p.length := by rw [v_nc]; omega
      rw [hvn]
      refine hgo _ _ (by rw [et]; show _ = ((p.length + 1 : Nat) : Int); omega) (by rw [et]; exact e_pl_push hp (v_w1_1.trans (if_pos ⟨rfl, rfl⟩)) (fun j hj => v_w1_1.trans (if_neg (fun y => by omega)))) ⟨fun b j z => v_w1_1.trans (if_neg (fun y => z y.1)), rfl⟩
    · by_cases c2 : q.1.toInt = 2
      · obtain ⟨e1, e2⟩ := g_en_nam c2 hd1
        have et : e_tk F q p = F q.2.toInt.toNat :: p := by unfold e_tk; rw [if_neg c1, if_pos c2]
        have en : ((10000 : Int32) + q.2).toInt = 10000 + q.2.toInt := i32_add (x := 10000) (show -2 ^ 31 ≤ (10000 : Int) + q.2.toInt by omega) (show (10000 : Int) + q.2.toInt < 2 ^ 31 by omega)
        have em : (((10000 : Int32) + q.2) - (10000 : Int32)).toInt = q.2.toInt := by
          rw [v_sub (y := 10000) (show -2147483648 ≤ ((10000 : Int32) + q.2).toInt - 10000 by omega) (show ((10000 : Int32) + q.2).toInt - 10000 < 2147483648 by omega), en]
          show 10000 + q.2.toInt - 10000 = _
          omega
        rw [e1, if_pos (by omega), if_pos (by omega), if_neg (by omega), if_neg (by omega), if_pos (by omega)]
        have en2 : (((10000 : Int32) + q.2) - (10000 : Int32)).toNatClampNeg = q.2.toInt.toNat := by rw [v_nc, em]
        unfold f_Tx_named
        rw [if_neg (by omega), if_neg (by omega), if_pos (show v_in (((10000 : Int32) + q.2) - (10000 : Int32)) 6 from ⟨by omega, by omega⟩), v_bi_some, en2, hE.1 21 _ (fun z => ha z.symm), hF _ (by omega)]
        refine v_Pif (fun _ => v_Plet ?_) (fun _ => v_Pnone)
        have hvn : v.toNatClampNeg = p.length := by rw [v_nc]; omega
        rw [hvn]
        refine hgo _ _ (by rw [et]; show _ = ((p.length + 1 : Nat) : Int); omega) (by rw [et]; exact e_pl_push hp (v_w1_1.trans (if_pos ⟨rfl, rfl⟩)) (fun j hj => v_w1_1.trans (if_neg (fun y => by omega)))) ⟨fun b j z => v_w1_1.trans (if_neg (fun y => z y.1)), rfl⟩
      · have e2 := g_en_sgn c1 c2 htq
        rw [if_pos (by omega), if_neg (by omega)]
        refine v_Pbi (y_work (F := F) hv (by omega) hd1 c1 c2 htq hp) ?_
        rintro r t ⟨t1, t2, t3, t4⟩
        exact hgo r t t1 t4 ⟨t2, t3⟩
/-! the end of a line, the question, the lines -/
theorem e_rn_len {F : Nat → Int32} : ∀ (l : List (Int32 × Int32)) (p : List Int32) (e : Nat), r_run l p.length = some e → (e_rn F l p).length = e
  | [], p, e, h => Option.some.inj h
  | q :: l, p, e, h => by
    have h2 : (r_st q p.length).bind (fun e => r_run l e) = some e := h
    cases hz : r_st q p.length with
    | none => rw [hz] at h2; cases h2
    | some d =>
      rw [hz] at h2
      have hl := e_tk_len (F := F) hz
      refine e_rn_len l (e_tk F q p) e ?_
      rw [hl]
      exact h2
theorem e_rn_one {F : Nat → Int32} {l : List (Int32 × Int32)} (h : r_run l 0 = some 1) {f : Nat → Int32} (hp : e_pl f (e_rn F l [])) : f 0 = e_top F l := by
  have hlen := e_rn_len (F := F) l [] 1 h
  unfold e_top
  generalize e_rn F l [] = p at hlen hp ⊢
  cases p with
  | nil => cases hlen
  | cons y r =>
    have hr : r.length = 0 := Nat.succ.inj hlen
    have h3 := e_pl_top hp
    rw [hr] at h3
    exact h3
abbrev y_k38 : vS → Option (Int32 × vS) := fun s1 => some (0, s1)
noncomputable abbrev y_k82 (a : Nat) : Int32 → vS → Option (Int32 × vS) := fun w2 s3 => v_bi (f_Tx_valueAt a w2 s3) (fun r5 s5 => some (r5, s5))
noncomputable abbrev y_L7 (a n : Nat) : Int32 → Int32 → Int32 → vS → Option (Int32 × vS) := f_Tx_value_L7 a y_k38 (y_k82 a) y_k38 n
theorem y_val2 {F : Nat → Int32} {a : Nat} (ha : ¬ a + 2 = 21) {s0 : vS} (hF : ∀ j, j < 6 → s0.1 21 j = F j) {l : List (Int32 × Int32)} {n : Nat} {v w x : Int32} {s : vS} (hw : 0 ≤ w.toInt) (hl : w.toInt + l.length < (s0.1 a 2).toInt) (h61 : (s0.1 a 2).toInt ≤ 61) (hx : x.toInt ≤ w.toInt) (hx0 : 0 ≤ x.toInt) (hrow : g_row (fun j => s0.1 (a + 1) j) w.toInt.toNat (l.map g_en ++ [40000])) (hv : v.toInt = 0) (hrun : r_run l 0 = some 1) (htk : t_al l) (hE : e_E2 a s0 s) : v_P (y_L7 a n v w x s) (fun y t => y = e_top F l ∧ e_E2 a s0 t) := by
  obtain ⟨r1, r2⟩ := g_row_app hrow
  refine y_valT ha hF l n v w x s [] hw hl h61 hx hx0 r1 hv (Nat.zero_le _) ⟨1, hrun⟩ htk e_pl_nil hE (fun m v2 w2 x2 t hm hw2 g1 g2 g3 g4 g5 => ?_)
  have hlen := e_rn_len (F := F) l [] 1 hrun
  rw [hlen] at g3
  have h40 : s0.1 (a + 1) (w.toInt.toNat + (l.map g_en).length + 0) = 40000 := r2 0 40000 rfl
  rw [List.length_map] at h40
  have hwn : w2.toNatClampNeg = w.toInt.toNat + l.length + 0 := by rw [v_nc]; omega
  have h41 : t.1 (a + 1) w2.toNatClampNeg = 40000 := by rw [g5.1 _ _ (by omega), hwn]; exact h40
  show v_P (f_Tx_value_L7b a y_k38 (y_k82 a) y_k38 (f_Tx_value_L7 a y_k38 (y_k82 a) y_k38 m) v2 w2 x2 t) _
  unfold f_Tx_value_L7b
  rw [if_neg (by omega), if_neg (by omega), g5.1 a 2 (by omega), if_neg (by omega), if_pos (by omega), h41]
  refine v_Pif (fun _ => ?_) (fun _ => v_Pnone)
  rw [if_neg (by decide), if_pos (by decide)]
  obtain ⟨v3, e3, hv3⟩ : ∃ v3, v2 + (-1) = v3 ∧ v3.toInt = 0 := ⟨_, rfl, by rw [v_dec (by omega)]; omega⟩
  rw [e3]
  show v_P (v_bi (f_Tx_valueAt a v3 t) (fun r5 s5 => some (r5, s5))) _
  clear e3
  unfold f_Tx_valueAt
  rw [if_neg (by omega), if_neg (by omega)]
  refine v_Pbi (P := fun y u => y = e_top F l ∧ e_E2 a s0 u) (v_Pif (fun _ => v_Pret ⟨?_, g5⟩) (fun _ => v_Pnone)) ?_
  · have h0 : v3.toNatClampNeg = 0 := by rw [v_nc]; omega
    rw [h0]
    exact e_rn_one hrun g4
  · rintro y u h
    exact v_Pret h
def g_clr : Nat → List gL → List Int32
  | _, [] => []
  | b, ln :: r => g_cl b ln ++ g_clr (b + (g_cl b ln).length) r
theorem g_clr_cls : ∀ (r : List gL) (pre : List Int32), r.foldl (fun pre ln => pre ++ g_cl pre.length ln) pre = pre ++ g_clr pre.length r
  | [], pre => (List.append_nil pre).symm
  | ln :: r, pre => by
    show r.foldl (fun pre ln => pre ++ g_cl pre.length ln) (pre ++ g_cl pre.length ln) = pre ++ (g_cl pre.length ln ++ g_clr (pre.length + (g_cl pre.length ln).length) r)
    rw [g_clr_cls r, List.length_append, List.append_assoc]
theorem g_cls_r {acc : List gL} : g_cls acc = g_clr 0 acc := by
  have h := g_clr_cls acc []
  rw [List.nil_append] at h
  exact h
theorem y_valL {F : Nat → Int32} {a : Nat} (ha : ¬ a + 2 = 21) {s0 : vS} (hF : ∀ j, j < 6 → s0.1 21 j = F j) (h61 : (s0.1 a 2).toInt ≤ 61) : ∀ (r : List gL) (n : Nat) (v w x : Int32) (s : vS) (b : Nat), w.toInt = b → (s0.1 a 2).toInt = (b : Int) + (g_clr b r).length → v.toInt = 0 → 0 ≤ x.toInt → x.toInt ≤ w.toInt → g_row (fun j => s0.1 (a + 1) j) b (g_clr b r) → (∀ ln, ln ∈ r → g_wl ln) → g_tok r → e_E2 a s0 s → v_P (y_L7 a n v w x s) (fun y t => y = e_tx F r ∧ e_E2 a s0 t)
  | [], 0, _, _, _, _, _, _, _, _, _, _, _, _, _, _ => v_Pnone
  | _ :: _, 0, _, _, _, _, _, _, _, _, _, _, _, _, _, _ => v_Pnone
  | [], n + 1, v, w, x, s, b, hw, hm, hv, hx0, hx, _, _, _, hE => by
    show v_P (f_Tx_value_L7b a y_k38 (y_k82 a) y_k38 (f_Tx_value_L7 a y_k38 (y_k82 a) y_k38 n) v w x s) _
    have hm2 : (s0.1 a 2).toInt = (b : Int) + ((0 : Nat) : Int) := hm
    unfold f_Tx_value_L7b
    refine v_Pif (fun _ => v_Pret ⟨rfl, hE⟩) (fun _ => ?_)
    rw [if_neg (by omega), hE.1 a 2 (by omega), if_pos (by omega)]
    exact v_Pret ⟨rfl, hE⟩
  | ln :: r, n + 1, v, w, x, s, b, hw, hm, hv, hx0, hx, hrow, hwl, htk, hE => by
    have ec : g_clr b (ln :: r) = g_cl b ln ++ g_clr (b + (g_cl b ln).length) r := rfl
    rw [ec, List.length_append] at hm
    rw [ec] at hrow
    obtain ⟨r1, r2⟩ := g_row_app hrow
    obtain ⟨w1, w2⟩ := hwl ln List.mem_cons_self
    obtain ⟨k1, k2⟩ := htk ln List.mem_cons_self
    have hwn : w.toInt.toNat = b := by omega
    by_cases hl : ln.1 = []
    · have el : (g_cl b ln).length = ln.2.length + 1 := by
        unfold g_cl
        rw [if_pos hl, List.length_append, List.length_map]
        rfl
      have et : e_tx F (ln :: r) = e_top F ln.2 := if_pos (Or.inl hl)
      have r3 : g_row (fun j => s0.1 (a + 1) j) w.toInt.toNat (ln.2.map g_en ++ [40000]) := by
        rw [hwn]
        unfold g_cl at r1
        rw [if_pos hl] at r1
        exact r1
      rw [et]
      exact y_val2 ha hF (by omega) (by omega) h61 hx hx0 r3 hv (w2 0) k2 hE
    · have el : (g_cl b ln).length = ln.1.length + ln.2.length + 2 := by
        unfold g_cl
        rw [if_neg hl, List.length_append, List.length_map, List.length_cons, List.length_append, List.length_map]
        show ln.1.length + (ln.2.length + 1 + 1) = _
        omega
      have r3 : g_row (fun j => s0.1 (a + 1) j) b (ln.1.map g_en ++ ((30000 + Int32.ofNat (b + ln.1.length + ln.2.length + 2)) :: (ln.2.map g_en ++ [40000]))) := by
        unfold g_cl at r1
        rw [if_neg hl] at r1
        exact r1
      have w1 : r_run ln.1 0 = some 1 := (w1.resolve_left hl) 0
      obtain ⟨q1, q2⟩ := g_row_app r3
      rw [List.length_map] at q2
      have h30 : s0.1 (a + 1) (b + ln.1.length + 0) = 30000 + Int32.ofNat (b + ln.1.length + ln.2.length + 2) := q2 0 _ rfl
      have q3 : g_row (fun j => s0.1 (a + 1) j) (b + ln.1.length + 1) (ln.2.map g_en ++ [40000]) := fun j y hj => by
        have h1 := q2 (j + 1) y hj
        rw [show b + ln.1.length + 1 + j = b + ln.1.length + (j + 1) by omega]
        exact h1
      refine y_valT ha hF ln.1 (n + 1) v w x s [] (by omega) (by omega) h61 hx hx0 (by rw [hwn]; exact q1) hv (Nat.zero_le _) ⟨1, w1⟩ k1 e_pl_nil hE (fun m v2 w2' x2 t hmn hw2 g1 g2 g3 g4 g5 => ?_)
      have hlen := e_rn_len (F := F) ln.1 [] 1 w1
      rw [hlen] at g3
      have eJ : (Int32.ofNat (b + ln.1.length + ln.2.length + 2)).toInt = ((b + ln.1.length + ln.2.length + 2 : Nat) : Int) := v_oi (by omega)
      generalize Int32.ofNat (b + ln.1.length + ln.2.length + 2) = J at eJ h30
      have eA : ((30000 : Int32) + J).toInt = 30000 + J.toInt := i32_add (x := 30000) (show -2 ^ 31 ≤ (30000 : Int) + J.toInt by omega) (show (30000 : Int) + J.toInt < 2 ^ 31 by omega)
      generalize (30000 : Int32) + J = A at eA h30
      have eB : (A - (30000 : Int32)).toInt = A.toInt - 30000 := v_sub (y := 30000) (show -2147483648 ≤ A.toInt - 30000 by omega) (show A.toInt - 30000 < 2147483648 by omega)
      have hwn2 : w2'.toNatClampNeg = b + ln.1.length + 0 := by rw [v_nc]; omega
      have h31 : t.1 (a + 1) w2'.toNatClampNeg = A := by rw [g5.1 _ _ (by omega), hwn2]; exact h30
      obtain ⟨v3, e3, hv3⟩ : ∃ v3, v2 + (-1) = v3 ∧ v3.toInt = 0 := ⟨_, rfl, by rw [v_dec (by omega)]; omega⟩
      have hn0 : v3.toNatClampNeg = 0 := by rw [v_nc, hv3]; rfl
      have htop : t.1 (a + 2) 0 = e_top F ln.1 := e_rn_one w1 g4
      have hx3 : (x2 + 1).toInt = x2.toInt + 1 := v_inc (by omega)
      have hw3 : (w2' + 1).toInt = w2'.toInt + 1 := v_inc (by omega)
      show v_P (f_Tx_value_L7b a y_k38 (y_k82 a) y_k38 (f_Tx_value_L7 a y_k38 (y_k82 a) y_k38 m) v2 w2' x2 t) _
      unfold f_Tx_value_L7b
      rw [e3]
      clear e3
      rw [if_neg (by omega), if_neg (by omega), g5.1 a 2 (by omega), if_neg (by omega), if_pos (by omega), h31]
      refine v_Pif (fun _ => ?_) (fun _ => v_Pnone)
      rw [if_neg (by omega), if_neg (show ¬ A.toInt = 40000 by omega), if_neg (by omega), if_pos (by omega)]
      refine v_Pif (fun _ => ?_) (fun _ => v_Pnone)
      rw [hn0, htop]
      by_cases hz : (e_top F ln.1).toInt = 0
      · have et : e_tx F (ln :: r) = e_tx F r := if_neg (fun z => z.elim hl (fun y => y hz))
        rw [if_pos hz, et]
        exact y_valL ha hF h61 r m _ _ _ t (b + (g_cl b ln).length) (by omega) (by omega) hv3 (by omega) (by omega) r2 (fun y hy => hwl y (List.mem_cons_of_mem ln hy)) (fun y hy => htk y (List.mem_cons_of_mem ln hy)) g5
      · have et : e_tx F (ln :: r) = e_top F ln.2 := if_pos (Or.inr hz)
        rw [if_neg hz, et]
        refine y_val2 ha hF (by omega) (by omega) h61 (by omega) (by omega) ?_ hv3 (w2 0) k2 g5
        rw [show (w2' + 1).toInt.toNat = b + ln.1.length + 1 by omega]
        exact q3
/-- a text's value -/
theorem y_value {F : Nat → Int32} {s : vS} {k : Nat} {acc : List gL} (h : c_text s k acc) (hF : ∀ j, j < 6 → s.1 21 j = F j) (hwl : ∀ ln, ln ∈ acc → g_wl ln) : v_P (f_Tx_value (24 + 5 * k) s) (fun y t => y = e_tx F acc ∧ e_E2 (24 + 5 * k) s t) := by
  obtain ⟨h1, h2, h3, h4⟩ := h
  rw [g_cls_r] at h1 h2 h3
  unfold f_Tx_value
  refine y_valL (by omega) hF (by omega) acc 4096 0 0 0 s 0 rfl (by omega) rfl (by decide) (by decide) ?_ hwl h4 ⟨fun _ _ _ => rfl, rfl⟩
  rw [show 24 + 5 * k + 1 = 25 + 5 * k by omega]
  exact h3
