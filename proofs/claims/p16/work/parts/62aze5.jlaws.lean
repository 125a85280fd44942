/-! laws from a row -/
def j_six (A : Nat → Int32) : Prop := (0 ≤ (A 0).toInt ∧ (A 0).toInt ≤ 99) ∧ (0 ≤ (A 1).toInt ∧ (A 1).toInt ≤ 2) ∧ (-1 ≤ (A 2).toInt ∧ (A 2).toInt ≤ 9) ∧ (0 ≤ (A 3).toInt ∧ (A 3).toInt ≤ 2) ∧ (0 ≤ (A 4).toInt ∧ (A 4).toInt ≤ 2) ∧ (0 ≤ (A 5).toInt ∧ (A 5).toInt ≤ 9)
theorem y_lawRow (e : Int32) (t : vS) (A : Nat → Int32) (h0 : Int64.toInt32 (t.2 183 (Int32.toNatClampNeg e)) = A 0) (h1 : Int64.toInt32 (t.2 183 (Int32.toNatClampNeg (e + (1 : Int32)))) = A 1) (h2 : Int64.toInt32 (t.2 183 (Int32.toNatClampNeg (e + (2 : Int32)))) = A 2) (h3 : Int64.toInt32 (t.2 183 (Int32.toNatClampNeg (e + (3 : Int32)))) = A 3) (h4 : Int64.toInt32 (t.2 183 (Int32.toNatClampNeg (e + (4 : Int32)))) = A 4) (h5 : Int64.toInt32 (t.2 183 (Int32.toNatClampNeg (e + (5 : Int32)))) = A 5) : v_P (f_Md_isLawRow e t) (fun r u => u = t ∧ ((r.toInt = 0 ∧ ¬ j_six A) ∨ (¬ r.toInt = 0 ∧ j_six A))) := by
  unfold f_Md_isLawRow
  refine v_Pif (fun _ => ?_) (fun _ => v_Pnone)
  rw [h0, z_in, v_bi_some, v_bif]
  by_cases c0 : (0 : Int32).toInt ≤ (A 0).toInt ∧ (A 0).toInt ≤ (99 : Int32).toInt
  case neg =>
    rw [if_neg c0]
    exact v_Pret ⟨rfl, Or.inl ⟨rfl, fun z => c0 z.1⟩⟩
  rw [if_pos c0]
  refine v_Pif (fun _ => ?_) (fun _ => v_Pnone)
  rw [h1, z_in, v_bi_some, v_bif]
  by_cases c1 : (0 : Int32).toInt ≤ (A 1).toInt ∧ (A 1).toInt ≤ (2 : Int32).toInt
  case neg =>
    rw [if_neg c1]
    exact v_Pret ⟨rfl, Or.inl ⟨rfl, fun z => c1 z.2.1⟩⟩
  rw [if_pos c1]
  refine v_Pif (fun _ => ?_) (fun _ => v_Pnone)
  rw [h2, z_in, v_bi_some, v_bif]
  by_cases c2 : (-1 : Int32).toInt ≤ (A 2).toInt ∧ (A 2).toInt ≤ (9 : Int32).toInt
  case neg =>
    rw [if_neg c2]
    exact v_Pret ⟨rfl, Or.inl ⟨rfl, fun z => c2 z.2.2.1⟩⟩
  rw [if_pos c2]
  refine v_Pif (fun _ => ?_) (fun _ => v_Pnone)
  rw [h3, z_in, v_bi_some, v_bif]
  by_cases c3 : (0 : Int32).toInt ≤ (A 3).toInt ∧ (A 3).toInt ≤ (2 : Int32).toInt
  case neg =>
    rw [if_neg c3]
    exact v_Pret ⟨rfl, Or.inl ⟨rfl, fun z => c3 z.2.2.2.1⟩⟩
  rw [if_pos c3]
  refine v_Pif (fun _ => ?_) (fun _ => v_Pnone)
  rw [h4, z_in, v_bi_some, v_bif]
  by_cases c4 : (0 : Int32).toInt ≤ (A 4).toInt ∧ (A 4).toInt ≤ (2 : Int32).toInt
  case neg =>
    rw [if_neg c4]
    exact v_Pret ⟨rfl, Or.inl ⟨rfl, fun z => c4 z.2.2.2.2.1⟩⟩
  rw [if_pos c4]
  refine v_Pif (fun _ => ?_) (fun _ => v_Pnone)
  rw [h5, z_in, v_bi_some, v_bif]
  by_cases c5 : (0 : Int32).toInt ≤ (A 5).toInt ∧ (A 5).toInt ≤ (9 : Int32).toInt
  case neg =>
    rw [if_neg c5]
    exact v_Pret ⟨rfl, Or.inl ⟨rfl, fun z => c5 z.2.2.2.2.2⟩⟩
  rw [if_pos c5]
  exact v_Pret ⟨rfl, Or.inr ⟨by decide, c0, c1, c2, c3, c4, c5⟩⟩
theorem y_shat (r : Nat) (i : Int32) (s : vS) (h : 0 ≤ i.toInt ∧ i.toInt < (s.1 r 2).toInt) (h60 : (s.1 r 2).toInt ≤ 60) : f_Sh_at r i s = some (s.2 (r + 1) i.toNatClampNeg, s) := by
  unfold f_Sh_at
  rw [if_neg (by omega), if_neg (by omega), if_neg (by omega), if_pos (show v_in i 60 from ⟨h.1, by omega⟩)]
/-- the letters of one comparison -/
theorem g_C_eq {A : Nat → Int32} (hS : j_six A) {f : Nat → Int32} {K : Int32} (h0 : (f 0).toInt = 120 + (A 3).toInt) (h1 : (f 1).toInt = 60 + (A 4).toInt) (h2 : (f 2).toInt = 48 + (A 5).toInt) (hK : K.toInt = 3) (j : Nat) : (g_C (A 3).toInt.toNat (A 4).toInt.toNat (A 5).toInt.toNat) j = g_ab (if K.toInt ≤ (j : Int) then -1 else f j) := by
  obtain ⟨-, -, -, c3, c4, c5⟩ := hS
  have hab : ∀ {x : Int32}, 0 ≤ x.toInt → x.toInt < 128 → g_ab x = x := fun h1 h2 => if_pos ⟨h1, h2⟩
  unfold g_C
  rw [hK]
  by_cases j0 : j = 0
  · subst j0
    rw [if_pos rfl, if_neg (by omega), hab (by omega) (by omega)]
    apply Int32.toInt_inj.mp
    rw [v_oi (by omega), h0]
    omega
  · rw [if_neg j0]
    by_cases j1 : j = 1
    · subst j1
      rw [if_pos rfl, if_neg (by omega), hab (by omega) (by omega)]
      apply Int32.toInt_inj.mp
      rw [v_oi (by omega), h1]
      omega
    · rw [if_neg j1]
      by_cases j2 : j = 2
      · subst j2
        rw [if_pos rfl, if_neg (by omega), hab (by omega) (by omega)]
        apply Int32.toInt_inj.mp
        rw [v_oi (by omega), h2]
        omega
      · rw [if_neg j2, if_pos (by omega)]
        decide
theorem g_C_ok2 {A : Nat → Int32} (hS : j_six A) : (g_rd (g_C (A 3).toInt.toNat (A 4).toInt.toNat (A 5).toInt.toNat) 3).1 = true := by
  obtain ⟨-, -, -, c3, c4, c5⟩ := hS
  exact g_C_ok (by omega) (by omega) (by omega)
theorem g_C_ltr {b c d : Nat} : g_ltr (g_C b c d) := fun j hj => by
  unfold g_C
  rw [if_neg (by omega), if_neg (by omega), if_neg (by omega)]
def j_sh (s t : vS) : Prop := ∀ a j, 139 ≤ a → a ≤ 150 → t.1 a j = s.1 a j ∧ t.2 a j = s.2 a j
/-- on the class's side a law of six numbers came as the law m -/
def j_cmC (A : Nat → Int32) (m : Nat) (s t : vS) : Prop := j_sh s t ∧ ∃ u i2, j_E jb_C s u ∧ c_W (g_C (A 3).toInt.toNat (A 4).toInt.toNat (A 5).toInt.toNat) u (g_cls (g_rd (g_C (A 3).toInt.toNat (A 4).toInt.toNat (A 5).toInt.toNat) 3).2.2) i2 ∧ j_adm (A 0) (A 1) (A 2) m u t
/-- the class: one law from a row's six, where there is a six and room -/
theorem y_six (r : Nat) (i : Int32) (s : vS) (A : Nat → Int32) (hi : 0 ≤ i.toInt) (h6 : i.toInt + 6 ≤ (s.1 r 2).toInt) (h60 : (s.1 r 2).toInt ≤ 60) (hA : ∀ x, x < 6 → Int64.toInt32 (s.2 (r + 1) (i.toInt.toNat + x)) = A x) {m : Nat} (hm : (s.1 8 1).toInt = m) (h9 : m ≤ 9) (hnum : (s.1 (23 + 5 * m) 0).toInt = m) : v_P (f_Ol_cameFromSix r i s) (fun x t => (j_six A ∧ ¬ x.toInt = 0 ∧ j_cmC A m s t) ∨ (¬ j_six A ∧ x.toInt = 0 ∧ t = s)) := by
  have hne : ¬ j_six A → v_P (some ((0 : Int32), s)) (fun (x : Int32) t => (j_six A ∧ ¬ x.toInt = 0 ∧ j_cmC A m s t) ∨ (¬ j_six A ∧ x.toInt = 0 ∧ t = s)) := fun z => v_Pret (Or.inr ⟨z, rfl, rfl⟩)
  have es : (s.1 r 2 - 6).toInt = (s.1 r 2).toInt - 6 := v_sub (y := 6) (show -2147483648 ≤ (s.1 r 2).toInt - 6 by omega) (show (s.1 r 2).toInt - 6 < 2147483648 by omega)
  have e1 : (i + (1 : Int32)).toInt = i.toInt + 1 := i32_add (y := 1) (show -2 ^ 31 ≤ i.toInt + 1 by omega) (show i.toInt + 1 < 2 ^ 31 by omega)
  have e2 : (i + (2 : Int32)).toInt = i.toInt + 2 := i32_add (y := 2) (show -2 ^ 31 ≤ i.toInt + 2 by omega) (show i.toInt + 2 < 2 ^ 31 by omega)
  have e3 : (i + (3 : Int32)).toInt = i.toInt + 3 := i32_add (y := 3) (show -2 ^ 31 ≤ i.toInt + 3 by omega) (show i.toInt + 3 < 2 ^ 31 by omega)
  have e4 : (i + (4 : Int32)).toInt = i.toInt + 4 := i32_add (y := 4) (show -2 ^ 31 ≤ i.toInt + 4 by omega) (show i.toInt + 4 < 2 ^ 31 by omega)
  have e5 : (i + (5 : Int32)).toInt = i.toInt + 5 := i32_add (y := 5) (show -2 ^ 31 ≤ i.toInt + 5 by omega) (show i.toInt + 5 < 2 ^ 31 by omega)
  unfold f_Ol_cameFromSix
  rw [if_neg (by omega), if_pos (by omega), y_shat r i s ⟨hi, by omega⟩ h60, v_bi_some, y_shat r (i + (1 : Int32)) s ⟨by omega, by omega⟩ h60, v_bi_some, y_shat r (i + (2 : Int32)) s ⟨by omega, by omega⟩ h60, v_bi_some, y_shat r (i + (3 : Int32)) s ⟨by omega, by omega⟩ h60, v_bi_some, y_shat r (i + (4 : Int32)) s ⟨by omega, by omega⟩ h60, v_bi_some, y_shat r (i + (5 : Int32)) s ⟨by omega, by omega⟩ h60, v_bi_some]
  have f0 : Int64.toInt32 (s.2 (r + 1) i.toNatClampNeg) = A 0 := by rw [v_nc]; exact hA 0 (by decide)
  have f1 : Int64.toInt32 (s.2 (r + 1) (i + (1 : Int32)).toNatClampNeg) = A 1 := by rw [v_nc, e1, show (i.toInt + 1).toNat = i.toInt.toNat + 1 by omega]; exact hA 1 (by decide)
  have f2 : Int64.toInt32 (s.2 (r + 1) (i + (2 : Int32)).toNatClampNeg) = A 2 := by rw [v_nc, e2, show (i.toInt + 2).toNat = i.toInt.toNat + 2 by omega]; exact hA 2 (by decide)
  have f3 : Int64.toInt32 (s.2 (r + 1) (i + (3 : Int32)).toNatClampNeg) = A 3 := by rw [v_nc, e3, show (i.toInt + 3).toNat = i.toInt.toNat + 3 by omega]; exact hA 3 (by decide)
  have f4 : Int64.toInt32 (s.2 (r + 1) (i + (4 : Int32)).toNatClampNeg) = A 4 := by rw [v_nc, e4, show (i.toInt + 4).toNat = i.toInt.toNat + 4 by omega]; exact hA 4 (by decide)
  have f5 : Int64.toInt32 (s.2 (r + 1) (i + (5 : Int32)).toNatClampNeg) = A 5 := by rw [v_nc, e5, show (i.toInt + 5).toNat = i.toInt.toNat + 5 by omega]; exact hA 5 (by decide)
  rw [f0, f1, f2, f3, f4, f5]
  rw [jz_isDate, v_bi_some, v_bif]
  by_cases c0 : 0 ≤ (A 0).toInt ∧ (A 0).toInt ≤ 99
  case neg =>
    rw [if_neg c0]
    exact hne (fun z => c0 z.1)
  rw [if_pos c0]
  rw [jz_isSaying, v_bi_some, v_bif]
  by_cases c1 : 0 ≤ (A 1).toInt ∧ (A 1).toInt ≤ 2
  case neg =>
    rw [if_neg c1]
    exact hne (fun z => c1 z.2.1)
  rw [if_pos c1]
  rw [jz_isStruck, v_bi_some, v_bif]
  by_cases c2 : -1 ≤ (A 2).toInt ∧ (A 2).toInt ≤ 9
  case neg =>
    rw [if_neg c2]
    exact hne (fun z => c2 z.2.2.1)
  rw [if_pos c2]
  rw [jz_isWord, v_bi_some, v_bif]
  by_cases c3 : 0 ≤ (A 3).toInt ∧ (A 3).toInt ≤ 2
  case neg =>
    rw [if_neg c3]
    exact hne (fun z => c3 z.2.2.2.1)
  rw [if_pos c3]
  refine v_Pif (fun q => hne (fun z => by have := z.2.2.2.2.1; omega)) (fun q1 => v_Pif (fun q => hne (fun z => by have := z.2.2.2.2.1; omega)) (fun q2 => v_Pif (fun q => hne (fun z => by have := z.2.2.2.2.2; omega)) (fun q3 => ?_)))
  by_cases q4 : (A 5).toInt ≤ 9
  case neg =>
    rw [if_neg q4]
    exact hne (fun z => q4 z.2.2.2.2.2.2)
  rw [if_pos q4]
  have hS : j_six A := ⟨c0, c1, c2, c3, ⟨by omega, by omega⟩, by omega, q4⟩
  have e120 : ((120 : Int32) + A 3).toInt = 120 + (A 3).toInt := i32_add (x := 120) (show -2 ^ 31 ≤ (120 : Int) + (A 3).toInt by omega) (show (120 : Int) + (A 3).toInt < 2 ^ 31 by omega)
  have e60 : ((60 : Int32) + A 4).toInt = 60 + (A 4).toInt := i32_add (x := 60) (show -2 ^ 31 ≤ (60 : Int) + (A 4).toInt by omega) (show (60 : Int) + (A 4).toInt < 2 ^ 31 by omega)
  have e48 : ((48 : Int32) + A 5).toInt = 48 + (A 5).toInt := i32_add (x := 48) (show -2 ^ 31 ≤ (48 : Int) + (A 5).toInt by omega) (show (48 : Int) + (A 5).toInt < 2 ^ 31 by omega)
  refine v_Plet (v_Plet (v_Plet ?_))
  have hE : j_E (fun a _ => ¬ a = 2) s (v_w1 (v_w1 (v_w1 s 2 0 (120 + A 3)) 2 1 (60 + A 4)) 2 2 (48 + A 5)) := j_E_w1 (j_E_w1 (j_E_w1 j_E_rf (fun q => q rfl)) (fun q => q rfl)) (fun q => q rfl)
  have hE2 : (v_w1 (v_w1 (v_w1 s 2 0 (120 + A 3)) 2 1 (60 + A 4)) 2 2 (48 + A 5)).2 = s.2 := rfl
  have g0 : (v_w1 (v_w1 (v_w1 s 2 0 (120 + A 3)) 2 1 (60 + A 4)) 2 2 (48 + A 5)).1 2 0 = 120 + A 3 := by rw [v_w1_1, if_neg (by omega), v_w1_1, if_neg (by omega), v_w1_1, if_pos ⟨rfl, rfl⟩]
  have g1 : (v_w1 (v_w1 (v_w1 s 2 0 (120 + A 3)) 2 1 (60 + A 4)) 2 2 (48 + A 5)).1 2 1 = 60 + A 4 := by rw [v_w1_1, if_neg (by omega), v_w1_1, if_pos ⟨rfl, rfl⟩]
  have g2 : (v_w1 (v_w1 (v_w1 s 2 0 (120 + A 3)) 2 1 (60 + A 4)) 2 2 (48 + A 5)).1 2 2 = 48 + A 5 := by rw [v_w1_1, if_pos ⟨rfl, rfl⟩]
  generalize v_w1 (v_w1 (v_w1 s 2 0 (120 + A 3)) 2 1 (60 + A 4)) 2 2 (48 + A 5) = w at hE hE2 g0 g1 g2 ⊢
  have hg := g_C_eq hS (f := fun j => w.1 2 j) (K := 3) (by rw [g0, e120]) (by rw [g1, e60]) (by rw [g2, e48]) rfl
  have hok := g_C_ok2 hS
  have hln : v_ln 2 = 3 := by decide +kernel
  refine v_Pbi (v_PT (c_read (b := 2) (Or.inr rfl) (c := 3) (s := w) (by decide) (by decide) (by rw [hln]; decide) hg)) ?_
  rintro x u ⟨d1, d2⟩
  have d2 : c_RP (g_C (A 3).toInt.toNat (A 4).toInt.toNat (A 5).toInt.toNat) (g_rd (g_C (A 3).toInt.toNat (A 4).toInt.toNat (A 5).toInt.toNat) 3) x u := d2
  rcases d2 with ⟨-, y2, y3⟩ | ⟨y1, -, -⟩
  · rw [y2, if_pos (by decide)]
    have em : u.1 8 1 = s.1 8 1 := ((d1 8 1 (by unfold v_sc; omega)).1).trans (hE 8 1 (by omega))
    have en : u.1 (23 + 5 * m) 0 = s.1 (23 + 5 * m) 0 := ((d1 (23 + 5 * m) 0 (by unfold v_sc; omega)).1).trans (hE _ 0 (by omega))
    refine v_Pbi (y_adm (A 0) (A 1) (A 2) u (m := m) (by rw [em]; exact hm) h9) ?_
    rintro z v ⟨rfl, v1⟩
    rw [if_neg (by rw [en, hnum]; omega)]
    refine v_Pret (Or.inl ⟨hS, by decide, fun a j z1 z2 => ?_, u, _, j_E_tr (j_E_im hE (fun a j q => by have := jb_C_2 a j q; omega)) (j_E_fr d1 jb_C_sc), y3, v1⟩)
    have h1 := d1 a j (by unfold v_sc; omega)
    refine ⟨(v1.1 a j (by unfold jp_adm; omega)).trans (h1.1.trans (hE a j (by omega))), ?_⟩
    rw [v1.2.2.2.2.2, h1.2, hE2]
  · rw [hok] at y1
    cases y1
/-- the reference writes the comparison on the tape, reads it, and lays the tape's bytes back -/
theorem y_wL9 {s0 : vS} {p1 p2 p3 p4 : Int32} {k : vS → Option (Unit × vS)} {Q : Unit → vS → Prop} (hk : ∀ u, j_E (fun a _ => ¬ a = 165) s0 u → u.2 = s0.2 → (∀ j : Nat, (j : Int) < 3 → u.1 165 j = vp_nar .byte (s0.1 152 j)) → v_P (k u) Q) : ∀ (n : Nat) (v : Int32) (s : vS), 0 ≤ v.toInt → j_E (fun a _ => ¬ a = 165) s0 s → s.2 = s0.2 → (∀ j : Nat, (j : Int) < v.toInt → s.1 165 j = vp_nar .byte (s0.1 152 j)) → v_P (f_Md_writeText_L9 p1 p2 p3 p4 k n v s) Q
  | 0, _, _, _, _, _, _ => v_Pnone
  | n + 1, v, s, hv, hE, h2, hr => by
    show v_P (f_Md_writeText_L9b p1 p2 p3 p4 k (f_Md_writeText_L9 p1 p2 p3 p4 k n) v s) Q
    unfold f_Md_writeText_L9b
    by_cases hc : 3 ≤ v.toInt
    · rw [if_pos hc]
      exact hk s hE h2 (fun j hj => hr j (by omega))
    · rw [if_neg hc]
      have ei := v_inc (x := v) (by omega)
      have ev : ((v.toNatClampNeg : Nat) : Int) = v.toInt := by rw [v_nc]; omega
      generalize v.toNatClampNeg = w at ev ⊢
      refine v_Pif (fun _ => v_Pif (fun _ => v_Plet (y_wL9 hk n (v + 1) _ (by omega) (j_E_w1 hE (fun q => q rfl)) h2 (fun j hj => ?_))) (fun _ => v_Pnone)) (fun _ => v_Pnone)
      rw [ei] at hj
      by_cases hz : j = w
      · subst hz
        rw [v_w1_1, if_pos ⟨rfl, rfl⟩, hE 152 j (by omega)]
      · rw [v_w1_1, if_neg (by omega)]
        exact hr j (by omega)
theorem y_wL102 {s0 : vS} {p4 : Int32} {k : vS → Option (Unit × vS)} {Q : Unit → vS → Prop} (hk : ∀ u, j_E (fun a _ => ¬ a = 152) s0 u → u.2 = s0.2 → (∀ j : Nat, u.1 152 j = if (j : Int) < 3 then vp_nar .byte (s0.1 165 j) else s0.1 152 j) → v_P (k u) Q) : ∀ (n : Nat) (v : Int32) (s : vS), 0 ≤ v.toInt → v.toInt ≤ 3 → j_E (fun a _ => ¬ a = 152) s0 s → s.2 = s0.2 → (∀ j : Nat, s.1 152 j = if (j : Int) < v.toInt then vp_nar .byte (s0.1 165 j) else s0.1 152 j) → v_P (f_Md_writeText_L102 p4 k n v s) Q
  | 0, _, _, _, _, _, _, _ => v_Pnone
  | n + 1, v, s, hv, hv3, hE, h2, hr => by
    show v_P (f_Md_writeText_L102b p4 k (f_Md_writeText_L102 p4 k n) v s) Q
    unfold f_Md_writeText_L102b
    by_cases hc : 3 ≤ v.toInt
    · rw [if_pos hc]
      exact hk s hE h2 (fun j => by rw [hr j, show v.toInt = 3 by omega])
    · rw [if_neg hc]
      have ei := v_inc (x := v) (by omega)
      have ev : ((v.toNatClampNeg : Nat) : Int) = v.toInt := by rw [v_nc]; omega
      generalize v.toNatClampNeg = w at ev ⊢
      refine v_Pif (fun _ => v_Pif (fun _ => v_Plet (y_wL102 hk n (v + 1) _ (by omega) (by omega) (j_E_w1 hE (fun q => q rfl)) h2 (fun j => ?_))) (fun _ => v_Pnone)) (fun _ => v_Pnone)
      have hj := hr j
      rw [ei]
      by_cases hz : j = w
      · subst hz
        rw [v_w1_1, if_pos ⟨rfl, rfl⟩, if_pos (by omega), hE 165 j (by omega)]
      · rw [v_w1_1, if_neg (by omega), hj]
        by_cases hx : (j : Int) < v.toInt
        · rw [if_pos hx, if_pos (by omega)]
        · rw [if_neg hx, if_neg (by omega)]
/-- on the reference's side the text of six numbers stands at place m -/
def j_wtM (A : Nat → Int32) (m : Nat) (t u : vS) : Prop := j_E (fun a j => ¬ (m_px m a j ∨ a = 152 ∨ a = 165)) t u ∧ (∀ j, u.2 183 j = t.2 183 j) ∧ u.1 151 2 = t.1 151 2 ∧ (∀ j : Nat, u.1 152 j = if (j : Int) < 3 then vp_nar .byte (vp_nar .byte (t.1 152 j)) else t.1 152 j) ∧ m_text u m (g_rd (g_C (A 3).toInt.toNat (A 4).toInt.toNat (A 5).toInt.toNat) 3).2.2
theorem y_wt {t s : vS} {A : Nat → Int32} (hS : j_six A) {m : Nat} (hm : (t.1 151 14).toInt = m) (h9 : m ≤ 9) (hE : j_E (fun a j => ¬ (a = 165 ∨ (a = 152 ∧ j = 0))) t s) (h2 : s.2 = t.2) (hr : ∀ j : Nat, (j : Int) < 3 → s.1 165 j = vp_nar .byte (t.1 152 j)) (h0 : s.1 152 0 = 120 + A 3) {K : Int32} (hK : K.toInt = 60 + (A 4).toInt) : v_P (v_let (v_w1 s 152 1 (vp_nar .byte K)) (fun s4 => (v_let (v_w1 s4 152 2 (vp_nar .byte (Int8.toInt32 (Int32.toInt8 ((48 : Int32) + A 5))))) (fun s5 => (v_let (v_w1 s5 151 2 3) (fun s6 => (v_bi (f_Md_readText (s6.1 151 14) s6) (fun _ s7 => (f_Md_writeText_L102 (t.1 151 2) (fun s8 => (v_let (v_w1 s8 151 2 (t.1 151 2)) (fun s9 => (some ((), s9))))) 4096 0 s7))))))))) (fun _ u => j_wtM A m t u) := by
  have hS2 := hS
  obtain ⟨-, -, -, c3, c4, c5⟩ := hS2
  have e120 : ((120 : Int32) + A 3).toInt = 120 + (A 3).toInt := i32_add (x := 120) (show -2 ^ 31 ≤ (120 : Int) + (A 3).toInt by omega) (show (120 : Int) + (A 3).toInt < 2 ^ 31 by omega)
  have e48 : ((48 : Int32) + A 5).toInt = 48 + (A 5).toInt := i32_add (x := 48) (show -2 ^ 31 ≤ (48 : Int) + (A 5).toInt by omega) (show (48 : Int) + (A 5).toInt < 2 ^ 31 by omega)
  rw [m_by2 (b := K) ⟨by omega, by omega⟩, m_by (b := (48 : Int32) + A 5) ⟨by omega, by omega⟩]
  refine v_Plet (v_Plet (v_Plet ?_))
  have fE : j_E (fun a j => ¬ (a = 165 ∨ a = 152 ∨ (a = 151 ∧ j = 2))) t (v_w1 (v_w1 (v_w1 s 152 1 K) 152 2 (48 + A 5)) 151 2 3) := j_E_w1 (j_E_w1 (j_E_w1 (j_E_im hE (fun a j q => by omega)) (fun q => q (by omega))) (fun q => q (by omega))) (fun q => q (by omega))
  have fr : ∀ j : Nat, (j : Int) < 3 → (v_w1 (v_w1 (v_w1 s 152 1 K) 152 2 (48 + A 5)) 151 2 3).1 165 j = vp_nar .byte (t.1 152 j) := fun j hj => by rw [v_w1_1, if_neg (by omega), v_w1_1, if_neg (by omega), v_w1_1, if_neg (by omega)]; exact hr j hj
  have fo : ∀ j : Nat, ¬ (j : Int) < 3 → (v_w1 (v_w1 (v_w1 s 152 1 K) 152 2 (48 + A 5)) 151 2 3).1 152 j = t.1 152 j := fun j hj => by rw [v_w1_1, if_neg (by omega), v_w1_1, if_neg (by omega), v_w1_1, if_neg (by omega)]; exact hE 152 j (by omega)
  have f3 : (v_w1 (v_w1 (v_w1 s 152 1 K) 152 2 (48 + A 5)) 151 2 3).1 151 2 = 3 := by rw [v_w1_1, if_pos ⟨rfl, rfl⟩]
  have g0 : (v_w1 (v_w1 (v_w1 s 152 1 K) 152 2 (48 + A 5)) 151 2 3).1 152 0 = 120 + A 3 := by rw [v_w1_1, if_neg (by omega), v_w1_1, if_neg (by omega), v_w1_1, if_neg (by omega)]; exact h0
  have g1 : (v_w1 (v_w1 (v_w1 s 152 1 K) 152 2 (48 + A 5)) 151 2 3).1 152 1 = K := by rw [v_w1_1, if_neg (by omega), v_w1_1, if_neg (by omega), v_w1_1, if_pos ⟨rfl, rfl⟩]
  have g2 : (v_w1 (v_w1 (v_w1 s 152 1 K) 152 2 (48 + A 5)) 151 2 3).1 152 2 = 48 + A 5 := by rw [v_w1_1, if_neg (by omega), v_w1_1, if_pos ⟨rfl, rfl⟩]
  have f2 : (v_w1 (v_w1 (v_w1 s 152 1 K) 152 2 (48 + A 5)) 151 2 3).2 = t.2 := h2
  generalize v_w1 (v_w1 (v_w1 s 152 1 K) 152 2 (48 + A 5)) 151 2 3 = w at fE fr fo f3 g0 g1 g2 f2 ⊢
  have em : w.1 151 14 = t.1 151 14 := fE 151 14 (by omega)
  have hg : m_g (g_C (A 3).toInt.toNat (A 4).toInt.toNat (A 5).toInt.toNat) w := by
    refine ⟨by rw [f3]; decide, fun j => ?_⟩
    unfold m_let
    rw [f3]
    exact g_C_eq hS (f := fun j => w.1 152 j) (K := 3) (by rw [g0, e120]) (by rw [g1, hK]) (by rw [g2, e48]) rfl j
  refine v_Pbi (v_PT (m_readText (p := m) (by rw [em]; exact hm) h9 hg)) ?_
  rintro x u ⟨d1, d2, d3⟩
  rw [f3] at d3
  have d3 : ((g_rd (g_C (A 3).toInt.toNat (A 4).toInt.toNat (A 5).toInt.toNat) 3).1 = true ∧ x = -1 ∧ m_text u m (g_rd (g_C (A 3).toInt.toNat (A 4).toInt.toNat (A 5).toInt.toNat) 3).2.2) ∨ ((g_rd (g_C (A 3).toInt.toNat (A 4).toInt.toNat (A 5).toInt.toNat) 3).1 = false ∧ x.toInt = (g_rd (g_C (A 3).toInt.toNat (A 4).toInt.toNat (A 5).toInt.toNat) 3).2.1 ∧ (g_rd (g_C (A 3).toInt.toNat (A 4).toInt.toNat (A 5).toInt.toNat) 3).2.1 ≤ 60) := d3
  rcases d3 with ⟨-, -, d5⟩ | ⟨y1, -, -⟩
  · refine y_wL102 (s0 := u) (fun z zE z2 zr => ?_) 4096 0 u (by decide) (by decide) j_E_rf rfl (fun j => by rw [if_neg (by show ¬ (j : Int) < 0; omega)])
    have hu152 : ∀ j, u.1 152 j = w.1 152 j := fun j => (d1 152 j (by unfold m_px m_pl m_pd; omega)).1
    have hu165 : ∀ j, u.1 165 j = w.1 165 j := fun j => (d1 165 j (by unfold m_px m_pl m_pd; omega)).1
    have hE9 : j_E (fun a j => ¬ (a = 151 ∧ j = 2)) z (v_w1 z 151 2 (t.1 151 2)) := j_E_w1 j_E_rf (fun q => q (by omega))
    refine v_Plet (v_Pret ⟨?_, fun j => ?_, by rw [v_w1_1, if_pos ⟨rfl, rfl⟩], fun j => ?_, ?_⟩)
    · refine j_E_w1 (j_E_tr (j_E_im fE (fun a j q => ?_)) (j_E_tr (j_E_F d1 (fun a j q z => q (Or.inl z))) (j_E_im zE (fun a j q => ?_)))) (fun q => q (Or.inl (by unfold m_px; omega)))
      · intro z
        exact q (by unfold m_px; omega)
      · intro z
        exact q (by omega)
    · show z.2 183 j = t.2 183 j
      rw [z2, (d1 183 j (by unfold m_px m_pl m_pd; omega)).2, f2]
    · rw [hE9 152 j (by omega), zr j]
      by_cases hx : (j : Int) < 3
      · rw [if_pos hx, if_pos hx, hu165, fr j hx]
      · rw [if_neg hx, if_neg hx, hu152, fo j hx]
    · exact m_text_eq d5 (by rw [hE9 155 m (by omega), zE 155 m (by omega)]) (fun j _ _ => ⟨by rw [hE9 153 j (by omega), zE 153 j (by omega)], by rw [hE9 154 j (by omega), zE 154 j (by omega)]⟩) (fun j _ _ => ⟨by rw [hE9 156 j (by omega), zE 156 j (by omega)], by rw [hE9 157 j (by omega), zE 157 j (by omega)]⟩)
  · rw [g_C_ok2 hS] at y1
    cases y1
theorem y_writeText {t : vS} {A : Nat → Int32} (hS : j_six A) {m : Nat} (hm : (t.1 151 14).toInt = m) (h9 : m ≤ 9) : v_P (f_Md_writeText (A 3) (A 4) (A 5) t) (fun _ u => j_wtM A m t u) := by
  have hS2 := hS
  obtain ⟨-, -, -, c3, c4, c5⟩ := hS2
  have e120 : ((120 : Int32) + A 3).toInt = 120 + (A 3).toInt := i32_add (x := 120) (show -2 ^ 31 ≤ (120 : Int) + (A 3).toInt by omega) (show (120 : Int) + (A 3).toInt < 2 ^ 31 by omega)
  unfold f_Md_writeText
  refine y_wL9 (s0 := t) (fun u uE u2 ur => ?_) 4096 0 t (by decide) j_E_rf rfl (fun j hj => absurd hj (by show ¬ (j : Int) < 0; omega))
  rw [m_by (b := (120 : Int32) + A 3) ⟨by omega, by omega⟩]
  refine v_Plet ?_
  have hE : j_E (fun a j => ¬ (a = 165 ∨ (a = 152 ∧ j = 0))) t (v_w1 u 152 0 (120 + A 3)) := j_E_w1 (j_E_im uE (fun a j q => by omega)) (fun q => q (by omega))
  have hr : ∀ j : Nat, (j : Int) < 3 → (v_w1 u 152 0 (120 + A 3)).1 165 j = vp_nar .byte (t.1 152 j) := fun j hj => by rw [v_w1_1, if_neg (by omega)]; exact ur j hj
  have h0 : (v_w1 u 152 0 (120 + A 3)).1 152 0 = 120 + A 3 := by rw [v_w1_1, if_pos ⟨rfl, rfl⟩]
  have h2 : (v_w1 u 152 0 (120 + A 3)).2 = t.2 := u2
  refine v_Pif (fun c0 => ?_) (fun c0 => v_Pif (fun c1 => ?_) (fun c1 => ?_))
  · exact y_wt hS hm h9 hE h2 hr h0 (by rw [c0]; rfl)
  · exact y_wt hS hm h9 hE h2 hr h0 (by rw [c1]; rfl)
  · exact y_wt hS hm h9 hE h2 hr h0 (by rw [show (A 4).toInt = 2 by omega]; rfl)
/-- one law came on both sides -/
theorem j_six_came {s t s1 u t1 : vS} {A : Nat → Int32} {m : Nat} (h : j_R s t) (hS : j_six A) (hm : (t.1 151 14).toInt = m) (h9 : m ≤ 9) (hC : j_cmC A m s s1) (hW : j_wtM A m t u) (hL : j_adl (A 0) (A 1) (A 2) m u t1) : j_R s1 t1 := by
  obtain ⟨-, v, i2, a1, a2, b1, b2, ⟨b3, b4, b5⟩, b6, b7, -⟩ := hC
  obtain ⟨c1, c2, c3, c4, c5⟩ := hW
  obtain ⟨d1, d2, d3, d4, d5, -⟩ := hL
  have hJ : j_R v t := j_R_C h a1
  have e14 : u.1 151 14 = t.1 151 14 := c1 151 14 (by unfold m_px m_pl m_pd; omega)
  have hlen := c_rd_len (g_C_ltr (b := (A 3).toInt.toNat) (c := (A 4).toInt.toNat) (d := (A 5).toInt.toNat)) 3 (g_C_ok2 hS)
  refine j_came hJ hm h9 (j_E_im b1 (fun a j q z => q (by unfold jp_law; exact Or.inl z))) (j_E_tr (j_E_im c1 (fun a j q z => q (by unfold jp_law; rcases z with z | z | z; exact Or.inr (Or.inr (Or.inl z)); exact Or.inr (Or.inr (Or.inr (Or.inl z))); exact Or.inr (Or.inr (Or.inr (Or.inr (Or.inl z))))))) (j_E_im d1 (fun a j q z => q (by unfold jp_law; omega)))) ⟨b2, by rw [d2, e14]⟩ ⟨by rw [b3, d3], by rw [b4, d4], by rw [b5, d5]⟩ (c_W_text a2 hlen tk_rd b6 b7) (m_text_eq c5 (d1 155 m (by omega)) (fun j _ _ => ⟨d1 153 j (by omega), d1 154 j (by omega)⟩) (fun j _ _ => ⟨d1 156 j (by omega), d1 157 j (by omega)⟩)) ?_ ⟨by rw [b3]; unfold j_ok; have := hS.1; omega, by rw [b4]; unfold j_ok; have := hS.2.1; omega, by rw [b5]; unfold j_ok; have := hS.2.2.1; omega⟩
  have et := hJ.2.1
  have f0 : s1.1 0 1 = v.1 0 1 := b1 0 1 (by unfold jp_adm; omega)
  refine ⟨by rw [f0, d1 151 2 (by omega), c3]; exact et.1, fun j hj => ?_⟩
  rw [f0] at hj
  have h2 := et.2 j hj
  rw [b1 1 j (by unfold jp_adm; omega), d1 152 j (by omega), c4 j]
  by_cases hx : (j : Int) < 3
  · rw [if_pos hx, h2.2, h2.2]
    exact h2
  · rw [if_neg hx]
    exact h2
theorem v_3 {c1 c2 c3 : Prop} [Decidable c1] [Decidable c2] [Decidable c3] {α : Type} {o : Option α} {x : α} (h : (if c1 then (if c2 then (if c3 then o else none) else none) else none) = some x) : o = some x := by
  by_cases h1 : c1
  · rw [if_pos h1] at h
    by_cases h2 : c2
    · rw [if_pos h2] at h
      by_cases h3 : c3
      · rw [if_pos h3] at h; exact h
      · rw [if_neg h3] at h; cases h
    · rw [if_neg h2] at h; cases h
  · rw [if_neg h1] at h; cases h
/-- the loops, side by side -/
theorem j_lawsL {b c d : Int32} {r K : Nat} {Z : Int32} {E : Nat → Int64} (hb : 0 ≤ b.toInt ∧ b.toInt ≤ 5) (hK : K = b.toNatClampNeg) (hr : r = 139 + 2 * K) (hZ : 0 ≤ Z.toInt ∧ Z.toInt ≤ 60) (hc : 0 ≤ c.toInt) : ∀ (n1 n2 : Nat) (v : Int32) (s t : vS), j_R s t → 0 ≤ v.toInt → v.toInt ≤ d.toInt → (v.toInt = 0 ∨ c.toInt + 6 * v.toInt ≤ 60) → s.1 r 2 = Z → (∀ i, i < 60 → s.2 (r + 1) i = E i) → t.1 182 K = Z → (∀ i, i < 60 → t.2 183 (60 * K + i) = E i) → 0 ≤ (t.1 151 14).toInt ∧ (t.1 151 14).toInt ≤ 10 → j_S (f_Ol_laws_L57 c d r (fun w11 s12 => some (w11, s12)) n1 v s) (f_Md_laws_L58 b c d (fun w9 s10 => some (w9, s10)) (fun s11 => some (d, s11)) n2 v t)
  | 0, _, _, _, _, _, _, _, _, _, _, _, _, _ => fun _ _ _ _ e _ => by cases e
  | _ + 1, 0, _, _, _, _, _, _, _, _, _, _, _, _ => fun _ _ _ _ _ e => by cases e
  | n1 + 1, n2 + 1, v, s, t, h, hv, hvd, hv60, z1, z2, z3, z4, hl => by
    show j_S (f_Ol_laws_L57b c d r (fun w11 s12 => some (w11, s12)) (f_Ol_laws_L57 c d r (fun w11 s12 => some (w11, s12)) n1) v s) (f_Md_laws_L58b b c d (fun w9 s10 => some (w9, s10)) (fun s11 => some (d, s11)) (f_Md_laws_L58 b c d (fun w9 s10 => some (w9, s10)) (fun s11 => some (d, s11)) n2) v t)
    unfold f_Ol_laws_L57b f_Md_laws_L58b
    have em : s.1 8 1 = t.1 151 14 := h.1
    have hstop : j_S (some (v, s)) (some (v, t)) := fun r1 s1 r2 t1 e1 e2 => by
      obtain ⟨rfl, rfl⟩ := v_so e1
      obtain ⟨rfl, rfl⟩ := v_so e2
      exact ⟨h, rfl⟩
    by_cases hd : d.toInt ≤ v.toInt
    · rw [if_pos hd, if_pos hd]
      have e : v = d := Int32.toInt_inj.mp (by omega)
      rw [← e]
      exact hstop
    · rw [if_neg hd, if_neg hd]
      have hc2 := Int32.toInt_lt c
      have hv2 := Int32.toInt_lt v
      have e6 : v.toInt ≤ 10 → ((6 : Int32) * v).toInt = 6 * v.toInt := fun q => i32_mul (x := 6) (show -2 ^ 31 ≤ (6 : Int) * v.toInt by omega) (show (6 : Int) * v.toInt < 2 ^ 31 by omega)
      have hv10 : v.toInt ≤ 10 := by omega
      have e6 := e6 hv10
      have eI : (c + (6 : Int32) * v).toInt = c.toInt + 6 * v.toInt := by rw [i32_add (by omega) (by omega), e6]
      have eA : ((Int32.toInt64 c) + (Int32.toInt64 ((6 : Int32) * v))).toInt = c.toInt + 6 * v.toInt := by
        rw [i64_add (by rw [i64_of_i32, i64_of_i32]; omega) (by rw [i64_of_i32, i64_of_i32]; omega), i64_of_i32, i64_of_i32, e6]
      have eB : (((Int32.toInt64 c) + (Int32.toInt64 ((6 : Int32) * v))) + (5 : Int64)).toInt = c.toInt + 6 * v.toInt + 5 := by
        have e5 : (5 : Int64).toInt = 5 := rfl
        rw [i64_add (by rw [eA, e5]; omega) (by rw [eA, e5]; omega), eA, e5]
      generalize hA : (Int32.toInt64 c) + (Int32.toInt64 ((6 : Int32) * v)) = A at eA eB ⊢
      generalize c + (6 : Int32) * v = I at eI ⊢
      have hneg : ¬ (lg_cmp A (0 : Int64)).toInt < 0 := fun q => by
        have h1 : A < 0 := (lg_cmp_lt A 0).mp (by rw [Int32.lt_iff_toInt_lt]; exact q)
        rw [Int64.lt_iff_toInt_lt] at h1
        have h0 : (0 : Int64).toInt = 0 := rfl
        omega
      have hpos : 0 ≤ (lg_cmp (A + 5) (Int32.toInt64 Z)).toInt ↔ Z.toInt ≤ c.toInt + 6 * v.toInt + 5 := by
        have h1 := lg_cmp_ge (A + 5) (Int32.toInt64 Z)
        rw [Int64.le_iff_toInt_le, i64_of_i32, eB, Int32.le_iff_toInt_le] at h1
        exact h1
      have hs6 : (Z - (6 : Int32)).toInt = Z.toInt - 6 := v_sub (y := 6) (show -2147483648 ≤ Z.toInt - 6 by omega) (show Z.toInt - 6 < 2147483648 by omega)
      have hbi : v_in b 6 := ⟨hb.1, by omega⟩
      rw [if_neg hneg, if_pos hbi, ← hK, z3]
      have hcstop : ∀ {o : Option (Int32 × vS)}, o = some (0, s) → v_bi o (fun r112 s112 => (if r112.toInt = 0 then some (v, s112) else (f_Ol_laws_L57 c d r (fun w11 s12 => some (w11, s12)) n1 (v + 1) s112))) = some (v, s) := fun q => by rw [q]; rfl
      by_cases hx : Z.toInt ≤ c.toInt + 6 * v.toInt + 5
      · rw [if_pos (hpos.mpr hx)]
        have q : f_Ol_cameFromSix r I s = some (0, s) := by
          unfold f_Ol_cameFromSix
          rw [z1, if_pos (by omega)]
        rw [hcstop q]
        exact hstop
      · rw [if_neg (fun q => hx (hpos.mp q))]
        by_cases hl10 : (t.1 151 14).toInt = 10
        · rw [if_pos hl10]
          have q : f_Ol_cameFromSix r I s = some (0, s) := by
            unfold f_Ol_cameFromSix
            rw [z1, if_neg (by omega), if_neg (by rw [em]; omega)]
          rw [hcstop q]
          exact hstop
        · rw [if_neg hl10]
          have hm : (t.1 151 14).toInt = ((t.1 151 14).toInt.toNat : Nat) := by omega
          generalize (t.1 151 14).toInt.toNat = m at hm
          have hb5 : K ≤ 5 := by rw [hK, v_nc]; omega
          have eIA : (Int64.toInt32 A).toInt = A.toInt := v_l2i ⟨by omega, by omega⟩
          have eE := (m_60b hb (c := Int64.toInt32 A) ⟨by omega, by omega⟩).2
          have hKi : (K : Int) = b.toInt := by rw [hK, v_nc]; omega
          generalize hE : ((60 : Int32) * b) + (Int64.toInt32 A) = X at eE ⊢
          have hI0 : I.toInt.toNat + 5 < 60 := by omega
          have hX : ∀ x : Nat, x < 6 → X.toInt + x = ((60 * K + (I.toInt.toNat + x) : Nat) : Int) := fun x hx => by omega
          have e_1 : (X + (1 : Int32)).toInt = X.toInt + 1 := i32_add (y := 1) (show -2 ^ 31 ≤ X.toInt + 1 by omega) (show X.toInt + 1 < 2 ^ 31 by omega)
          have e_2 : (X + (2 : Int32)).toInt = X.toInt + 2 := i32_add (y := 2) (show -2 ^ 31 ≤ X.toInt + 2 by omega) (show X.toInt + 2 < 2 ^ 31 by omega)
          have e_3 : (X + (3 : Int32)).toInt = X.toInt + 3 := i32_add (y := 3) (show -2 ^ 31 ≤ X.toInt + 3 by omega) (show X.toInt + 3 < 2 ^ 31 by omega)
          have e_4 : (X + (4 : Int32)).toInt = X.toInt + 4 := i32_add (y := 4) (show -2 ^ 31 ≤ X.toInt + 4 by omega) (show X.toInt + 4 < 2 ^ 31 by omega)
          have e_5 : (X + (5 : Int32)).toInt = X.toInt + 5 := i32_add (y := 5) (show -2 ^ 31 ≤ X.toInt + 5 by omega) (show X.toInt + 5 < 2 ^ 31 by omega)
          have hAx : ∀ x, x < 6 → Int64.toInt32 (s.2 (r + 1) (I.toInt.toNat + x)) = (fun x => Int64.toInt32 (E (I.toInt.toNat + x))) x := fun x hx => by rw [z2 _ (by omega)]
          have n0 : Int32.toNatClampNeg X = 60 * K + (I.toInt.toNat + 0) := by rw [v_nc]; have := hX 0 (by decide); omega
          have n1x : Int32.toNatClampNeg (X + (1 : Int32)) = 60 * K + (I.toInt.toNat + 1) := by rw [v_nc, e_1]; have := hX 1 (by decide); omega
          have n2x : Int32.toNatClampNeg (X + (2 : Int32)) = 60 * K + (I.toInt.toNat + 2) := by rw [v_nc, e_2]; have := hX 2 (by decide); omega
          have n3 : Int32.toNatClampNeg (X + (3 : Int32)) = 60 * K + (I.toInt.toNat + 3) := by rw [v_nc, e_3]; have := hX 3 (by decide); omega
          have n4 : Int32.toNatClampNeg (X + (4 : Int32)) = 60 * K + (I.toInt.toNat + 4) := by rw [v_nc, e_4]; have := hX 4 (by decide); omega
          have n5 : Int32.toNatClampNeg (X + (5 : Int32)) = 60 * K + (I.toInt.toNat + 5) := by rw [v_nc, e_5]; have := hX 5 (by decide); omega
          have hMx : ∀ x, x < 6 → ∀ y : Nat, y = 60 * K + (I.toInt.toNat + x) → ∀ t2 : vS, (∀ j, t2.2 183 j = t.2 183 j) → Int64.toInt32 (t2.2 183 y) = (fun x => Int64.toInt32 (E (I.toInt.toNat + x))) x := fun x hx y hy t2 ht2 => by rw [ht2, hy, z4 _ (by omega)]
          generalize hAA : (fun x => Int64.toInt32 (E (I.toInt.toNat + x))) = AA at hAx hMx
          have hC := y_six r I s AA (by omega) (by rw [z1]; omega) (by rw [z1]; exact hZ.2) hAx (m := m) (by rw [em]; exact hm) (by omega) (h.2.2.1 m (by omega))
          have hM := y_lawRow X t AA (hMx 0 (by decide) _ n0 t (fun _ => rfl)) (hMx 1 (by decide) _ n1x t (fun _ => rfl)) (hMx 2 (by decide) _ n2x t (fun _ => rfl)) (hMx 3 (by decide) _ n3 t (fun _ => rfl)) (hMx 4 (by decide) _ n4 t (fun _ => rfl)) (hMx 5 (by decide) _ n5 t (fun _ => rfl))
          intro r1 s1 r2 t1 g1 g2
          obtain ⟨x1, u1, a1, a2⟩ := v_bd g1
          obtain ⟨x2, u2, b1, b2⟩ := v_bd g2
          obtain ⟨rfl, hx2⟩ := hM x2 u2 b1
          rcases hC x1 u1 a1 with ⟨q1, q2, q3⟩ | ⟨q1, q2, rfl⟩
          · rcases hx2 with ⟨-, y⟩ | ⟨y, -⟩
            · exact absurd q1 y
            · rw [if_neg q2] at a2
              rw [if_neg y] at b2
              have hgo : v_P (v_bi (f_Md_writeText (AA 3) (AA 4) (AA 5) u2) (fun _ s119 => (if v_in X 360 then (if v_in (X + (1 : Int32)) 360 then (if v_in (X + (2 : Int32)) 360 then (v_bi (f_Md_addLaw (Int64.toInt32 (s119.2 183 (Int32.toNatClampNeg X))) (Int64.toInt32 (s119.2 183 (Int32.toNatClampNeg (X + (1 : Int32))))) (Int64.toInt32 (s119.2 183 (Int32.toNatClampNeg (X + (2 : Int32))))) s119) (fun r123 s123 => f_Md_laws_L58 b c d (fun w9 s10 => some (w9, s10)) (fun s11 => some (d, s11)) n2 (v + 1) s123)) else none) else none) else none))) (fun r2 t1 => ∃ u w, j_wtM AA m u2 u ∧ j_adl (AA 0) (AA 1) (AA 2) m u w ∧ f_Md_laws_L58 b c d (fun w9 s10 => some (w9, s10)) (fun s11 => some (d, s11)) n2 (v + 1) w = some (r2, t1)) := by
                refine v_Pbi (y_writeText q1 hm (by omega)) ?_
                intro _ u hu
                rw [hMx 0 (by decide) _ n0 u hu.2.1, hMx 1 (by decide) _ n1x u hu.2.1, hMx 2 (by decide) _ n2x u hu.2.1]
                refine v_Pif (fun _ => v_Pif (fun _ => v_Pif (fun _ => ?_) (fun _ => v_Pnone)) (fun _ => v_Pnone)) (fun _ => v_Pnone)
                refine v_Pbi (y_addLaw (AA 0) (AA 1) (AA 2) u (m := m) (by rw [hu.1 151 14 (by unfold m_px m_pl m_pd; omega)]; exact hm) (by omega)) ?_
                rintro _ w ⟨-, hw⟩
                exact fun r2 t1 e => ⟨u, w, hu, hw, e⟩
              rw [hMx 3 (by decide) _ n3 u2 (fun _ => rfl), hMx 4 (by decide) _ n4 u2 (fun _ => rfl), hMx 5 (by decide) _ n5 u2 (fun _ => rfl)] at b2
              have b3 := v_3 b2
              obtain ⟨u, w, hu, hw, e⟩ := hgo r2 t1 b3
              have hJ := j_six_came h q1 hm (by omega) q3 hu hw
              have hs := q3.1
              have ei := v_inc (x := v) (by omega)
              have hwE : ∀ j, w.1 182 j = u2.1 182 j := fun j => (hw.1 182 j (by omega)).trans (hu.1 182 j (by unfold m_px m_pl m_pd; omega))
              have hw14 : (w.1 151 14).toInt = m + 1 := by rw [hw.2.1, hu.1 151 14 (by unfold m_px m_pl m_pd; omega), v_inc (by omega), hm]
              refine j_lawsL hb hK hr hZ hc n1 n2 (v + 1) u1 w hJ (by omega) (by omega) (Or.inr (by omega)) (by rw [(hs r 2 (by omega) (by omega)).1, z1]) (fun i hi => by rw [(hs (r + 1) i (by omega) (by omega)).2, z2 i hi]) (by rw [hwE, z3]) (fun i hi => by rw [hw.2.2.2.2.2, hu.2.1, z4 i hi]) (by omega) r1 s1 r2 t1 a2 e
          · rcases hx2 with ⟨y1, -⟩ | ⟨-, y⟩
            · rw [if_pos q2] at a2
              rw [if_pos y1] at b2
              exact hstop r1 s1 r2 t1 a2 b2
            · exact absurd y q1
/-- what the shelves hold, over two stores -/
def z_r0x (s t : vS) (k : Nat) : Prop := ((t.1 181 k).toInt = -1 ∧ (s.1 (139 + 2 * k) 0).toInt = -1) ∨ (0 ≤ (t.1 181 k).toInt ∧ (s.1 (139 + 2 * k) 0).toInt = 5 ∧ s.1 (139 + 2 * k) 1 = t.1 181 k) ∨ (-6 ≤ (t.1 181 k).toInt ∧ (t.1 181 k).toInt ≤ -2 ∧ (s.1 (139 + 2 * k) 0).toInt = -2 - (t.1 181 k).toInt ∧ s.1 (139 + 2 * k) 2 = t.1 182 k)
theorem j_laws {s t : vS} (h : j_R s t) (hR : v_RI t) (hK : v_KQ s) (hr : ∀ k, k < 6 → z_r0x s t k) (he : ∀ k, k < 6 → (t.1 181 k).toInt ≤ -2 → ∀ i, i < 60 → s.2 (140 + 2 * k) i = t.2 183 (60 * k + i)) (b c d : Int32) : j_S (f_Ol_laws b c d s) (f_Md_laws b c d t) := by
  have hm := hR.1.1
  have hst : ∀ x : Int32, j_S (some (x, s)) (some (x, t)) := fun x r1 s1 r2 t1 e1 e2 => by
    obtain ⟨rfl, rfl⟩ := v_so e1
    obtain ⟨rfl, rfl⟩ := v_so e2
    exact ⟨h, rfl⟩
  unfold f_Ol_laws f_Md_laws
  rw [z_isShelf, v_bi_some, v_bif, z_MisShelf, v_bi_some, v_bif]
  by_cases h1 : 0 ≤ b.toInt ∧ b.toInt ≤ 5
  · rw [if_pos h1, if_pos h1, z_in, v_bi_some, v_bif]
    have hv : v_in b 6 := ⟨h1.1, by omega⟩
    have hKk : b.toNatClampNeg < 6 := by rw [v_nc]; omega
    by_cases hd : 1 ≤ d.toInt ∧ d.toInt ≤ 10
    · rw [if_neg (show ¬ d.toInt < 1 by omega), if_pos hd.2, if_pos (show (1 : Int32).toInt ≤ d.toInt ∧ d.toInt ≤ (10 : Int32).toInt from hd)]
      have hr1 := hr _ hKk
      have he1 := he _ hKk
      have hKd : v_kd (139 + 2 * b.toNatClampNeg) = 6 := n_Ks (s := s) h1
      have hz := hK.2 _ hKd
      rw [z_shelfAt b s h1, v_bi_some, if_pos hKd, w_isBare, v_bi_some, v_bif, if_pos hv]
      unfold z_r0x at hr1
      rcases hr1 with ⟨a1, a2⟩ | ⟨a1, a2, -⟩ | ⟨a1, a2, a3, a4⟩
      · rw [if_pos a2, if_pos a1, if_pos hv, if_pos a1]
        exact hst 0
      · rw [if_neg (show ¬ (s.1 (139 + 2 * b.toNatClampNeg) 0).toInt = -1 by omega), if_neg (show ¬ (s.1 (139 + 2 * b.toNatClampNeg) 0).toInt = 0 by omega), if_neg (show ¬ (t.1 181 b.toNatClampNeg).toInt = -1 by omega), if_pos hv, if_neg (show ¬ (t.1 181 b.toNatClampNeg).toInt = -2 by omega)]
        exact hst (-12)
      · rw [if_neg (show ¬ (s.1 (139 + 2 * b.toNatClampNeg) 0).toInt = -1 by omega), if_neg (show ¬ (t.1 181 b.toNatClampNeg).toInt = -1 by omega), if_pos hv]
        by_cases hw : (t.1 181 b.toNatClampNeg).toInt = -2
        · rw [if_pos (show (s.1 (139 + 2 * b.toNatClampNeg) 0).toInt = 0 by omega), if_pos hw, if_pos hv, if_neg (show ¬ (t.1 181 b.toNatClampNeg).toInt = -1 by omega)]
          by_cases hc : 0 ≤ c.toInt
          · rw [if_pos hc]
            exact j_lawsL (Z := s.1 (139 + 2 * b.toNatClampNeg) 2) (E := fun i => s.2 (140 + 2 * b.toNatClampNeg) i) h1 rfl rfl hz hc 4096 4096 0 s t h (by decide) (by show (0 : Int) ≤ _; omega) (Or.inl rfl) rfl (fun i hi => by rw [show 139 + 2 * b.toNatClampNeg + 1 = 140 + 2 * b.toNatClampNeg by omega]) a4.symm (fun i hi => (he1 (by omega) i hi).symm) hm
          · rw [if_neg hc]
            have q : f_Md_laws_L58 b c d (fun w9 s10 => some (w9, s10)) (fun s11 => some (d, s11)) 4096 0 t = some (0, t) := by
              show f_Md_laws_L58b b c d (fun w9 s10 => some (w9, s10)) (fun s11 => some (d, s11)) (f_Md_laws_L58 b c d (fun w9 s10 => some (w9, s10)) (fun s11 => some (d, s11)) 4095) 0 t = _
              unfold f_Md_laws_L58b
              have hc1 := Int32.le_toInt c
              have e60 : ((6 : Int32) * 0) = 0 := by decide
              have eA : ((Int32.toInt64 c) + (Int32.toInt64 ((6 : Int32) * 0))).toInt = c.toInt := by
                rw [e60, i64_add (by rw [i64_of_i32, i64_of_i32]; show _ ≤ c.toInt + 0; omega) (by rw [i64_of_i32, i64_of_i32]; show c.toInt + 0 < _; omega), i64_of_i32, i64_of_i32]
                show c.toInt + 0 = _
                omega
              rw [if_neg (show ¬ d.toInt ≤ (0 : Int32).toInt by show ¬ d.toInt ≤ 0; omega)]
              have hlt : lg_cmp ((Int32.toInt64 c) + (Int32.toInt64 ((6 : Int32) * 0))) 0 < 0 := (lg_cmp_lt _ 0).mpr (by rw [Int64.lt_iff_toInt_lt, eA]; show c.toInt < 0; omega)
              rw [Int32.lt_iff_toInt_lt] at hlt
              have hlt2 : (lg_cmp ((Int32.toInt64 c) + (Int32.toInt64 ((6 : Int32) * 0))) 0).toInt < 0 := hlt
              rw [if_pos hlt2]
            rw [q]
            exact hst 0
        · rw [if_neg (show ¬ (s.1 (139 + 2 * b.toNatClampNeg) 0).toInt = 0 by omega), if_neg hw]
          exact hst (-12)
    · rw [if_neg (show ¬ ((1 : Int32).toInt ≤ d.toInt ∧ d.toInt ≤ (10 : Int32).toInt) from hd)]
      by_cases hd1 : d.toInt < 1
      · rw [if_pos hd1]
        exact hst (-1)
      · rw [if_neg hd1, if_neg (show ¬ d.toInt ≤ 10 by omega)]
        exact hst (-1)
  · rw [if_neg h1, if_neg h1]
    exact hst (-1)
