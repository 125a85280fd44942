/-! the class hears: in which cases each law speaks -/
def e_dig (c w : Int32) : Int32 := if w.toInt = 0 then c / 25 else if w.toInt = 1 then c / 5 - c / 5 / 5 * 5 else c - c / 5 * 5
def e_fc (x y z d t n c : Int32) : Nat → Int32
  | 0 => e_dig c x
  | 1 => e_dig c y
  | 2 => e_dig c z
  | 3 => d
  | 4 => t
  | _ => n
theorem y_digit (b c : Int32) (s : vS) : f_Cs_digit b c s = some (e_dig b c, s) := by
  unfold f_Cs_digit e_dig
  by_cases h0 : c.toInt = 0
  · rw [if_pos h0, if_pos h0]
  · rw [if_neg h0, if_neg h0]
    by_cases h1 : c.toInt = 1
    · rw [if_pos h1, if_pos h1]
    · rw [if_neg h1, if_neg h1]
def e_mn (s : vS) (w : Nat) (c : Int32) : Int32 := if (s.1 10 w).toInt < 0 then Int32.ofNat w else if (s.1 11 w).toInt ≤ c.toInt then s.1 10 w else Int32.ofNat w
theorem y_toW {b : Int32} {w : Nat} (hb : b.toInt = w) (hw : w < 3) (s : vS) : f_Ws_to b s = some (s.1 10 w, s) := by
  have e : b.toNatClampNeg = w := by rw [v_nc]; omega
  unfold f_Ws_to
  rw [if_neg (by omega), if_neg (by omega), if_pos (show v_in b 3 from ⟨by omega, by omega⟩), e]
theorem y_fromW {b : Int32} {w : Nat} (hb : b.toInt = w) (hw : w < 3) (s : vS) : f_Ws_from b s = some (s.1 11 w, s) := by
  have e : b.toNatClampNeg = w := by rw [v_nc]; omega
  unfold f_Ws_from
  rw [if_neg (by omega), if_neg (by omega), if_pos (show v_in b 3 from ⟨by omega, by omega⟩), e]
theorem y_mnC {b : Int32} {w : Nat} (hb : b.toInt = w) (hw : w < 3) (c : Int32) (s : vS) : f_Ws_meaning b c s = some (e_mn s w c, s) := by
  have e : Int32.ofNat w = b := Int32.toInt_inj.mp (by rw [v_oi (by omega)]; exact hb.symm)
  unfold f_Ws_meaning e_mn
  rw [y_toW hb hw, v_bi_some, e]
  by_cases h : (s.1 10 w).toInt < 0
  · rw [if_pos h, if_pos h]
  · rw [if_neg h, if_neg h, y_fromW hb hw, v_bi_some]
    by_cases h2 : (s.1 11 w).toInt ≤ c.toInt
    · rw [if_pos h2, if_pos h2, y_toW hb hw, v_bi_some]
    · rw [if_neg h2, if_neg h2]
def h_wd (x : Int32) : Prop := x ∈ ([0, 1, 2] : List Int32)
theorem h_wdI {x : Int32} (h0 : 0 ≤ x.toInt) (h2 : x.toInt ≤ 2) : h_wd x := by
  have e := v_of h0
  rw [e]
  rcases (show x.toInt.toNat = 0 ∨ x.toInt.toNat = 1 ∨ x.toInt.toNat = 2 by omega) with h | h | h
  · rw [h]; exact List.mem_cons_self
  · rw [h]; exact List.mem_cons_of_mem _ List.mem_cons_self
  · rw [h]; exact List.mem_cons_of_mem _ (List.mem_cons_of_mem _ List.mem_cons_self)
theorem h_wdE {s : vS} {w : Nat} (hw : w < 3) (hr : (s.1 10 w).toInt ≤ 2) (c : Int32) : h_wd (e_mn s w c) := by
  have e := v_oi (n := w) (by omega)
  unfold e_mn
  by_cases h : (s.1 10 w).toInt < 0
  · rw [if_pos h]; exact h_wdI (by omega) (by omega)
  · rw [if_neg h]
    by_cases h2 : (s.1 11 w).toInt ≤ c.toInt
    · rw [if_pos h2]; exact h_wdI (by omega) hr
    · rw [if_neg h2]; exact h_wdI (by omega) (by omega)
set_option maxRecDepth 100000 in
theorem h_inj0 : ([0, 1, 2] : List Int32).all (fun x => ([0, 1, 2] : List Int32).all (fun y => ([0, 1, 2] : List Int32).all (fun z => ([0, 1, 2] : List Int32).all (fun x2 => ([0, 1, 2] : List Int32).all (fun y2 => ([0, 1, 2] : List Int32).all (fun z2 => decide (x * 9 + y * 3 + z = x2 * 9 + y2 * 3 + z2 → x = x2 ∧ y = y2 ∧ z = z2))))))) = true := by decide +kernel
theorem h_inj {x y z x2 y2 z2 : Int32} (hx : h_wd x) (hy : h_wd y) (hz : h_wd z) (hx2 : h_wd x2) (hy2 : h_wd y2) (hz2 : h_wd z2) (h : x * 9 + y * 3 + z = x2 * 9 + y2 * 3 + z2) : x = x2 ∧ y = y2 ∧ z = z2 := by
  have h1 := List.all_eq_true.mp h_inj0 x hx
  have h2 := List.all_eq_true.mp h1 y hy
  have h3 := List.all_eq_true.mp h2 z hz
  have h4 := List.all_eq_true.mp h3 x2 hx2
  have h5 := List.all_eq_true.mp h4 y2 hy2
  exact of_decide_eq_true (List.all_eq_true.mp h5 z2 hz2) h
theorem v_Plw {α : Type} {s : vS} {a i : Nat} {x : Int32} {k : vS → Option (α × vS)} {Q : α → vS → Prop} (h : ∀ t, t.2 = s.2 → t.1 a i = x → (∀ b j, ¬ (b = a ∧ j = i) → t.1 b j = s.1 b j) → v_P (k t) Q) : v_P (v_let (v_w1 s a i x) k) Q := h _ rfl (v_w1_1.trans (if_pos ⟨rfl, rfl⟩)) (fun _ _ z => v_w1_1.trans (if_neg z))
/-- the cells that the working out of a law's speech touches -/
def hx_Q (k a : Nat) (_ : Nat) : Prop := a = 21 ∨ a = 26 + 5 * k ∨ a = 27 + 5 * k
def hx_P (k a j : Nat) : Prop := a = 21 ∨ a = 26 + 5 * k ∨ a = 27 + 5 * k ∨ (a = 23 + 5 * k ∧ 6 ≤ j ∧ j ≤ 8)
def nzB (x y z d t n : Int32) (acc : List gL) (i : Nat) : Bool := decide (¬ (e_tx (e_fc x y z d t n (Int32.ofNat i)) acc).toInt = 0)
def sp_ok (s : vS) (k : Nat) (x y z d t n : Int32) (acc : List gL) : Prop := ∀ i, i < 128 → lb s (27 + 5 * k) i = (decide (i < 125) && nzB x y z d t n acc i)
theorem h_L97 {k : Nat} {s0 : vS} {x y z t : Int32} {acc : List gL} (hc : c_text s0 k acc) (hwl : ∀ ln, ln ∈ acc → g_wl ln) : ∀ (n : Nat) (v : Int32) (s : vS), 0 ≤ v.toInt → v.toInt ≤ 125 → v_F (hx_Q k) s0 s → (∀ i, i < 128 → lb s (27 + 5 * k) i = (decide (i < v.toInt.toNat) && nzB x y z (s0.1 (23 + 5 * k) 1) t (s0.1 (23 + 5 * k) 0) acc i)) → v_P (f_Lw_hear_L97 (23 + 5 * k) t x y z (fun s1 => some ((), s1)) n v s) (fun _ u => v_F (hx_Q k) s0 u ∧ sp_ok u k x y z (s0.1 (23 + 5 * k) 1) t (s0.1 (23 + 5 * k) 0) acc)
  | 0, _, _, _, _, _, _ => v_Pnone
  | n + 1, v, s, h0, h1, hF, hB => by
    show v_P (f_Lw_hear_L97b (23 + 5 * k) t x y z (fun s1 => some ((), s1)) (f_Lw_hear_L97 (23 + 5 * k) t x y z (fun s1 => some ((), s1)) n) v s) _
    unfold f_Lw_hear_L97b
    by_cases c : 125 ≤ v.toInt
    · rw [if_pos c]
      refine v_Pret ⟨hF, fun i hi => ?_⟩
      rw [hB i hi, show v.toInt.toNat = 125 by omega]
    · rw [if_neg c]
      have e1 := v_inc (x := v) (by omega)
      have eo : v = Int32.ofNat v.toInt.toNat := v_of h0
      have q1 : s.1 (23 + 5 * k) 1 = s0.1 (23 + 5 * k) 1 := (hF _ _ (by unfold hx_Q; omega)).1
      have q0 : s.1 (23 + 5 * k) 0 = s0.1 (23 + 5 * k) 0 := (hF _ _ (by unfold hx_Q; omega)).1
      generalize hD : s0.1 (23 + 5 * k) 1 = D at hB q1 ⊢
      generalize hN : s0.1 (23 + 5 * k) 0 = N at hB q0 ⊢
      rw [y_digit, v_bi_some]
      refine v_Plw (fun s1 z1 g1 f1 => ?_)
      rw [y_digit, v_bi_some]
      refine v_Plw (fun s2 z2 g2 f2 => ?_)
      rw [y_digit, v_bi_some]
      refine v_Plw (fun s3 z3 g3 f3 => ?_)
      rw [f3 (23 + 5 * k) 1 (by omega), f2 (23 + 5 * k) 1 (by omega), f1 (23 + 5 * k) 1 (by omega), q1]
      refine v_Plw (fun s4 z4 g4 f4 => ?_)
      refine v_Plw (fun s5 z5 g5 f5 => ?_)
      rw [f5 (23 + 5 * k) 0 (by omega), f4 (23 + 5 * k) 0 (by omega), f3 (23 + 5 * k) 0 (by omega), f2 (23 + 5 * k) 0 (by omega), f1 (23 + 5 * k) 0 (by omega), q0]
      refine v_Plw (fun s6 z6 g6 f6 => ?_)
      have hs6 : ∀ a j, ¬ a = 21 → s6.1 a j = s.1 a j := fun a j q => by rw [f6 a j (fun z => q z.1), f5 a j (fun z => q z.1), f4 a j (fun z => q z.1), f3 a j (fun z => q z.1), f2 a j (fun z => q z.1), f1 a j (fun z => q z.1)]
      have hz6 : s6.2 = s.2 := by rw [z6, z5, z4, z3, z2, z1]
      have hF6 : v_F (hx_Q k) s0 s6 := fun a j q => ⟨(hs6 a j (fun z => q (Or.inl z))).trans (hF a j q).1, (congrFun (congrFun hz6 a) j).trans (hF a j q).2⟩
      have hfc : ∀ j, j < 6 → s6.1 21 j = e_fc x y z D t N v j := fun j hj => by
        match j, hj with
        | 0, _ => exact (f6 21 0 (by omega)).trans ((f5 21 0 (by omega)).trans ((f4 21 0 (by omega)).trans ((f3 21 0 (by omega)).trans ((f2 21 0 (by omega)).trans g1))))
        | 1, _ => exact (f6 21 1 (by omega)).trans ((f5 21 1 (by omega)).trans ((f4 21 1 (by omega)).trans ((f3 21 1 (by omega)).trans g2)))
        | 2, _ => exact (f6 21 2 (by omega)).trans ((f5 21 2 (by omega)).trans ((f4 21 2 (by omega)).trans g3))
        | 3, _ => exact (f6 21 3 (by omega)).trans ((f5 21 3 (by omega)).trans g4)
        | 4, _ => exact (f6 21 4 (by omega)).trans g5
        | 5, _ => exact g6
        | j + 6, hj => omega
      rw [show 23 + 5 * k + 1 = 24 + 5 * k by omega]
      refine v_Pbi (y_value (F := e_fc x y z D t N v) (c_textE hc (hF6 _ _ (by unfold hx_Q; omega)).1 (fun j => (hF6 _ _ (by unfold hx_Q; omega)).1)) hfc hwl) ?_
      rintro r u ⟨hr, hu⟩
      have hFu : v_F (hx_Q k) s0 u := fun a j q => ⟨(hu.1 a j (fun z => q (by unfold hx_Q; omega))).trans (hF6 a j q).1, (congrFun (congrFun hu.2 a) j).trans (hF6 a j q).2⟩
      have hBu : ∀ i, lb u (27 + 5 * k) i = lb s (27 + 5 * k) i := fun i => by
        unfold lb
        rw [hu.2, hz6]
      have hdec : ∀ i, ¬ i = v.toInt.toNat → decide (i < (v + 1).toInt.toNat) = decide (i < v.toInt.toNat) := fun i hi => decide_eq_decide.mpr (by omega)
      by_cases hz : r.toInt = 0
      · rw [if_pos hz, ← hD, ← hN]
        refine h_L97 hc hwl n (v + 1) u (by omega) (by omega) hFu (fun i hi => ?_)
        rw [hD, hN, hBu, hB i hi]
        by_cases hi2 : i = v.toInt.toNat
        · have hn : nzB x y z D t N acc i = false := by
            unfold nzB
            rw [hi2, ← eo, ← hr]
            exact decide_eq_false (fun q => q hz)
          rw [hn, Bool.and_false, Bool.and_false]
        · rw [hdec i hi2]
      · rw [if_neg hz]
        obtain ⟨w, w1, w2, w3, w4⟩ := lb_add (a := 23 + 5 * k + 4) (n := v.toInt.toNat) (b := v) (s := u) (by omega) (by omega)
        rw [w1, v_bi_some, ← hD, ← hN]
        refine h_L97 hc hwl n (v + 1) w (by omega) (by omega) (fun a j q => ⟨(congrFun (congrFun w2 a) j).trans (hFu a j q).1, (w3 a j (fun z => q (by unfold hx_Q; omega))).trans (hFu a j q).2⟩) (fun i hi => ?_)
        rw [show 23 + 5 * k + 4 = 27 + 5 * k by omega] at w4
        rw [hD, hN, w4 i hi, hBu, hB i hi]
        by_cases hi2 : i = v.toInt.toNat
        · have hn : nzB x y z D t N acc i = true := by
            unfold nzB
            rw [hi2, ← eo, ← hr]
            exact decide_eq_true hz
          rw [hn, decide_eq_true hi2, Bool.or_true, decide_eq_true (show i < (v + 1).toInt.toNat by omega)]
          rfl
        · rw [hdec i hi2, decide_eq_false hi2, Bool.or_false]
/-- what a law keeps of its last hearing -/
def h_ca (s : vS) (k : Nat) : Prop := s.1 (23 + 5 * k) 7 = -1 ∨ ∃ x y z, h_wd x ∧ h_wd y ∧ h_wd z ∧ s.1 (23 + 5 * k) 8 = x * 9 + y * 3 + z ∧ ∀ acc, c_text s k acc → (∀ ln, ln ∈ acc → g_wl ln) → sp_ok s k x y z (s.1 (23 + 5 * k) 6) (s.1 (23 + 5 * k) 7) (s.1 (23 + 5 * k) 0) acc
def h_wr (s : vS) : Prop := ∀ w, w < 3 → (s.1 10 w).toInt ≤ 2
theorem h_law {k : Nat} {s : vS} {c : Int32} (hc0 : 0 ≤ c.toInt) {acc : List gL} (hc : c_text s k acc) (hwl : ∀ ln, ln ∈ acc → g_wl ln) (hca : h_ca s k) (hwr : h_wr s) : v_P (f_Lw_hear (23 + 5 * k) c s) (fun _ t => v_F (hx_P k) s t ∧ t.1 (23 + 5 * k) 7 = c ∧ t.1 (23 + 5 * k) 6 = s.1 (23 + 5 * k) 1 ∧ t.1 (23 + 5 * k) 8 = e_mn s 0 c * 9 + e_mn s 1 c * 3 + e_mn s 2 c ∧ sp_ok t k (e_mn s 0 c) (e_mn s 1 c) (e_mn s 2 c) (s.1 (23 + 5 * k) 1) c (s.1 (23 + 5 * k) 0) acc) := by
  have mx := h_wdE (w := 0) (by decide) (hwr 0 (by decide)) c
  have my := h_wdE (w := 1) (by decide) (hwr 1 (by decide)) c
  have mz := h_wdE (w := 2) (by decide) (hwr 2 (by decide)) c
  unfold f_Lw_hear
  rw [y_mnC (b := 0) (w := 0) rfl (by decide), v_bi_some, y_mnC (b := 1) (w := 1) rfl (by decide), v_bi_some, y_mnC (b := 2) (w := 2) rfl (by decide), v_bi_some]
  generalize e_mn s 0 c = x at mx ⊢
  generalize e_mn s 1 c = y at my ⊢
  generalize e_mn s 2 c = z at mz ⊢
  have miss : v_P (v_let (v_w1 s (23 + 5 * k) 7 c) (fun s7 => (v_let (v_w1 s7 (23 + 5 * k) 6 (s7.1 (23 + 5 * k) 1)) (fun s8 => (v_let (v_w1 s8 (23 + 5 * k) 8 (((x * (9 : Int32)) + (y * (3 : Int32))) + z)) (fun s9 => (v_bi (f_Cs_clear (23 + 5 * k + 4) s9) (fun _ s10 => (f_Lw_hear_L97 (23 + 5 * k) c x y z (fun s11 => (some ((), s11))) 4096 0 s10))))))))) (fun (_ : Unit) t => v_F (hx_P k) s t ∧ t.1 (23 + 5 * k) 7 = c ∧ t.1 (23 + 5 * k) 6 = s.1 (23 + 5 * k) 1 ∧ t.1 (23 + 5 * k) 8 = x * 9 + y * 3 + z ∧ sp_ok t k x y z (s.1 (23 + 5 * k) 1) c (s.1 (23 + 5 * k) 0) acc) := by
    refine v_Plw (fun s1 z1 g1 f1 => ?_)
    rw [f1 (23 + 5 * k) 1 (by omega)]
    refine v_Plw (fun s2 z2 g2 f2 => ?_)
    refine v_Plw (fun s3 z3 g3 f3 => ?_)
    obtain ⟨u, u1, u2, u3, u4⟩ := lb_clear (a := 23 + 5 * k + 4) (s := s3)
    rw [u1, v_bi_some]
    have hs : ∀ a j, ¬ (a = 23 + 5 * k ∧ 6 ≤ j ∧ j ≤ 8) → u.1 a j = s.1 a j := fun a j q => by rw [u2, f3 a j (fun w => q (by omega)), f2 a j (fun w => q (by omega)), f1 a j (fun w => q (by omega))]
    have hz : ∀ a j, ¬ a = 27 + 5 * k → u.2 a j = s.2 a j := fun a j q => by rw [u3 a j (by omega), z3, z2, z1]
    have h7 : u.1 (23 + 5 * k) 7 = c := by rw [u2, f3 _ _ (by omega), f2 _ _ (by omega), g1]
    have h6 : u.1 (23 + 5 * k) 6 = s.1 (23 + 5 * k) 1 := by rw [u2, f3 _ _ (by omega), g2]
    have h8 : u.1 (23 + 5 * k) 8 = x * 9 + y * 3 + z := by rw [u2, g3]
    have h1 : u.1 (23 + 5 * k) 1 = s.1 (23 + 5 * k) 1 := hs _ _ (by omega)
    have h0 : u.1 (23 + 5 * k) 0 = s.1 (23 + 5 * k) 0 := hs _ _ (by omega)
    refine v_Pm2 (h_L97 (s0 := u) (x := x) (y := y) (z := z) (t := c) (c_textE hc (hs _ _ (by omega)) (fun j => hs _ _ (by omega))) hwl 4096 0 u (by decide) (by decide) v_F_rf (fun i _ => ?_)) ?_
    · rw [show 27 + 5 * k = 23 + 5 * k + 4 by omega, u4]
      rfl
    · rintro _ t ⟨t1, t2⟩
      rw [h1, h0] at t2
      refine ⟨fun a j q => ⟨((t1 a j (fun w => q (by unfold hx_Q at w; unfold hx_P; omega))).1).trans (hs a j (fun w => q (by unfold hx_P; omega))), ((t1 a j (fun w => q (by unfold hx_Q at w; unfold hx_P; omega))).2).trans (hz a j (fun w => q (by unfold hx_P; omega)))⟩, ?_, ?_, ?_, t2⟩
      · rw [(t1 _ _ (by unfold hx_Q; omega)).1]; exact h7
      · rw [(t1 _ _ (by unfold hx_Q; omega)).1]; exact h6
      · rw [(t1 _ _ (by unfold hx_Q; omega)).1]; exact h8
  refine v_Pif (fun h1 => v_Pif (fun h2 => v_Pif (fun h3 => ?_) (fun _ => miss)) (fun _ => miss)) (fun _ => miss)
  have e1 := Int32.toInt_inj.mp h1
  have e2 := Int32.toInt_inj.mp h2
  have e3 := Int32.toInt_inj.mp h3
  refine v_Pret ⟨v_F_rf, e1, e2, e3, ?_⟩
  rcases hca with h | ⟨x2, y2, z2, k1, k2, k3, k4, k5⟩
  · rw [h] at e1
    rw [← e1] at hc0
    exact absurd hc0 (by decide)
  · have h5 := k5 acc hc hwl
    rw [e1, e2] at h5
    rw [e3] at k4
    obtain ⟨rfl, rfl, rfl⟩ := h_inj mx my mz k1 k2 k3 k4
    exact h5
/-! all laws -/
def h_cur (s : vS) (k : Nat) : Prop := ∀ acc, c_text s k acc → (∀ ln, ln ∈ acc → g_wl ln) → sp_ok s k (e_mn s 0 (s.1 8 3)) (e_mn s 1 (s.1 8 3)) (e_mn s 2 (s.1 8 3)) (s.1 (23 + 5 * k) 1) (s.1 8 3) (s.1 (23 + 5 * k) 0) acc
def h_tx (s : vS) : Prop := ∀ k : Nat, (k : Int) < (s.1 8 1).toInt → k < 10 → ∃ acc, c_text s k acc ∧ ∀ ln, ln ∈ acc → g_wl ln
def j_sp (s : vS) : Prop := ∀ k : Nat, k < 10 → ((k : Int) < (s.1 8 1).toInt → h_ca s k) ∧ ((s.1 8 1).toInt ≤ (k : Int) → s.1 (23 + 5 * k) 7 = -1)
theorem h_spE {s t : vS} {k : Nat} {x y z d c n : Int32} {acc : List gL} (h : sp_ok s k x y z d c n acc) (h2 : ∀ j, t.2 (27 + 5 * k) j = s.2 (27 + 5 * k) j) : sp_ok t k x y z d c n acc := fun i hi => by
  have e : lb t (27 + 5 * k) i = lb s (27 + 5 * k) i := by
    unfold lb
    rw [h2 0, h2 1]
  rw [e]
  exact h i hi
def hx_C (k a j : Nat) : Prop := (a = 23 + 5 * k ∧ (j = 0 ∨ (6 ≤ j ∧ j ≤ 8))) ∨ (a = 24 + 5 * k ∧ j = 2) ∨ a = 25 + 5 * k
theorem h_caE {s t : vS} {k : Nat} (h : h_ca s k) (h1 : ∀ a j, hx_C k a j → t.1 a j = s.1 a j) (h2 : ∀ j, t.2 (27 + 5 * k) j = s.2 (27 + 5 * k) j) : h_ca t k := by
  unfold h_ca
  rw [h1 (23 + 5 * k) 7 (by unfold hx_C; omega), h1 (23 + 5 * k) 8 (by unfold hx_C; omega), h1 (23 + 5 * k) 6 (by unfold hx_C; omega), h1 (23 + 5 * k) 0 (by unfold hx_C; omega)]
  rcases h with h | ⟨x, y, z, k1, k2, k3, k4, k5⟩
  · exact Or.inl h
  · exact Or.inr ⟨x, y, z, k1, k2, k3, k4, fun acc q1 q2 => h_spE (k5 acc (c_textE q1 (h1 _ _ (by unfold hx_C; omega)).symm (fun j => (h1 _ _ (by unfold hx_C; omega)).symm)) q2) h2⟩
theorem h_mnE {s t : vS} {w : Nat} {c : Int32} (h1 : t.1 10 w = s.1 10 w) (h2 : t.1 11 w = s.1 11 w) : e_mn t w c = e_mn s w c := by
  unfold e_mn
  rw [h1, h2]
theorem h_curE {s t : vS} {k : Nat} (h : h_cur s k) (h1 : ∀ a j, (a = 8 ∧ j = 3) ∨ a = 10 ∨ a = 11 ∨ (a = 23 + 5 * k ∧ j ≤ 1) ∨ (a = 24 + 5 * k ∧ j = 2) ∨ a = 25 + 5 * k → t.1 a j = s.1 a j) (h2 : ∀ j, t.2 (27 + 5 * k) j = s.2 (27 + 5 * k) j) : h_cur t k := fun acc q1 q2 => by
  rw [h1 8 3 (by omega), h1 (23 + 5 * k) 1 (by omega), h1 (23 + 5 * k) 0 (by omega), h_mnE (h1 10 0 (by omega)) (h1 11 0 (by omega)), h_mnE (h1 10 1 (by omega)) (h1 11 1 (by omega)), h_mnE (h1 10 2 (by omega)) (h1 11 2 (by omega))]
  exact h_spE (h acc (c_textE q1 (h1 _ _ (by omega)).symm (fun j => (h1 _ _ (by omega)).symm)) q2) h2
/-- the cells that hearing touches -/
def hx_R (a j : Nat) : Prop := a = 21 ∨ (26 ≤ a ∧ a ≤ 72 ∧ (a % 5 = 1 ∨ a % 5 = 2)) ∨ (23 ≤ a ∧ a ≤ 68 ∧ a % 5 = 3 ∧ 6 ≤ j ∧ j ≤ 8)
theorem hR_sc {a j : Nat} (h : hx_R a j) : v_sc a j := by
  unfold hx_R at h
  unfold v_sc
  rcases h with h | h | h
  · exact Or.inr (Or.inr (Or.inr (Or.inr (Or.inr (Or.inr (Or.inl ⟨by omega, by omega⟩))))))
  · exact Or.inr (Or.inr (Or.inr (Or.inr (Or.inr (Or.inr (Or.inr (Or.inr (Or.inl ⟨by omega, by omega, h.2.2⟩))))))))
  · exact Or.inr (Or.inr (Or.inr (Or.inr (Or.inr (Or.inr (Or.inr (Or.inl ⟨by omega, by omega, h.2.2.1, h.2.2.2.1, h.2.2.2.2⟩)))))))
theorem hP_hR {k a j : Nat} (hk : k < 10) (h : hx_P k a j) : hx_R a j := by
  unfold hx_P at h
  unfold hx_R
  omega
theorem h_allL {s0 : vS} (hm : (s0.1 8 1).toInt ≤ 10) (ht0 : 0 ≤ (s0.1 8 3).toInt) (htx : h_tx s0) (hwr : h_wr s0) {K : vS → Option (Unit × vS)} {Q : Unit → vS → Prop} (hK : ∀ t, v_F hx_R s0 t → j_sp t → (∀ k : Nat, (k : Int) < (s0.1 8 1).toInt → h_cur t k) → v_P (K t) Q) : ∀ (n : Nat) (v : Int32) (s : vS), 0 ≤ v.toInt → v_F hx_R s0 s → j_sp s → (∀ k : Nat, (k : Int) < v.toInt → (k : Int) < (s0.1 8 1).toInt → h_cur s k) → v_P (f_Ct_hear_L2 K n v s) Q
  | 0, _, _, _, _, _, _ => v_Pnone
  | n + 1, v, s, h0, hF, hS, hC2 => by
    show v_P (f_Ct_hear_L2b K (f_Ct_hear_L2 K n) v s) Q
    have e8 : s.1 8 1 = s0.1 8 1 := (hF 8 1 (by unfold hx_R; omega)).1
    have e83 : s.1 8 3 = s0.1 8 3 := (hF 8 3 (by unfold hx_R; omega)).1
    unfold f_Ct_hear_L2b
    by_cases c : (s.1 8 1).toInt ≤ v.toInt
    · rw [if_pos c]
      exact hK s hF hS (fun k hk => hC2 k (by rw [e8] at c; omega) hk)
    · rw [if_neg c]
      rw [e8] at c
      have e1 := v_inc (x := v) (by omega)
      obtain ⟨p, hp⟩ : ∃ p : Nat, v.toInt = p := ⟨v.toInt.toNat, by omega⟩
      have hp10 : p < 10 := by omega
      have ea : f_Ct_at v s = some (23 + 5 * p, s) := by
        have e2 : v.toNatClampNeg = p := by rw [v_nc]; omega
        unfold f_Ct_at
        rw [if_neg (by omega), if_neg (by omega), if_pos (show v_in v 10 from ⟨by omega, by omega⟩), if_pos (show v_in v 10 from ⟨by omega, by omega⟩), e2]
      rw [ea, v_bi_some]
      refine v_Pif (fun _ => ?_) (fun _ => v_Pnone)
      obtain ⟨acc0, a1, a2⟩ := htx p (by omega) hp10
      have a1s : c_text s p acc0 := c_textE a1 (hF _ _ (by unfold hx_R; omega)).1 (fun j => (hF _ _ (by unfold hx_R; omega)).1)
      have hwrs : h_wr s := fun w hw => by rw [(hF 10 w (by unfold hx_R; omega)).1]; exact hwr w hw
      have hcp : h_ca s p := (hS p hp10).1 (by rw [e8]; omega)
      have hL : ∀ acc, c_text s p acc → (∀ ln, ln ∈ acc → g_wl ln) → _ := fun acc b1 b2 => h_law (c := s.1 8 3) (by rw [e83]; exact ht0) b1 b2 hcp hwrs
      refine v_Pbi (P := fun _ t => (v_F (hx_P p) s t ∧ t.1 (23 + 5 * p) 7 = s.1 8 3 ∧ t.1 (23 + 5 * p) 6 = s.1 (23 + 5 * p) 1 ∧ t.1 (23 + 5 * p) 8 = e_mn s 0 (s.1 8 3) * 9 + e_mn s 1 (s.1 8 3) * 3 + e_mn s 2 (s.1 8 3)) ∧ ∀ acc, c_text s p acc → (∀ ln, ln ∈ acc → g_wl ln) → sp_ok t p (e_mn s 0 (s.1 8 3)) (e_mn s 1 (s.1 8 3)) (e_mn s 2 (s.1 8 3)) (s.1 (23 + 5 * p) 1) (s.1 8 3) (s.1 (23 + 5 * p) 0) acc) (fun r t e => ⟨⟨(hL acc0 a1s a2 r t e).1, (hL acc0 a1s a2 r t e).2.1, (hL acc0 a1s a2 r t e).2.2.1, (hL acc0 a1s a2 r t e).2.2.2.1⟩, fun acc b1 b2 => (hL acc b1 b2 r t e).2.2.2.2⟩) ?_
      rintro _ t ⟨⟨t1, t7, t6, t8⟩, tS⟩
      have hFt : v_F hx_R s0 t := fun a j q => ⟨((t1 a j (fun w => q (hP_hR hp10 w))).1).trans (hF a j q).1, ((t1 a j (fun w => q (hP_hR hp10 w))).2).trans (hF a j q).2⟩
      have f8 : t.1 8 1 = s.1 8 1 := (t1 8 1 (by unfold hx_P; omega)).1
      have f83 : t.1 8 3 = s.1 8 3 := (t1 8 3 (by unfold hx_P; omega)).1
      have f0 : t.1 (23 + 5 * p) 0 = s.1 (23 + 5 * p) 0 := (t1 _ _ (by unfold hx_P; omega)).1
      have f1 : t.1 (23 + 5 * p) 1 = s.1 (23 + 5 * p) 1 := (t1 _ _ (by unfold hx_P; omega)).1
      have hback : ∀ acc, c_text t p acc → c_text s p acc := fun acc q => c_textE q ((t1 _ _ (by unfold hx_P; omega)).1).symm (fun j => ((t1 _ _ (by unfold hx_P; omega)).1).symm)
      have hw : ∀ w, e_mn t w (t.1 8 3) = e_mn s w (s.1 8 3) := fun w => by
        rw [f83]
        exact h_mnE (t1 10 w (by unfold hx_P; omega)).1 (t1 11 w (by unfold hx_P; omega)).1
      refine h_allL hm ht0 htx hwr hK n (v + 1) t (by omega) hFt (fun k hk => ⟨fun hkm => ?_, fun hkm => ?_⟩) (fun k hk1 hk2 => ?_)
      · by_cases hkp : k = p
        · subst hkp
          refine Or.inr ⟨_, _, _, h_wdE (s := s) (w := 0) (by decide) (hwrs 0 (by decide)) (s.1 8 3), h_wdE (s := s) (w := 1) (by decide) (hwrs 1 (by decide)) (s.1 8 3), h_wdE (s := s) (w := 2) (by decide) (hwrs 2 (by decide)) (s.1 8 3), t8, fun acc b1 b2 => ?_⟩
          rw [t6, t7, f0]
          exact tS acc (hback acc b1) b2
        · rw [f8] at hkm
          exact h_caE ((hS k hk).1 hkm) (fun a j q => (t1 a j (by unfold hx_C at q; unfold hx_P; omega)).1) (fun j => (t1 _ j (by unfold hx_P; omega)).2)
      · rw [f8] at hkm
        have hkm2 := hkm
        rw [e8] at hkm2
        rw [(t1 (23 + 5 * k) 7 (by unfold hx_P; omega)).1]
        exact (hS k hk).2 hkm
      · by_cases hkp : k = p
        · subst hkp
          intro acc b1 b2
          rw [hw 0, hw 1, hw 2, f1, f83, f0]
          exact tS acc (hback acc b1) b2
        · exact h_curE (hC2 k (by omega) hk2) (fun a j q => (t1 a j (by unfold hx_P; omega)).1) (fun j => (t1 _ j (by unfold hx_P; omega)).2)
/-- sorting and standing leave the longs alone -/
theorem y_s2I {p : Int32} {s0 : vS} {K : Int32 → vS → Option (Unit × vS)} {Q : Unit → vS → Prop} (hK : ∀ w t, t.2 = s0.2 → v_P (K w t) Q) : ∀ (n : Nat) (v : Int32) (s : vS), s.2 = s0.2 → v_P (f_Ct_sortByAge_L21 p K n v s) Q
  | 0, _, _, _ => v_Pnone
  | n + 1, v, s, h => by
    show v_P (f_Ct_sortByAge_L21b p K (f_Ct_sortByAge_L21 p K n) v s) Q
    unfold f_Ct_sortByAge_L21b
    refine v_Pif (fun _ => hK v s h) (fun _ => ?_)
    refine v_Pbi (v_PT (n_at _ _)) ?_
    rintro r _ ⟨rfl, h4⟩
    refine v_Pif (fun _ => v_Pif (fun _ => ?_) (fun _ => v_Pnone)) (fun _ => v_Pnone)
    refine v_Pbi (v_PT (n_at _ _)) ?_
    rintro r2 _ ⟨rfl, h42⟩
    refine v_Pif (fun _ => ?_) (fun _ => v_Pnone)
    refine v_Pbi (v_PT (n_isOlder _ _ _)) ?_
    rintro _ _ ⟨rfl, _⟩
    refine v_Pif (fun _ => hK v _ h) (fun _ => v_Pif (fun _ => v_Pif (fun _ => v_Plet ?_) (fun _ => v_Pnone)) (fun _ => v_Pnone))
    exact y_s2I hK n _ _ h
theorem y_s2O {s0 : vS} {K : vS → Option (Unit × vS)} {Q : Unit → vS → Prop} (hK : ∀ t, t.2 = s0.2 → v_P (K t) Q) : ∀ (n : Nat) (v : Int32) (s : vS), s.2 = s0.2 → v_P (f_Ct_sortByAge_L2 K n v s) Q
  | 0, _, _, _ => v_Pnone
  | n + 1, v, s, h => by
    show v_P (f_Ct_sortByAge_L2b K (f_Ct_sortByAge_L2 K n) v s) Q
    unfold f_Ct_sortByAge_L2b
    refine v_Pif (fun _ => hK s h) (fun _ => v_Pif (fun _ => hK s h) (fun _ => ?_))
    refine y_s2I (s0 := s0) (p := v) (fun w t ht => ?_) 4096 v s h
    exact v_Pif (fun _ => v_Plet (y_s2O hK n _ _ ht)) (fun _ => v_Pnone)
theorem y_sort2 (s : vS) : v_P (f_Ct_sortByAge s) (fun _ t => t.2 = s.2) := by
  unfold f_Ct_sortByAge
  exact y_s2O (s0 := s) (fun t h => v_Pret h) 4096 0 s rfl
def hx_S (a j : Nat) : Prop := hx_R a j ∨ a = 20 ∨ (a = 8 ∧ j = 4)
/-- after the class has heard: who speaks where, and who stands -/
theorem y_hearV (s : vS) (h0 : v_KQ s) (hn : j_num s) (h83 : 0 ≤ (s.1 8 3).toInt) (hstk : ∀ k, k < (s.1 8 1).toInt.toNat → -1 ≤ (stK s k).toInt ∧ (stK s k).toInt ≤ 9) (htx : h_tx s) (hwr : h_wr s) (hsp : j_sp s) : v_P (f_Ct_hear s) (fun _ t => (v_F hx_S s t ∧ j_sp t ∧ ∀ k : Nat, (k : Int) < (s.1 8 1).toInt → h_cur t k) ∧ st_F (s.1 8 1).toInt.toNat (fun m => xTh s m) (dC s) (stK s) (fun m => bt (t.1 8 4) m = true) ∧ (∀ m, m < 32 → bt (t.1 8 4) m = true → m < (s.1 8 1).toInt.toNat) ∧ st_S (dC t) t (s.1 8 1).toInt.toNat) := by
  have hm := h0.1
  unfold f_Ct_hear
  refine h_allL hm.2 h83 htx hwr (fun u huF huS huC => ?_) 4096 0 s (by decide) v_F_rf hsp (fun k hk => absurd hk (by show ¬ (k : Int) < 0; omega))
  have hu : v_fr s u := fun a j q => huF a j (fun z => q (hR_sc z))
  have e8 : u.1 8 1 = s.1 8 1 := (hu 8 1 (by unfold v_sc; omega)).1
  have e83 : u.1 8 3 = s.1 8 3 := (hu 8 3 (by unfold v_sc; omega)).1
  refine v_Pbi (fun r t e => And.intro ((v_PT (v_TP (q_sort u (v_KQ_fr h0 hu)) (y_sort u (j_num_fr hn hu) (by rw [e8]; exact hm)))) r t e) (y_sort2 u r t e)) ?_
  rintro _ w ⟨⟨w1, wE, wS⟩, w2⟩
  have hw := v_fr_tr hu w1
  have f8 : w.1 8 1 = s.1 8 1 := (hw 8 1 (by unfold v_sc; omega)).1
  have hD : dC u = dC w := funext fun k => (wE _ _ (by omega)).symm
  have hst : ∀ k, k < (s.1 8 1).toInt.toNat → stK w k = stK s k ∧ dC w k = dC s k := fun k hk => ⟨(hw _ _ (by unfold v_sc; omega)).1, (hw _ _ (by unfold v_sc; omega)).1⟩
  rw [e8, hD, ← f8] at wS
  refine v_Pbi (v_PT (v_TP (q_stand 0 w (v_KQ_fr h0 hw)) (y_standW 0 w (by rw [f8]; exact hm) wS (fun k hk => ?_)))) ?_
  · rw [f8] at hk
    rw [(hst k hk).1]
    exact hstk k hk
  · rintro _ t ⟨t1, tE, t2, tF, tB⟩
    rw [f8] at tF tB
    have hut : ∀ a j, ¬ (a = 20 ∨ (a = 8 ∧ j = 4)) → t.1 a j = u.1 a j := fun a j q => (tE a j (fun z => q (Or.inr z))).trans (wE a j (fun z => q (Or.inl z)))
    have hu2 : t.2 = u.2 := t2.trans w2
    refine v_Pret ⟨⟨fun a j q => ⟨(hut a j (fun z => q (Or.inr z))).trans (huF a j (fun z => q (Or.inl z))).1, (congrFun (congrFun hu2 a) j).trans (huF a j (fun z => q (Or.inl z))).2⟩, fun k hk => ⟨fun hkm => ?_, fun hkm => ?_⟩, fun k hk => ?_⟩, st_F_eq tF (fun m hm2 => ?_) (fun k hk => ⟨(hst k hk).2, (hst k hk).1⟩), tB, ?_⟩
    · rw [hut 8 1 (by omega)] at hkm
      exact h_caE ((huS k hk).1 hkm) (fun a j q => hut a j (by unfold hx_C at q; omega)) (fun j => congrFun (congrFun hu2 _) j)
    · rw [hut 8 1 (by omega)] at hkm
      rw [hut (23 + 5 * k) 7 (by omega)]
      exact (huS k hk).2 hkm
    · exact h_curE (huC k hk) (fun a j q => hut a j (by omega)) (fun j => congrFun (congrFun hu2 _) j)
    · unfold st_T
      rw [b_0]
      have e1 : xTh w m ↔ xTh s m := by
        show x_th (w.1 8 1).toInt (w.1 8 3).toInt (dC w) m ↔ x_th (s.1 8 1).toInt (s.1 8 3).toInt (dC s) m
        have f83 : w.1 8 3 = s.1 8 3 := (hw 8 3 (by unfold v_sc; omega)).1
        unfold x_th
        rw [f8, f83, show ((m : Int)).toNat = m by omega, (hst m hm2).2]
      rw [e1]
      exact ⟨fun q => q.1, fun q => ⟨q, rfl⟩⟩
    · rw [f8] at wS
      have hD2 : dC t = dC w := funext fun k => tE _ _ (by omega)
      have h20 : t.1 20 = w.1 20 := funext fun j => tE _ _ (by omega)
      rw [hD2]
      unfold st_S at wS ⊢
      rw [h20]
      exact wS
