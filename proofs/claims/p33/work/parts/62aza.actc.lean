/-! acts: what a body of a kind gives, and which bodies of acts run, one list for both sides; the class's side -/
def e_nC (s : vS) (x : Int32) : vS := if (s.1 132 1).toInt < 0 ∨ 24 ≤ (s.1 132 1).toInt then v_w1 s 132 1 (s.1 132 1 + 1) else v_w1 (v_w1 s 134 (s.1 132 1).toNatClampNeg x) 132 1 (s.1 132 1 + 1)
def e_aC : List Int32 → vS → vS
  | [], s => s
  | x :: l, s => e_aC l (e_nC s x)
theorem e_aC_app : ∀ (l m : List Int32) (s : vS), e_aC (l ++ m) s = e_aC m (e_aC l s)
  | [], _, _ => rfl
  | x :: l, m, s => e_aC_app l m (e_nC s x)
theorem e_nC133 (s : vS) (x : Int32) (j : Nat) : (e_nC s x).1 133 j = s.1 133 j := by
  unfold e_nC
  by_cases h : (s.1 132 1).toInt < 0 ∨ 24 ≤ (s.1 132 1).toInt
  · rw [if_pos h, v_w1_1, if_neg (by omega)]
  · rw [if_neg h, v_w1_1, if_neg (by omega), v_w1_1, if_neg (by omega)]
theorem e_aC133 : ∀ (l : List Int32) (s : vS) (j : Nat), (e_aC l s).1 133 j = s.1 133 j
  | [], _, _ => rfl
  | x :: l, s, j => (e_aC133 l (e_nC s x) j).trans (e_nC133 s x j)
theorem e_note (x : Int32) (s : vS) : f_Cl_note x s = some ((), e_nC s x) := by
  unfold f_Cl_note e_nC
  by_cases h1 : (s.1 132 1).toInt < 0
  · rw [if_pos h1, if_pos (Or.inl h1)]
    rfl
  · rw [if_neg h1]
    by_cases h2 : 24 ≤ (s.1 132 1).toInt
    · rw [if_pos h2, if_pos (Or.inr h2)]
      rfl
    · rw [if_neg h2, if_pos (show v_in (s.1 132 1) 24 from ⟨by omega, by omega⟩), if_neg (show ¬ ((s.1 132 1).toInt < 0 ∨ 24 ≤ (s.1 132 1).toInt) by omega)]
      show some ((), v_w1 (v_w1 s 134 (s.1 132 1).toNatClampNeg x) 132 1 ((v_w1 s 134 (s.1 132 1).toNatClampNeg x).1 132 1 + 1)) = _
      rw [show (v_w1 s 134 (s.1 132 1).toNatClampNeg x).1 132 1 = s.1 132 1 from v_w1_1.trans (if_neg (by omega))]
/-- what the acts give, by the body's kind k, its number n, and x; which bodies of acts run -/
def e_SV (k n x : Int32) : Int32 := if k = 1 ∨ k = 4 then x + n + 3 else if k = 7 then (x + n) * 2 - 1 else if k = 6 then (x + n) * 2 else x + n
def e_SE (k : Int32) : List Int32 := if k = 1 ∨ k = 4 then [20, 1] else if k = 7 then [81, 70, 1] else if k = 6 then [70, 1] else [1]
def e_BV (k n x : Int32) : Int32 := if k = 5 then (x ^^^ n) * 3 - e_SV k n 2 else if k = 3 then (x ^^^ n) * 3 else x ^^^ n
def e_BE (k : Int32) : List Int32 := if k = 5 then 60 :: 40 :: 11 :: e_SE k else if k = 3 then [40, 11] else [11]
def e_HV (k n x : Int32) : Int32 := if k = 3 ∨ k = 5 then -(e_SV k n (x + 1) * 2) else if k = 7 then e_SV k n x * 2 + e_BV k n 2 else if k = 2 then -(e_SV k n x * 2) else e_SV k n x * 2
def e_HE (k : Int32) : List Int32 := if k = 3 ∨ k = 5 then 41 :: 30 :: 10 :: e_SE k else if k = 7 then 80 :: 10 :: (e_SE k ++ e_BE k) else if k = 2 then 30 :: 10 :: e_SE k else 10 :: e_SE k
def e_TV (k n x : Int32) : Int32 := if k = 4 then (e_HV k n x - e_BV k n 1) ^^^ 5 else if k = 5 then (e_HV k n x - e_BV k n 1) + 1 else e_HV k n x - e_BV k n 1
def e_TE (k : Int32) : List Int32 := if k = 4 then 50 :: 2 :: (e_HE k ++ e_BE k) else if k = 5 then 61 :: 2 :: (e_HE k ++ e_BE k) else 2 :: (e_HE k ++ e_BE k)
def e_AV (k n c x : Int32) : Int32 := if c = 0 then e_SV k n x else if c = 1 then e_HV k n x else if c = 2 then e_BV k n x else e_TV k n x
def e_AE (k c : Int32) : List Int32 := if c = 0 then e_SE k else if c = 1 then e_HE k else if c = 2 then e_BE k else e_TE k
/-- a body that is kept: its kind -/
def e_Q (n k : Int32) (s : vS) : Prop := (0 ≤ n.toInt ∧ n.toInt < 50) ∧ s.1 133 n.toNatClampNeg = k
theorem e_Qa {n k : Int32} {s : vS} (h : e_Q n k s) (l : List Int32) : e_Q n k (e_aC l s) := ⟨h.1, (e_aC133 l s _).trans h.2⟩
abbrev eR : Type := Int32 → Int32 → Int32 → Int32 → Int32 → vS → Option (Int32 × vS)
/-- by the acts of the kind d or above, a body n of kind k does act a: V and E -/
def e_fr (rec : eR) (d a n k : Int32) (D : Int) (V : Int32 → Int32) (E : List Int32) : Prop := ∀ (x f : Int32) (s : vS), e_Q n k s → 0 ≤ f.toInt → f.toInt ≤ D → v_P (rec d n a x f s) (fun r t => r = V x ∧ t = e_aC E s)
theorem e_frm {rec : eR} {d a n k : Int32} {D D2 : Int} {V : Int32 → Int32} {E : List Int32} (h : e_fr rec d a n k D V E) (hD : D2 ≤ D) : e_fr rec d a n k D2 V E := fun x f s hq h0 h1 => h x f s hq h0 (by omega)
theorem e_own {rec : eR} {n k a x f : Int32} {s : vS} {D : Int} {V : Int32 → Int32} {E : List Int32} (h : e_fr rec k a n k D V E) (hq : e_Q n k s) (h0 : 0 ≤ f.toInt) (h1 : f.toInt ≤ D) : v_P (f_Cl_own rec n a x f s) (fun r t => r = V x ∧ t = e_aC E s) := by
  have e : f_Cl_kindOf n s = some (k, s) := by
    unfold f_Cl_kindOf
    have := hq.1
    rw [if_neg (by omega), if_neg (by omega), if_pos (show v_in n 50 from ⟨by omega, by omega⟩), hq.2]
  unfold f_Cl_own
  rw [e, v_bi_some]
  exact v_Pbi (h x f s hq h0 h1) (fun r t ht => v_Pret ht)
/-- the walk up to the kind w that has the act a: its body c -/
def e_wk (d w a c : Int32) : Prop := (∀ (rec : eR) (n x f : Int32) (k : Int32 → vS → Option (Int32 × vS)) (s : vS), f_Cl_from_L6 rec n a x f k 4096 d 0 s = k w s) ∧ ∀ s, f_Cl_codeOf w a s = some (c, s)
theorem e_from0 {m : Nat} {d a c n k : Int32} {D : Int} {V : Int32 → Int32} {E : List Int32} (hw : e_wk d 0 a c) (hD : D ≤ 40) (h : ∀ (x f : Int32) (s : vS), e_Q n k s → 0 ≤ f.toInt → f.toInt ≤ D + 1 → v_P (f_Cl_atTop (f_Cl_from m) c n x f s) (fun r t => r = V x ∧ t = e_aC E s)) : e_fr (f_Cl_from (m + 1)) d a n k D V (c :: E) := fun x f s hq h0 h1 => by
  have e1 : (f + 1).toInt = f.toInt + 1 := v_inc (by omega)
  show v_P (f_Cl_fromb (f_Cl_from m) d n a x f s) _
  unfold f_Cl_fromb
  rw [hw.1, if_neg (by decide), if_pos (by omega), hw.2, v_bi_some, e_note, v_bi_some, if_pos (by decide)]
  exact v_Pbi (h x (f + 1) (e_nC s c) (e_Qa hq [c]) (by omega) (by omega)) (fun r t ht => v_Pret ht)
theorem e_from1 {m : Nat} {d w a c u n k : Int32} {D : Int} {V W : Int32 → Int32} {E F : List Int32} (hw : e_wk d w a c) (hu : ∀ s, f_Cl_above w s = some (u, s)) (hz : 0 < w.toInt) (hc : ¬ c.toInt = 41) (hD : D ≤ 40) (hr : e_fr (f_Cl_from m) u a n k (D + 1) V E) (h : ∀ (x f : Int32) (s : vS), e_Q n k s → 0 ≤ f.toInt → f.toInt ≤ D + 1 → v_P (f_Cl_changed (f_Cl_from m) c (V x) n f s) (fun r t => r = W x ∧ t = e_aC F s)) : e_fr (f_Cl_from (m + 1)) d a n k D W (c :: (E ++ F)) := fun x f s hq h0 h1 => by
  have e1 : (f + 1).toInt = f.toInt + 1 := v_inc (by omega)
  show v_P (f_Cl_fromb (f_Cl_from m) d n a x f s) _
  unfold f_Cl_fromb
  rw [hw.1, if_neg (by omega), if_pos (by omega), hw.2, v_bi_some, e_note, v_bi_some, if_neg (by omega), hu, v_bi_some, if_neg hc]
  refine v_Pbi (hr x (f + 1) (e_nC s c) (e_Qa hq [c]) (by omega) (by omega)) ?_
  rintro r t ⟨rfl, rfl⟩
  refine v_Pbi (h x (f + 1) _ (e_Qa (e_Qa hq [c]) E) (by omega) (by omega)) (fun r t ht => v_Pret ⟨ht.1, ?_⟩)
  rw [ht.2]
  exact (e_aC_app E F (e_nC s c)).symm
theorem e_from41 {m : Nat} {d w a u n k : Int32} {D : Int} {V : Int32 → Int32} {E : List Int32} (hw : e_wk d w a 41) (hu : ∀ s, f_Cl_above w s = some (u, s)) (hz : 0 < w.toInt) (hD : D ≤ 40) (hr : e_fr (f_Cl_from m) u a n k (D + 1) V E) : e_fr (f_Cl_from (m + 1)) d a n k D (fun x => V (x + 1)) (41 :: E) := fun x f s hq h0 h1 => by
  have e1 : (f + 1).toInt = f.toInt + 1 := v_inc (by omega)
  show v_P (f_Cl_fromb (f_Cl_from m) d n a x f s) _
  unfold f_Cl_fromb
  rw [hw.1, if_neg (by omega), if_pos (by omega), hw.2, v_bi_some, e_note, v_bi_some, if_neg (by omega), hu, v_bi_some, if_pos (by decide)]
  refine v_Pbi (hr (x + 1) (f + 1) (e_nC s 41) (e_Qa hq [41]) (by omega) (by omega)) ?_
  rintro r t ⟨rfl, rfl⟩
  unfold f_Cl_changed
  rw [if_neg (by decide), if_neg (by decide), if_neg (by decide), if_pos (by decide), v_bi_some]
  exact v_Pret ⟨rfl, rfl⟩
theorem e_fr0 {d a n k : Int32} {D : Int} {V : Int32 → Int32} {E : List Int32} : e_fr (f_Cl_from 0) d a n k D V E := fun _ _ _ _ _ _ => v_Pnone
