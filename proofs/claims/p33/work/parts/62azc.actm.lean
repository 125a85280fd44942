/-! acts: the reference's side, and both together -/
def e_nM (s : vS) (x : Int32) : vS := if (s.1 151 44).toInt < 0 ∨ 24 ≤ (s.1 151 44).toInt then v_w1 s 151 44 (s.1 151 44 + 1) else v_w1 (v_w1 s 180 (s.1 151 44).toNatClampNeg x) 151 44 (s.1 151 44 + 1)
def e_aM : List Int32 → vS → vS
  | [], s => s
  | x :: l, s => e_aM l (e_nM s x)
theorem e_aM_app : ∀ (l m : List Int32) (s : vS), e_aM (l ++ m) s = e_aM m (e_aM l s)
  | [], _, _ => rfl
  | x :: l, m, s => e_aM_app l m (e_nM s x)
theorem e_nM179 (s : vS) (x : Int32) (j : Nat) : (e_nM s x).1 179 j = s.1 179 j := by
  unfold e_nM
  by_cases h : (s.1 151 44).toInt < 0 ∨ 24 ≤ (s.1 151 44).toInt
  · rw [if_pos h, v_w1_1, if_neg (by omega)]
  · rw [if_neg h, v_w1_1, if_neg (by omega), v_w1_1, if_neg (by omega)]
theorem e_aM179 : ∀ (l : List Int32) (s : vS) (j : Nat), (e_aM l s).1 179 j = s.1 179 j
  | [], _, _ => rfl
  | x :: l, s, j => (e_aM179 l (e_nM s x) j).trans (e_nM179 s x j)
theorem e_ran (x : Int32) (s : vS) : v_P (f_Md_ran x s) (fun _ t => t = e_nM s x) := by
  unfold f_Md_ran e_nM
  by_cases h2 : 24 ≤ (s.1 151 44).toInt
  · rw [if_pos h2, if_pos (Or.inr h2)]
    exact v_Plet (v_Pret rfl)
  · rw [if_neg h2]
    refine v_Pif (fun hv => ?_) (fun _ => v_Pnone)
    rw [if_neg (show ¬ ((s.1 151 44).toInt < 0 ∨ 24 ≤ (s.1 151 44).toInt) by have := hv.1; omega)]
    refine v_Plet (v_Plet (v_Pret ?_))
    rw [show (v_w1 s 180 (s.1 151 44).toNatClampNeg x).1 151 44 = s.1 151 44 from v_w1_1.trans (if_neg (by omega))]
/-- the reference's acts of a body n of kind k -/
def e_mf (g : Int32 → Int32 → vS → Option (Int32 × vS)) (n k : Int32) (V : Int32 → Int32) (E : List Int32) : Prop := ∀ (x : Int32) (s : vS), s.1 179 n.toNatClampNeg = k → v_P (g n x s) (fun r t => r = V x ∧ t = e_aM E s)
theorem e_mq {s : vS} {n k : Int32} (h : s.1 179 n.toNatClampNeg = k) (l : List Int32) : (e_aM l s).1 179 n.toNatClampNeg = k := (e_aM179 l s _).trans h
/-- one body of acts runs, another act, and what is made of it -/
theorem e_m1 {g : Int32 → Int32 → vS → Option (Int32 × vS)} {h : Int32 → Int32} {n k c x : Int32} {V : Int32 → Int32} {E : List Int32} {s : vS} (hg : e_mf g n k V E) (hq : s.1 179 n.toNatClampNeg = k) : v_P (v_bi (f_Md_ran c s) (fun _ s1 => v_bi (g n x s1) (fun r2 s2 => some (h r2, s2)))) (fun r t => r = h (V x) ∧ t = e_aM (c :: E) s) := by
  refine v_Pbi (e_ran c s) ?_
  rintro _ _ rfl
  refine v_Pbi (hg x (e_nM s c) (e_mq hq [c])) ?_
  rintro _ _ ⟨rfl, rfl⟩
  exact v_Pret ⟨rfl, rfl⟩
/-- one body of acts runs, two other acts, and what is made of them -/
theorem e_m2 {g g2 : Int32 → Int32 → vS → Option (Int32 × vS)} {h : Int32 → Int32 → Int32} {n k c x y : Int32} {V V2 : Int32 → Int32} {E E2 : List Int32} {s : vS} (hg : e_mf g n k V E) (hg2 : e_mf g2 n k V2 E2) (hq : s.1 179 n.toNatClampNeg = k) : v_P (v_bi (f_Md_ran c s) (fun _ s1 => v_bi (g n x s1) (fun r2 s2 => v_bi (g2 n y s2) (fun r3 s3 => some (h r2 r3, s3))))) (fun r t => r = h (V x) (V2 y) ∧ t = e_aM (c :: (E ++ E2)) s) := by
  refine v_Pbi (e_ran c s) ?_
  rintro _ _ rfl
  refine v_Pbi (hg x (e_nM s c) (e_mq hq [c])) ?_
  rintro _ _ ⟨rfl, rfl⟩
  refine v_Pbi (hg2 y (e_aM E (e_nM s c)) (e_mq (e_mq hq [c]) E)) ?_
  rintro _ _ ⟨rfl, rfl⟩
  exact v_Pret ⟨rfl, (e_aM_app E E2 (e_nM s c)).symm⟩
theorem e_m0 {g : Int32 → Int32 → vS → Option (Int32 × vS)} {n k x : Int32} {V : Int32 → Int32} {E : List Int32} {s : vS} (hg : e_mf g n k V E) (hq : s.1 179 n.toNatClampNeg = k) : v_P (v_bi (g n x s) (fun r2 s2 => some (r2, s2))) (fun r t => r = V x ∧ t = e_aM E s) := v_Pbi (hg x s hq) (fun _ _ ht => v_Pret ht)
theorem e_mpS {n k : Int32} : e_mf f_Md_plainSays n k (fun x => x + n) [1] := fun x s hq => by
  unfold f_Md_plainSays
  refine v_Pbi (e_ran 1 s) ?_
  rintro _ _ rfl
  exact v_Pret ⟨rfl, rfl⟩
theorem e_mwS {n k : Int32} : e_mf f_Md_wordSays n k (fun x => (x + n) * 2) [70, 1] := fun x s hq => by
  unfold f_Md_wordSays
  exact e_m1 (h := fun r => r * 2) e_mpS hq
theorem e_mpB {n k : Int32} : e_mf f_Md_plainBeats n k (fun x => x ^^^ n) [11] := fun x s hq => by
  unfold f_Md_plainBeats
  refine v_Pbi (e_ran 11 s) ?_
  rintro _ _ rfl
  exact v_Pret ⟨rfl, rfl⟩
theorem e_muB {n k : Int32} : e_mf f_Md_unlessBeats n k (fun x => (x ^^^ n) * 3) [40, 11] := fun x s hq => by
  unfold f_Md_unlessBeats
  exact e_m1 (h := fun r => r * 3) e_mpB hq
theorem e_mS {n k : Int32} (hk : 0 ≤ k.toInt ∧ k.toInt ≤ 7) : e_mf f_Md_saying n k (e_SV k n) (e_SE k) := fun x s hq => by
  unfold f_Md_saying
  refine v_Pif (fun hv => ?_) (fun _ => v_Pnone)
  rw [hq]
  rcases u_lit hk with rfl | rfl | rfl | rfl | rfl | rfl | rfl | rfl
  · rw [show f_Md_isUnder 0 1 s = some (0, s) from rfl, v_bi_some, if_pos (by decide), if_pos hv, hq, if_neg (by decide), if_pos hv, if_neg (by decide)]
    exact e_m0 e_mpS hq
  · rw [show f_Md_isUnder 1 1 s = some (1, s) from rfl, v_bi_some, if_neg (by decide)]
    exact e_m1 (h := fun r => r + 3) e_mpS hq
  · rw [show f_Md_isUnder 2 1 s = some (0, s) from rfl, v_bi_some, if_pos (by decide), if_pos hv, hq, if_neg (by decide), if_pos hv, if_neg (by decide)]
    exact e_m0 e_mpS hq
  · rw [show f_Md_isUnder 3 1 s = some (0, s) from rfl, v_bi_some, if_pos (by decide), if_pos hv, hq, if_neg (by decide), if_pos hv, if_neg (by decide)]
    exact e_m0 e_mpS hq
  · rw [show f_Md_isUnder 4 1 s = some (1, s) from rfl, v_bi_some, if_neg (by decide)]
    exact e_m1 (h := fun r => r + 3) e_mpS hq
  · rw [show f_Md_isUnder 5 1 s = some (0, s) from rfl, v_bi_some, if_pos (by decide), if_pos hv, hq, if_neg (by decide), if_pos hv, if_neg (by decide)]
    exact e_m0 e_mpS hq
  · rw [show f_Md_isUnder 6 1 s = some (0, s) from rfl, v_bi_some, if_pos (by decide), if_pos hv, hq, if_neg (by decide), if_pos hv, if_pos (by decide)]
    exact e_m0 e_mwS hq
  · rw [show f_Md_isUnder 7 1 s = some (0, s) from rfl, v_bi_some, if_pos (by decide), if_pos hv, hq, if_pos (by decide)]
    exact e_m1 (h := fun r => r - 1) e_mwS hq
theorem e_mpH {n k : Int32} (hk : 0 ≤ k.toInt ∧ k.toInt ≤ 7) : e_mf f_Md_plainHolds n k (fun x => e_SV k n x * 2) (10 :: e_SE k) := fun x s hq => by
  unfold f_Md_plainHolds
  exact e_m1 (h := fun r => r * 2) (e_mS hk) hq
theorem e_mmH {n k : Int32} (hk : 0 ≤ k.toInt ∧ k.toInt ≤ 7) : e_mf f_Md_mayHolds n k (fun x => -(e_SV k n x * 2)) (30 :: 10 :: e_SE k) := fun x s hq => by
  unfold f_Md_mayHolds
  exact e_m1 (h := fun r => -r) (e_mpH hk) hq
theorem e_mB {n k : Int32} (hk : 0 ≤ k.toInt ∧ k.toInt ≤ 7) : e_mf f_Md_beating n k (e_BV k n) (e_BE k) := fun x s hq => by
  unfold f_Md_beating
  refine v_Pif (fun hv => ?_) (fun _ => v_Pnone)
  rw [hq]
  rcases u_lit hk with rfl | rfl | rfl | rfl | rfl | rfl | rfl | rfl
  · rw [if_neg (by decide), if_pos hv, if_neg (by decide)]
    exact e_m0 e_mpB hq
  · rw [if_neg (by decide), if_pos hv, if_neg (by decide)]
    exact e_m0 e_mpB hq
  · rw [if_neg (by decide), if_pos hv, if_neg (by decide)]
    exact e_m0 e_mpB hq
  · rw [if_neg (by decide), if_pos hv, if_pos (by decide)]
    exact e_m0 e_muB hq
  · rw [if_neg (by decide), if_pos hv, if_neg (by decide)]
    exact e_m0 e_mpB hq
  · rw [if_pos (by decide)]
    exact e_m2 (h := fun r q => r - q) e_muB (e_mS hk) hq
  · rw [if_neg (by decide), if_pos hv, if_neg (by decide)]
    exact e_m0 e_mpB hq
  · rw [if_neg (by decide), if_pos hv, if_neg (by decide)]
    exact e_m0 e_mpB hq
theorem e_mH {n k : Int32} (hk : 0 ≤ k.toInt ∧ k.toInt ≤ 7) : e_mf f_Md_holding n k (e_HV k n) (e_HE k) := fun x s hq => by
  unfold f_Md_holding
  refine v_Pif (fun hv => ?_) (fun _ => v_Pnone)
  rw [hq]
  rcases u_lit hk with rfl | rfl | rfl | rfl | rfl | rfl | rfl | rfl
  · rw [show f_Md_isUnder 0 3 s = some (0, s) from rfl, v_bi_some, if_pos (by decide), if_pos hv, hq, if_neg (by decide), if_pos hv, if_neg (by decide)]
    exact e_m0 (e_mpH hk) hq
  · rw [show f_Md_isUnder 1 3 s = some (0, s) from rfl, v_bi_some, if_pos (by decide), if_pos hv, hq, if_neg (by decide), if_pos hv, if_neg (by decide)]
    exact e_m0 (e_mpH hk) hq
  · rw [show f_Md_isUnder 2 3 s = some (0, s) from rfl, v_bi_some, if_pos (by decide), if_pos hv, hq, if_neg (by decide), if_pos hv, if_pos (by decide)]
    exact e_m0 (e_mmH hk) hq
  · rw [show f_Md_isUnder 3 3 s = some (1, s) from rfl, v_bi_some, if_neg (by decide)]
    exact e_m1 (h := fun r => r) (e_mmH hk) hq
  · rw [show f_Md_isUnder 4 3 s = some (0, s) from rfl, v_bi_some, if_pos (by decide), if_pos hv, hq, if_neg (by decide), if_pos hv, if_neg (by decide)]
    exact e_m0 (e_mpH hk) hq
  · rw [show f_Md_isUnder 5 3 s = some (1, s) from rfl, v_bi_some, if_neg (by decide)]
    exact e_m1 (h := fun r => r) (e_mmH hk) hq
  · rw [show f_Md_isUnder 6 3 s = some (0, s) from rfl, v_bi_some, if_pos (by decide), if_pos hv, hq, if_neg (by decide), if_pos hv, if_neg (by decide)]
    exact e_m0 (e_mpH hk) hq
  · rw [show f_Md_isUnder 7 3 s = some (0, s) from rfl, v_bi_some, if_pos (by decide), if_pos hv, hq, if_pos (by decide)]
    exact e_m2 (h := fun r q => r + q) (e_mpH hk) (e_mB hk) hq
theorem e_mpT {n k : Int32} (hk : 0 ≤ k.toInt ∧ k.toInt ≤ 7) : e_mf f_Md_plainTells n k (fun x => e_HV k n x - e_BV k n 1) (2 :: (e_HE k ++ e_BE k)) := fun x s hq => by
  unfold f_Md_plainTells
  exact e_m2 (h := fun r q => r - q) (e_mH hk) (e_mB hk) hq
theorem e_mT {n k : Int32} (hk : 0 ≤ k.toInt ∧ k.toInt ≤ 7) : e_mf f_Md_telling n k (e_TV k n) (e_TE k) := fun x s hq => by
  unfold f_Md_telling
  refine v_Pif (fun hv => ?_) (fun _ => v_Pnone)
  rw [hq]
  rcases u_lit hk with rfl | rfl | rfl | rfl | rfl | rfl | rfl | rfl
  · rw [if_neg (by decide), if_pos hv, if_neg (by decide)]
    exact e_m0 (e_mpT hk) hq
  · rw [if_neg (by decide), if_pos hv, if_neg (by decide)]
    exact e_m0 (e_mpT hk) hq
  · rw [if_neg (by decide), if_pos hv, if_neg (by decide)]
    exact e_m0 (e_mpT hk) hq
  · rw [if_neg (by decide), if_pos hv, if_neg (by decide)]
    exact e_m0 (e_mpT hk) hq
  · rw [if_pos (by decide)]
    exact e_m1 (h := fun r => r ^^^ 5) (e_mpT hk) hq
  · rw [if_neg (by decide), if_pos hv, if_pos (by decide)]
    exact e_m1 (h := fun r => r + 1) (e_mpT hk) hq
  · rw [if_neg (by decide), if_pos hv, if_neg (by decide)]
    exact e_m0 (e_mpT hk) hq
  · rw [if_neg (by decide), if_pos hv, if_neg (by decide)]
    exact e_m0 (e_mpT hk) hq
/-! the call itself -/
def z_act (b c d n k : Int32) : Int32 := if 0 ≤ b.toInt ∧ b.toInt < n.toInt then (if 0 ≤ c.toInt ∧ c.toInt ≤ 3 then e_AV k b c d else 0) else 0
def z_actE (b c n k : Int32) : List Int32 := if 0 ≤ b.toInt ∧ b.toInt < n.toInt then (if 0 ≤ c.toInt ∧ c.toInt ≤ 3 then e_AE k c else []) else []
theorem u_lit4 {b : Int32} (h : 0 ≤ b.toInt ∧ b.toInt ≤ 3) : b = 0 ∨ b = 1 ∨ b = 2 ∨ b = 3 := by
  rcases (show b.toInt = 0 ∨ b.toInt = 1 ∨ b.toInt = 2 ∨ b.toInt = 3 by omega) with h | h | h | h
  · exact Or.inl (Int32.toInt_inj.mp h)
  · exact Or.inr (Or.inl (Int32.toInt_inj.mp h))
  · exact Or.inr (Or.inr (Or.inl (Int32.toInt_inj.mp h)))
  · exact Or.inr (Or.inr (Or.inr (Int32.toInt_inj.mp h)))
theorem e_knows (b : Int32) (s : vS) : f_Cl_knows b s = some (v_b (0 ≤ b.toInt ∧ b.toInt < (s.1 132 0).toInt), s) := by
  unfold f_Cl_knows
  by_cases h1 : b.toInt < 0
  · rw [if_pos h1, v_b_neg (by omega)]
  · rw [if_neg h1]
    by_cases h2 : (s.1 132 0).toInt ≤ b.toInt
    · rw [if_pos h2, v_b_neg (by omega)]
    · rw [if_neg h2, v_b_pos (by omega)]
theorem e_AF (m : Nat) {n k c : Int32} (hk : 0 ≤ k.toInt ∧ k.toInt ≤ 7) (hc : 0 ≤ c.toInt ∧ c.toInt ≤ 3) : e_fr (f_Cl_from m) k c n k 29 (e_AV k n c) (e_AE k c) := by
  rcases u_lit4 hc with rfl | rfl | rfl | rfl
  · exact e_frm (e_S m hk) (by decide)
  · exact e_frm (e_H m hk) (by decide)
  · exact e_frm (e_B m hk) (by decide)
  · exact e_frm (e_T m hk) (by decide)
theorem z_Cl_perform (b c d : Int32) (s : vS) (h : v_CI s) : v_P (f_Cl_perform b c d s) (fun r t => r = z_act b c d (s.1 132 0) (s.1 133 b.toNatClampNeg) ∧ t = e_aC (z_actE b c (s.1 132 0) (s.1 133 b.toNatClampNeg)) (v_w1 s 132 1 0)) := by
  have hm := h.2.2
  unfold f_Cl_perform z_act z_actE
  refine v_Plet ?_
  have e0 : (v_w1 s 132 1 0).1 132 0 = s.1 132 0 := v_w1_1.trans (if_neg (by omega))
  have e3 : ∀ j, (v_w1 s 132 1 0).1 133 j = s.1 133 j := fun j => v_w1_1.trans (if_neg (by omega))
  generalize v_w1 s 132 1 0 = s1 at e0 e3 ⊢
  rw [e_knows, v_bi_some, v_bif, e0]
  by_cases h1 : 0 ≤ b.toInt ∧ b.toInt < (s.1 132 0).toInt
  · rw [if_pos h1, if_pos h1, if_pos h1]
    by_cases h2 : 0 ≤ c.toInt ∧ c.toInt ≤ 3
    · rw [if_pos h2, if_pos h2, if_neg (show ¬ c.toInt < 0 by omega), if_pos (show c.toInt < 4 by omega)]
      have hk := h.2.1 b.toNatClampNeg (by rw [v_nc]; omega)
      exact v_Pbi (e_own (e_AF 64 hk h2) ⟨⟨h1.1, by omega⟩, e3 _⟩ (by decide) (by decide)) (fun r t ht => v_Pret ht)
    · rw [if_neg h2, if_neg h2]
      exact v_Pif (fun _ => v_Pret ⟨rfl, rfl⟩) (fun h3 => by
        rw [if_neg (show ¬ c.toInt < 4 by omega)]
        exact v_Pret ⟨rfl, rfl⟩)
  · rw [if_neg h1, if_neg h1, if_neg h1]
    exact v_Pret ⟨rfl, rfl⟩
theorem z_Ol_act (b c d : Int32) (s : vS) (h : v_CI s) : v_P (f_Ol_act b c d s) (fun r t => r = z_act b c d (s.1 132 0) (s.1 133 b.toNatClampNeg) ∧ t = e_aC (z_actE b c (s.1 132 0) (s.1 133 b.toNatClampNeg)) (v_w1 s 132 1 0)) := by
  unfold f_Ol_act
  exact v_Pbi (z_Cl_perform b c d s h) (fun r t ht => v_Pret ht)
theorem z_Md_act (b c d : Int32) (s : vS) (h : v_RI s) (hkd : ∀ j, j < 50 → 0 ≤ (s.1 179 j).toInt ∧ (s.1 179 j).toInt ≤ 7) : v_P (f_Md_act b c d s) (fun r t => r = z_act b c d (s.1 151 42) (s.1 179 b.toNatClampNeg) ∧ t = e_aM (z_actE b c (s.1 151 42) (s.1 179 b.toNatClampNeg)) (v_w1 s 151 44 0)) := by
  have hm := h.2.2.2.2.2.1
  have ei : ((s.1 151 42) - (1 : Int32)).toInt = (s.1 151 42).toInt - 1 := v_sub (show -2147483648 ≤ (s.1 151 42).toInt - 1 by omega) (show (s.1 151 42).toInt - 1 < 2147483648 by omega)
  unfold f_Md_act z_act z_actE
  refine v_Plet ?_
  have e0 : (v_w1 s 151 44 0).1 151 42 = s.1 151 42 := v_w1_1.trans (if_neg (by omega))
  have e3 : ∀ j, (v_w1 s 151 44 0).1 179 j = s.1 179 j := fun j => v_w1_1.trans (if_neg (by omega))
  generalize v_w1 s 151 44 0 = s1 at e0 e3 ⊢
  rw [z_isBody, v_bi_some, v_bif, e0]
  by_cases h1 : 0 ≤ b.toInt ∧ b.toInt < (s.1 151 42).toInt
  · rw [if_pos (show (0 : Int32).toInt ≤ b.toInt ∧ b.toInt ≤ ((s.1 151 42) - (1 : Int32)).toInt from ⟨h1.1, by omega⟩), if_pos h1, if_pos h1, z_in, v_bi_some, v_bif]
    by_cases h2 : 0 ≤ c.toInt ∧ c.toInt ≤ 3
    · rw [if_pos (show (0 : Int32).toInt ≤ c.toInt ∧ c.toInt ≤ (3 : Int32).toInt from h2), if_pos h2, if_pos h2]
      have hk := hkd b.toNatClampNeg (by rw [v_nc]; omega)
      rcases u_lit4 h2 with rfl | rfl | rfl | rfl
      · rw [if_pos (by decide)]
        exact e_m0 (e_mS hk) (e3 _)
      · rw [if_neg (by decide), if_pos (by decide)]
        exact e_m0 (e_mH hk) (e3 _)
      · rw [if_neg (by decide), if_neg (by decide), if_pos (by decide)]
        exact e_m0 (e_mB hk) (e3 _)
      · rw [if_neg (by decide), if_neg (by decide), if_neg (by decide)]
        exact e_m0 (e_mT hk) (e3 _)
    · rw [if_neg (show ¬ ((0 : Int32).toInt ≤ c.toInt ∧ c.toInt ≤ (3 : Int32).toInt) from h2), if_neg h2, if_neg h2]
      exact v_Pret ⟨rfl, rfl⟩
  · rw [if_neg (show ¬ ((0 : Int32).toInt ≤ b.toInt ∧ b.toInt ≤ ((s.1 151 42) - (1 : Int32)).toInt) from fun z => h1 ⟨z.1, by omega⟩), if_neg h1, if_neg h1]
    exact v_Pret ⟨rfl, rfl⟩
theorem e_actX {b c d : Int32} {s : vS} (h : v_I4 s) : z_act b c d (s.1 132 0) (s.1 133 b.toNatClampNeg) = z_act b c d (s.1 151 42) (s.1 179 b.toNatClampNeg) := by
  have hm := h.1.1.1.1.2.2
  unfold z_act
  rw [← h.1.1.2]
  by_cases h1 : 0 ≤ b.toInt ∧ b.toInt < (s.1 132 0).toInt
  · rw [h.2 b.toNatClampNeg (by rw [v_nc]; omega)]
  · rw [if_neg h1, if_neg h1]
theorem e_kM {s t : vS} (h : v_I4 s) (hl : v_lo s t) : ∀ j, j < 50 → 0 ≤ (t.1 179 j).toInt ∧ (t.1 179 j).toInt ≤ 7 := fun j hj => by
  rw [hl 179 j (by decide), ← h.2 j hj]
  exact h.1.1.1.1.2.1 j hj
theorem e_act {b c d : Int32} {s : vS} (h : v_I4 s) (hj : v_T (f_Ol_act b c d s) (fun _ s1 => v_T (f_Md_act b c d s1) (fun _ s2 => v_I4 s2))) : v_T (f_Ol_act b c d s) (fun r1 s1 => v_T (f_Md_act b c d s1) (fun r2 s2 => v_I4 s2 ∧ r1 = r2)) :=
  k_ans2 (X := fun s => z_act b c d (s.1 151 42) (s.1 179 b.toNatClampNeg)) h.1.1.1.2 hj (v_Tm (l_cact b c d s h.1.1.1.1) (fun _ _ x => x.2.1)) (v_Tm (v_TP (l_cact b c d s h.1.1.1.1) (z_Ol_act b c d s h.1.1.1.1)) (fun _ _ x => x.2.1.trans (e_actX h))) (fun t hl ht => v_Tm (v_TP (m_act3 b c d t ht) (z_Md_act b c d t ht (e_kM h hl))) (fun _ _ x => by rw [x.2.1, hl 151 42 (by decide), hl 179 _ (by decide)]))
