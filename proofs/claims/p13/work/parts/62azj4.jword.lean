/-! wordings: write and bars -/
theorem wb_and (x y : Int64) (i : Nat) : b6 (x &&& y) i = (b6 x i && b6 y i) := by
  unfold b6
  rw [Int64.toBitVec_and, BitVec.getLsbD_and]
theorem wb_both {a b c : Nat} {s : vS} (hab : ¬ b = a) (hac : ¬ c = a) : ∃ t, f_Cs_takeBoth a b c s = some ((), t) ∧ t.1 = s.1 ∧ (∀ d j, ¬ d = a → t.2 d j = s.2 d j) ∧ ∀ i, lb t a i = (lb s b i && lb s c i) := by
  have h0 : (v_w2 (v_w2 s a 0 (s.2 b 0 &&& s.2 c 0)) a 1 (s.2 b 1 &&& s.2 c 1)).2 a 0 = s.2 b 0 &&& s.2 c 0 := by rw [v_w2_2, if_neg (fun z => absurd z.2 (by decide)), v_w2_2, if_pos ⟨rfl, rfl⟩]
  have h1 : (v_w2 (v_w2 s a 0 (s.2 b 0 &&& s.2 c 0)) a 1 (s.2 b 1 &&& s.2 c 1)).2 a 1 = s.2 b 1 &&& s.2 c 1 := by rw [v_w2_2, if_pos ⟨rfl, rfl⟩]
  have e : f_Cs_takeBoth a b c s = some ((), v_w2 (v_w2 s a 0 (s.2 b 0 &&& s.2 c 0)) a 1 (s.2 b 1 &&& s.2 c 1)) := by
    unfold f_Cs_takeBoth
    show some ((), v_w2 (v_w2 s a 0 (s.2 b 0 &&& s.2 c 0)) a 1 ((v_w2 s a 0 (s.2 b 0 &&& s.2 c 0)).2 b 1 &&& (v_w2 s a 0 (s.2 b 0 &&& s.2 c 0)).2 c 1)) = _
    rw [v_w2_2, if_neg (fun z => hab z.1), v_w2_2, if_neg (fun z => hac z.1)]
  refine ⟨_, e, rfl, fun d j hd => ?_, fun i => ?_⟩
  · rw [v_w2_2, if_neg (fun z => hd z.1), v_w2_2, if_neg (fun z => hd z.1)]
  · unfold lb
    rw [h0, h1, wb_and, wb_and]
    by_cases h : i < 64
    · rw [if_pos h, if_pos h, if_pos h]
    · rw [if_neg h, if_neg h, if_neg h]
theorem lb_E {s t : vS} {a : Nat} (h : ∀ j, t.2 a j = s.2 a j) (i : Nat) : lb t a i = lb s a i := by
  unfold lb
  rw [h 0, h 1]
/-- a condition: its sign and its number, at the number that its word has -/
def cq (v g n : Int32) : Bool := if g.toInt = 0 then decide (v.toInt < n.toInt) else if g.toInt = 1 then decide (v.toInt = n.toInt) else decide (n.toInt < v.toInt)
theorem y_compares (v g n : Int32) (s : vS) : f_Wd_compares v g n s = some (if cq v g n = true then 1 else 0, s) := by
  unfold f_Wd_compares cq
  by_cases h0 : g.toInt = 0
  · rw [if_pos h0, if_pos h0]
    by_cases c : v.toInt < n.toInt
    · rw [if_neg (show ¬ n.toInt ≤ v.toInt by omega), decide_eq_true c, if_pos rfl]
    · rw [if_pos (show n.toInt ≤ v.toInt by omega), decide_eq_false c, if_neg (by decide)]
  · rw [if_neg h0, if_neg h0]
    by_cases h1 : g.toInt = 1
    · rw [if_pos h1, if_pos h1]
      by_cases c : v.toInt = n.toInt
      · rw [if_pos c, decide_eq_true c, if_pos rfl]
      · rw [if_neg c, decide_eq_false c, if_neg (by decide)]
    · rw [if_neg h1, if_neg h1]
      by_cases c : n.toInt < v.toInt
      · rw [if_neg (show ¬ v.toInt ≤ n.toInt by omega), decide_eq_true c, if_pos rfl]
      · rw [if_pos (show v.toInt ≤ n.toInt by omega), decide_eq_false c, if_neg (by decide)]
/-- the condition of place k, in case i -/
def sk (m : Nat → Int32) (k i : Nat) : Bool := cq (e_dig (Int32.ofNat i) (m (k / 15))) ((Int32.ofNat k / (5 : Int32)) - (Int32.ofNat k / (5 : Int32)) / (3 : Int32) * (3 : Int32)) (Int32.ofNat k - Int32.ofNat k / (5 : Int32) * (5 : Int32))
theorem k_15 {v : Int32} {k : Nat} (h : v.toInt = k) : (v / (15 : Int32)).toInt = ((k / 15 : Nat) : Int) := by
  rw [v_tdiv (y := 15) (by omega) (by decide), h]
  show (k : Int) / 15 = _
  omega
theorem dl_s {j i : Nat} (h : ¬ j = i) : decide (j < i) = decide (j < i + 1) := decide_eq_decide.mpr (by omega)
theorem yC_pr55 {s0 : vS} {a : Nat} {p2 v mn : Int32} {G : Nat → Bool} (hG : ∀ i, i < 125 → G i = cq (e_dig (Int32.ofNat i) mn) ((v / (5 : Int32)) - (v / (5 : Int32)) / (3 : Int32) * (3 : Int32)) (v - v / (5 : Int32) * (5 : Int32))) {k : vS → Option (Unit × vS)} {Q : Unit → vS → Prop} (hk : ∀ t, t.1 = s0.1 → (∀ c j, ¬ c = a → t.2 c j = s0.2 c j) → (∀ i, i < 128 → lb t a i = (decide (i < 125) && G i)) → v_P (k t) Q) : ∀ (n : Nat) (x : Int32) (s : vS), 0 ≤ x.toInt → x.toInt ≤ 125 → s.1 = s0.1 → (∀ c j, ¬ c = a → s.2 c j = s0.2 c j) → (∀ i, i < 128 → lb s a i = (decide (i < x.toInt.toNat) && G i)) → v_P (f_Wd_prepare_L55 p2 v mn a k n x s) Q
  | 0, _, _, _, _, _, _, _ => v_Pnone
  | n + 1, x, s, h0, h1, e1, e2, hB => by
    show v_P (f_Wd_prepare_L55b p2 v mn a k (f_Wd_prepare_L55 p2 v mn a k n) x s) Q
    unfold f_Wd_prepare_L55b
    by_cases c : 125 ≤ x.toInt
    · rw [if_pos c]
      exact hk s e1 e2 (fun i hi => by rw [hB i hi, show x.toInt.toNat = 125 by omega])
    · rw [if_neg c]
      obtain ⟨i, hi⟩ : ∃ i : Nat, x.toInt = i := ⟨x.toInt.toNat, by omega⟩
      have ei := v_inc (x := x) (by omega)
      have hxo := v_ofn hi
      have hn1 : (x + 1).toInt.toNat = i + 1 := by omega
      have hn0 : x.toInt.toNat = i := by omega
      rw [hn0] at hB
      have hg := hG i (by omega)
      rw [← hxo] at hg
      rw [y_digit, v_bi_some, y_compares, v_bi_some, b01, ← hg]
      by_cases z : G i = true
      · rw [if_pos z]
        obtain ⟨t, t1, t2, t3, t4⟩ := lb_add (a := a) (b := x) (s := s) hi (by omega)
        rw [t1, v_bi_some]
        refine yC_pr55 hG hk n (x + 1) t (by omega) (by omega) (t2.trans e1) (fun c j hc => (t3 c j hc).trans (e2 c j hc)) (fun j hj => ?_)
        rw [t4 j hj, hB j hj, hn1]
        by_cases q : j = i
        · rw [q, z]; simp
        · rw [decide_eq_false q, Bool.or_false, dl_s q]
      · rw [if_neg z]
        refine yC_pr55 hG hk n (x + 1) s (by omega) (by omega) e1 e2 (fun j hj => ?_)
        rw [hB j hj, hn1]
        by_cases q : j = i
        · rw [q, b_ff z, Bool.and_false, Bool.and_false]
        · rw [dl_s q]
/-- the cells that wordings are gone through in -/
def wx_W (a j : Nat) : Prop := a = 78 ∨ (a = 79 ∧ 1 ≤ j ∧ j ≤ 2) ∨ a = 83 ∨ (86 ≤ a ∧ a ≤ 131)
theorem yC_pr20 {s0 : vS} {c : Int32} {k : vS → Option (Unit × vS)} {Q : Unit → vS → Prop} (hk : ∀ t, v_F wx_W s0 t → t.1 = s0.1 → (∀ b, b < 45 → ∀ i, i < 128 → lb t (87 + b) i = (decide (i < 125) && sk (fun w => e_mn s0 w c) b i)) → v_P (k t) Q) : ∀ (n : Nat) (v : Int32) (s : vS), 0 ≤ v.toInt → v.toInt ≤ 45 → v_F wx_W s0 s → s.1 = s0.1 → (∀ b, b < v.toInt.toNat → ∀ i, i < 128 → lb s (87 + b) i = (decide (i < 125) && sk (fun w => e_mn s0 w c) b i)) → v_P (f_Wd_prepare_L20 c k n v s) Q
  | 0, _, _, _, _, _, _, _ => v_Pnone
  | n + 1, v, s, h0, h1, hF, e1, hB => by
    show v_P (f_Wd_prepare_L20b c k (f_Wd_prepare_L20 c k n) v s) Q
    unfold f_Wd_prepare_L20b
    by_cases q : 45 ≤ v.toInt
    · rw [if_pos q]
      exact hk s hF e1 (fun b hb => hB b (by omega))
    · rw [if_neg q]
      obtain ⟨b, hb⟩ : ∃ b : Nat, v.toInt = b := ⟨v.toInt.toNat, by omega⟩
      have ei := v_inc (x := v) (by omega)
      have hvo := v_ofn hb
      have hn1 : (v + 1).toInt.toNat = b + 1 := by omega
      have hn0 : v.toInt.toNat = b := by omega
      rw [hn0] at hB
      have em : e_mn s (b / 15) c = e_mn s0 (b / 15) c := by unfold e_mn; rw [e1]
      rw [y_mnC (w := b / 15) (k_15 hb) (by omega) c s, v_bi_some, em]
      refine v_Pbi (zq_metIn v h0 (by omega) s) ?_
      rintro r s ⟨rfl, rfl⟩
      refine v_Pif (fun _ => ?_) (fun _ => v_Pnone)
      rw [hn0]
      obtain ⟨t, t1, t2, t3, t4⟩ := lb_clear (a := 87 + b) (s := s)
      rw [t1, v_bi_some]
      refine yC_pr55 (s0 := t) (G := sk (fun w => e_mn s0 w c) b) (fun i _ => by unfold sk; rw [hvo]) (fun u u1 u2 u3 => ?_) 4096 0 t (by decide) (by decide) rfl (fun _ _ _ => rfl) (fun i _ => ?_)
      · refine yC_pr20 hk n (v + 1) u (by omega) (by omega) (fun a j z => ⟨(congrFun (congrFun (u1.trans t2) a) j).trans (hF a j z).1, ((u2 a j (fun y => z (by unfold wx_W; omega))).trans (t3 a j (fun y => z (by unfold wx_W; omega)))).trans (hF a j z).2⟩) ((u1.trans t2).trans e1) (fun b2 hb2 i hi => ?_)
        by_cases e : b2 = b
        · rw [e]; exact u3 i hi
        · rw [lb_E (fun j => (u2 (87 + b2) j (by omega)).trans (t3 (87 + b2) j (by omega))) i]
          exact hB b2 (by omega) i hi
      · rw [t4 i, decide_eq_false (show ¬ i < (0 : Int32).toInt.toNat from Nat.not_lt_zero i), Bool.false_and]
theorem yC_prepare (c d e : Int32) (s : vS) : v_P (f_Wd_prepare c d e s) (fun _ t => v_F wx_W s t ∧ t.1 79 1 = d ∧ t.1 79 2 = e ∧ t.1 79 0 = s.1 79 0 ∧ ∀ b, b < 45 → ∀ i, i < 128 → lb t (87 + b) i = (decide (i < 125) && sk (fun w => e_mn s w c) b i)) := by
  unfold f_Wd_prepare
  refine v_Plw (fun s1 z1 g1 f1 => v_Plw (fun s2 z2 g2 f2 => ?_))
  have hF : v_F wx_W s s2 := fun a j z => ⟨(f2 a j (fun y => z (by unfold wx_W; omega))).trans (f1 a j (fun y => z (by unfold wx_W; omega))), by rw [z2, z1]⟩
  have hm : (fun w => e_mn s2 w c) = (fun w => e_mn s w c) := funext fun w => by
    unfold e_mn
    rw [f2 10 w (by omega), f1 10 w (by omega), f2 11 w (by omega), f1 11 w (by omega)]
  refine yC_pr20 (s0 := s2) (fun t tF t1 tB => v_Pret ⟨v_F_tr hF tF, ?_, ?_, ?_, fun b hb i hi => ?_⟩) 4096 0 s2 (by decide) (by decide) v_F_rf rfl (fun b hb => absurd hb (Nat.not_lt_zero b))
  · rw [t1, f2 79 1 (by omega)]; exact g1
  · rw [t1]; exact g2
  · rw [t1, f2 79 0 (by omega), f1 79 0 (by omega)]
  · rw [tB b hb i hi, hm]
/-- a condition by its number; who is none is met by all -/
def cF (m : Nat → Int32) (f : Int32) (i : Nat) : Bool := if f.toInt < 0 ∨ 45 ≤ f.toInt then true else sk m f.toInt.toNat i
def wW (m : Nat → Int32) (f g : Int32) (i : Nat) : Bool := cF m f i && cF m g i
theorem cF_all {m : Nat → Int32} {f : Int32} (h : f.toInt < 0 ∨ 45 ≤ f.toInt) (i : Nat) : cF m f i = true := if_pos h
theorem cF_in {m : Nat → Int32} {f : Int32} {b : Nat} (h : f.toInt = b) (hb : b < 45) (i : Nat) : cF m f i = sk m b i := by
  unfold cF
  rw [if_neg (by omega), show f.toInt.toNat = b by omega]
theorem sk_eq {m m2 : Nat → Int32} (h : ∀ w, w < 3 → m w = m2 w) {k : Nat} (hk : k < 45) (i : Nat) : sk m k i = sk m2 k i := by
  unfold sk
  rw [h (k / 15) (by omega)]
theorem cF_eq {m m2 : Nat → Int32} (h : ∀ w, w < 3 → m w = m2 w) (f : Int32) (i : Nat) : cF m f i = cF m2 f i := by
  unfold cF
  by_cases c : f.toInt < 0 ∨ 45 ≤ f.toInt
  · rw [if_pos c, if_pos c]
  · rw [if_neg c, if_neg c, sk_eq h (by omega)]
theorem wW_eq {m m2 : Nat → Int32} (h : ∀ w, w < 3 → m w = m2 w) (f g : Int32) : wW m f g = wW m2 f g := funext fun i => by
  unfold wW
  rw [cF_eq h, cF_eq h]
/-- the class has laid its conditions out -/
def wP (u : vS) (m : Nat → Int32) (d e : Int32) (s : vS) : Prop := v_F wx_W u s ∧ (s.1 79 0).toInt = 10 ∧ s.1 79 1 = d ∧ s.1 79 2 = e ∧ (∀ i, i < 128 → lb s 85 i = decide (i < 125)) ∧ ∀ b, b < 45 → ∀ i, i < 128 → lb s (87 + b) i = (decide (i < 125) && sk m b i)
set_option maxRecDepth 100000 in
theorem lb_all0 : ∀ i, i < 128 → (if i < 64 then b6 (-1) i else b6 2305843009213693951 (i - 64)) = decide (i < 125) := by decide +kernel
theorem lb_all {s : vS} (h : j_al s) : ∀ i, i < 128 → lb s 85 i = decide (i < 125) := fun i hi => by
  unfold lb
  rw [h.2.1, h.2.2]
  exact lb_all0 i hi
theorem wP_mk {u : vS} (ha : j_al u) (c d e : Int32) : v_P (f_Wd_prepare c d e u) (fun _ t => wP u (fun w => e_mn u w c) d e t) :=
  v_Pm2 (yC_prepare c d e u) (fun _ t h => ⟨h.1, by rw [h.2.2.2.1]; exact ha.1, h.2.1, h.2.2.1, fun i hi => by rw [lb_E (fun j => (h.1 85 j (by unfold wx_W; omega)).2) i]; exact lb_all ha i hi, h.2.2.2.2⟩)
/-- the cells of the wording at hand -/
def wx_V (a _ : Nat) : Prop := a = 78 ∨ a = 83
theorem wP_E {u s t : vS} {m : Nat → Int32} {d e : Int32} (h : wP u m d e s) (h1 : v_F wx_W s t) (h2 : ∀ a j, (a = 79 ∨ a = 85 ∨ (87 ≤ a ∧ a ≤ 131)) → t.1 a j = s.1 a j ∧ t.2 a j = s.2 a j) : wP u m d e t :=
  ⟨v_F_tr h.1 h1, by rw [(h2 79 0 (by omega)).1]; exact h.2.1, by rw [(h2 79 1 (by omega)).1]; exact h.2.2.1, by rw [(h2 79 2 (by omega)).1]; exact h.2.2.2.1, fun i hi => by rw [lb_E (fun j => (h2 85 j (by omega)).2) i]; exact h.2.2.2.2.1 i hi, fun b hb i hi => by rw [lb_E (fun j => (h2 (87 + b) j (by omega)).2) i]; exact h.2.2.2.2.2 b hb i hi⟩
theorem wx_VW {s t : vS} (h : v_F wx_V s t) : v_F wx_W s t := v_F_im h (fun a j q => by unfold wx_V at q; unfold wx_W; omega)
theorem wP_V {u s t : vS} {m : Nat → Int32} {d e : Int32} (h : wP u m d e s) (hF : v_F wx_V s t) : wP u m d e t := wP_E h (wx_VW hF) (fun a j q => hF a j (fun z => by unfold wx_V at z; omega))
def wS (m : Nat → Int32) (s : vS) (f g : Int32) : Prop := s.1 78 4 = f ∧ s.1 78 5 = g ∧ ∀ i, i < 128 → lb s 83 i = (decide (i < 125) && wW m f g i)
theorem yC_met {u s : vS} {m : Nat → Int32} {d e : Int32} (h : wP u m d e s) (f : Int32) : v_P (f_Wd_metBy f s) (fun r t => t = s ∧ ¬ r = 83 ∧ ∀ i, i < 128 → lb s r i = (decide (i < 125) && cF m f i)) := by
  have hal : (f.toInt < 0 ∨ 45 ≤ f.toInt) → ∀ i, i < 128 → lb s 85 i = (decide (i < 125) && cF m f i) := fun c i hi => by
    rw [h.2.2.2.2.1 i hi, cF_all c, Bool.and_true]
  by_cases c1 : f.toInt < 0
  · unfold f_Wd_metBy
    rw [if_pos c1]
    exact v_Pret ⟨rfl, by decide, hal (Or.inl c1)⟩
  · by_cases c2 : 45 ≤ f.toInt
    · unfold f_Wd_metBy
      rw [if_neg c1, if_pos c2]
      exact v_Pret ⟨rfl, by decide, hal (Or.inr c2)⟩
    · refine v_Pm2 (zq_metIn f (by omega) (by omega) s) ?_
      rintro r t ⟨h1, h2⟩
      refine ⟨h1, by omega, fun i hi => ?_⟩
      rw [h2, cF_in (b := f.toInt.toNat) (by omega) (by omega)]
      exact h.2.2.2.2.2 _ (by omega) i hi
theorem yC_word {u s : vS} {m : Nat → Int32} {d e : Int32} (h : wP u m d e s) {f g : Int32} (hf : s.1 78 4 = f) (hg : s.1 78 5 = g) {Q : Unit → vS → Prop} (hk : ∀ t, wP u m d e t → v_F wx_V s t → wS m t f g → Q () t) : v_P (v_bi (f_Wd_word s) (fun _ s3 => some ((), s3))) Q := by
  refine v_Pbi (P := fun _ t => wP u m d e t ∧ v_F wx_V s t ∧ wS m t f g) ?_ (fun _ t ht => v_Pret (hk t ht.1 ht.2.1 ht.2.2))
  unfold f_Wd_word
  rw [hf]
  refine v_Pbi (yC_met h f) ?_
  rintro r s ⟨rfl, r1, r2⟩
  refine v_Pif (fun _ => ?_) (fun _ => v_Pnone)
  rw [hg]
  refine v_Pbi (yC_met h g) ?_
  rintro q s ⟨rfl, q1, q2⟩
  refine v_Pif (fun _ => ?_) (fun _ => v_Pnone)
  obtain ⟨t, t1, t2, t3, t4⟩ := wb_both (a := 83) (b := r) (c := q) (s := s) r1 q1
  rw [t1, v_bi_some]
  have hF : v_F wx_V s t := fun a j z => ⟨congrFun (congrFun t2 a) j, t3 a j (fun y => z (Or.inr y))⟩
  refine v_Pret ⟨wP_V h hF, hF, by rw [t2]; exact hf, by rw [t2]; exact hg, fun i hi => ?_⟩
  rw [t4, r2 i hi, q2 i hi]
  unfold wW
  cases decide (i < 125) <;> simp
/-! the order of wordings: by keys -/
def off (a : Nat) : Nat := 46 + 44 * a - a * (a - 1) / 2
theorem off_s : ∀ a, a < 44 → off (a + 1) = off a + (44 - a) := by decide +kernel
theorem off_e : ∀ a, a < 44 → off a + (43 - a) < 1036 := by decide +kernel
def kv (x : Nat) : Bool := decide (x ≤ 45) || decide ((x - 46) / 45 < (x - 46) % 45)
def wd_at (f g v : Int32) (x : Nat) : Prop := (g.toInt = -1 ∧ f.toInt + 1 = x ∧ x ≤ 45 ∧ v.toInt = x) ∨ ∃ a b : Nat, f.toInt = a ∧ g.toInt = b ∧ a < b ∧ b ≤ 45 ∧ (b ≤ 44 ∨ a = 44) ∧ x = 46 + 45 * a + b ∧ v.toInt = ((off a + (b - a - 1) : Nat) : Int)
def kf (x : Nat) : Int32 := if x ≤ 45 then Int32.ofNat x + (-1) else Int32.ofNat ((x - 46) / 45)
def kg (x : Nat) : Int32 := if x ≤ 45 then -1 else Int32.ofNat ((x - 46) % 45)
theorem kf_lo {x : Nat} (h : x ≤ 45) : (kf x).toInt = (x : Int) - 1 := by
  have e := v_oi (n := x) (by omega)
  unfold kf
  rw [if_pos h, v_dec (by omega), e]
theorem kf_hi {x : Nat} (h : 46 ≤ x) (h2 : x < 5000) : (kf x).toInt = (((x - 46) / 45 : Nat) : Int) := by
  unfold kf
  rw [if_neg (by omega), v_oi (by omega)]
theorem kg_lo {x : Nat} (h : x ≤ 45) : (kg x).toInt = -1 := by
  unfold kg
  rw [if_pos h]
  rfl
theorem kg_hi {x : Nat} (h : 46 ≤ x) : (kg x).toInt = (((x - 46) % 45 : Nat) : Int) := by
  unfold kg
  rw [if_neg (by omega), v_oi (by omega)]
theorem off_44 : off 44 = 1036 := by decide +kernel
theorem wd_key {f g v : Int32} {x : Nat} (h : wd_at f g v x) (hv : v.toInt < 1036) : f = kf x ∧ g = kg x ∧ kv x = true ∧ x < 2071 := by
  rcases h with ⟨a1, a2, a3, a4⟩ | ⟨a, b, a1, a2, a3, a4, a5, a6, a7⟩
  · refine ⟨Int32.toInt_inj.mp (by rw [kf_lo a3]; omega), Int32.toInt_inj.mp (by rw [kg_lo a3]; exact a1), ?_, by omega⟩
    unfold kv
    rw [decide_eq_true a3, Bool.true_or]
  · have hb : b ≤ 44 := by
      rcases a5 with h | h
      · exact h
      · rw [h, off_44] at a7
        omega
    refine ⟨Int32.toInt_inj.mp (by rw [kf_hi (by omega) (by omega)]; omega), Int32.toInt_inj.mp (by rw [kg_hi (by omega)]; omega), ?_, by omega⟩
    unfold kv
    rw [decide_eq_true (show (x - 46) / 45 < (x - 46) % 45 by omega), Bool.or_true]
theorem wd_end {f g v : Int32} {x : Nat} (h : wd_at f g v x) (hv : 1036 ≤ v.toInt) : 2071 ≤ x := by
  rcases h with ⟨a1, a2, a3, a4⟩ | ⟨a, b, a1, a2, a3, a4, a5, a6, a7⟩
  · omega
  · rcases a5 with h | h
    · have := off_e a (by omega)
      omega
    · omega
theorem wd_0 : wd_at (-1) (-1) 0 0 := Or.inl ⟨rfl, rfl, by decide, rfl⟩
theorem kv_46 : kv 46 = false := by decide
theorem kv_no {a x : Nat} (ha : a ≤ 43) (h1 : 46 + 45 * a + 44 < x) (h2 : x < 46 + 45 * (a + 1) + (a + 2)) : kv x = false := by
  unfold kv
  rw [decide_eq_false (by omega), decide_eq_false (by omega)]
  rfl
/-- the class begins, and goes on to the next -/
theorem yC_begin {u s : vS} {m : Nat → Int32} {d e : Int32} (h : wP u m d e s) : v_P (f_Wd_begin s) (fun _ t => wP u m d e t ∧ v_F wx_V s t ∧ wS m t (-1) (-1)) := by
  unfold f_Wd_begin
  refine v_Plw (fun s1 z1 g1 f1 => v_Plw (fun s2 z2 g2 f2 => ?_))
  have F : v_F wx_V s s2 := fun a j z => ⟨(f2 a j (fun y => z (Or.inl y.1))).trans (f1 a j (fun y => z (Or.inl y.1))), by rw [z2, z1]⟩
  exact yC_word (wP_V h F) ((f2 78 4 (by omega)).trans g1) g2 (fun t t1 t2 t3 => ⟨t1, v_F_tr F t2, t3⟩)
theorem yC_goOn {u s : vS} {m : Nat → Int32} {d e : Int32} (h : wP u m d e s) {f g v : Int32} {x : Nat} (hS : wS m s f g) (hat : wd_at f g v x) (hv0 : 0 ≤ v.toInt) (hv : v.toInt < 1036) : v_P (f_Wd_goOn s) (fun _ t => wP u m d e t ∧ v_F wx_V s t ∧ ∃ f2 g2 x2, wS m t f2 g2 ∧ wd_at f2 g2 (v + 1) x2 ∧ x < x2 ∧ ∀ y, x < y → y < x2 → kv y = false) := by
  obtain ⟨s4, s5, s6⟩ := hS
  have ev := v_inc (x := v) (by omega)
  have V1 : ∀ {p q : vS} {j : Nat}, q.2 = p.2 → (∀ b i, ¬ (b = 78 ∧ i = j) → q.1 b i = p.1 b i) → v_F wx_V p q := fun h1 h2 a j z => ⟨h2 a j (fun y => z (Or.inl y.1)), by rw [h1]⟩
  unfold f_Wd_goOn
  rw [s4, s5]
  rcases hat with ⟨a1, a2, a3, a4⟩ | ⟨a, b, a1, a2, a3, a4, a5, a6, a7⟩
  · rw [if_neg (show ¬ 0 ≤ g.toInt by omega)]
    by_cases c : 44 ≤ f.toInt
    · rw [if_pos c, if_neg (show ¬ 0 ≤ g.toInt by omega)]
      refine v_Plw (fun s1 z1 g1 f1 => v_Plw (fun s2 z2 g2 f2 => ?_))
      have F := v_F_tr (V1 z1 f1) (V1 z2 f2)
      refine yC_word (wP_V h F) ((f2 78 4 (by omega)).trans g1) g2 (fun t t1 t2 t3 => ⟨t1, v_F_tr F t2, 0, 1, 47, t3, Or.inr ⟨0, 1, rfl, rfl, by decide, by decide, Or.inl (by decide), rfl, ?_⟩, by omega, fun y y1 y2 => ?_⟩)
      · rw [show off 0 = 46 by decide]
        omega
      · rw [show y = 46 by omega]
        exact kv_46
    · rw [if_neg c]
      have ef := v_inc (x := f) (by omega)
      refine v_Plw (fun s1 z1 g1 f1 => ?_)
      have F := V1 z1 f1
      exact yC_word (wP_V h F) g1 ((f1 78 5 (by omega)).trans s5) (fun t t1 t2 t3 => ⟨t1, v_F_tr F t2, f + 1, g, x + 1, t3, Or.inl ⟨a1, by omega, by omega, by omega⟩, by omega, fun y y1 y2 => by omega⟩)
  · rw [if_pos (show 0 ≤ g.toInt by omega), if_pos (show 0 ≤ g.toInt by omega)]
    have hb : b ≤ 44 := by
      rcases a5 with h | h
      · exact h
      · rw [h, off_44] at a7
        omega
    by_cases c : 44 ≤ g.toInt
    · rw [if_pos c]
      have ef := v_inc (x := f) (by omega)
      have ef2 := v_inc (x := f + 1) (by omega)
      have ho := off_s a (by omega)
      refine v_Plw (fun s1 z1 g1 f1 => ?_)
      rw [g1]
      refine v_Plw (fun s2 z2 g2 f2 => ?_)
      have F := v_F_tr (V1 z1 f1) (V1 z2 f2)
      refine yC_word (wP_V h F) ((f2 78 4 (by omega)).trans g1) g2 (fun t t1 t2 t3 => ⟨t1, v_F_tr F t2, f + 1, f + 1 + 1, 46 + 45 * (a + 1) + (a + 2), t3, Or.inr ⟨a + 1, a + 2, by omega, by omega, by omega, by omega, by omega, rfl, ?_⟩, by omega, fun y y1 y2 => kv_no (a := a) (by omega) (by omega) y2⟩)
      rw [ho]
      omega
    · rw [if_neg c]
      have eg := v_inc (x := g) (by omega)
      refine v_Plw (fun s1 z1 g1 f1 => ?_)
      have F := V1 z1 f1
      exact yC_word (wP_V h F) ((f1 78 4 (by omega)).trans s4) g1 (fun t t1 t2 t3 => ⟨t1, v_F_tr F t2, f, g + 1, x + 1, t3, Or.inr ⟨a, b + 1, a1, by omega, by omega, by omega, Or.inl (by omega), by omega, by omega⟩, by omega, fun y y1 y2 => by omega⟩)
/-! the laws stay as they are meanwhile -/
theorem wF_x {u s : vS} (h : v_F wx_W u s) : ∀ a j, a < 78 ∨ 132 ≤ a → s.1 a j = u.1 a j ∧ s.2 a j = u.2 a j := fun a j q => h a j (fun z => by unfold wx_W at z; omega)
theorem wF_n {u s : vS} (h : v_F wx_W u s) : nC s = nC u := by
  unfold nC
  rw [(wF_x h 8 1 (by omega)).1]
theorem wF_ok {u s : vS} (h : v_F wx_W u s) (ho : ok_C u) : ok_C s := by
  obtain ⟨⟨h1, h2⟩, h3, h4⟩ := ho
  have e8 := (wF_x h 8 1 (by omega)).1
  refine ⟨⟨by rw [e8]; exact h1, by rw [e8]; exact h2⟩, fun k hk => by rw [(wF_x h (23 + 5 * k) 0 (by omega)).1]; exact h3 k hk, fun k hk q q1 q2 => ?_⟩
  rw [wF_n h] at hk
  have hk10 : k < 10 := by unfold nC at hk; omega
  rw [lb_E (fun j => (wF_x h (27 + 5 * k) j (by omega)).2) q]
  exact h4 k hk q q1 q2
theorem wF_ho {u s : vS} (h : v_F wx_W u s) (ho : ok_C u) (i : Nat) (r : Int) : hoC s i r = hoC u i r := by
  have h10 : nC u ≤ 10 := by have := ho.1.2; unfold nC; omega
  unfold hoC
  rw [wF_n h]
  refine hol_eq (nC u) (fun k hk => ⟨?_, ?_⟩) (fun a b ha hb => ?_)
  · unfold aC
    rw [(wF_x h 8 4 (by omega)).1]
  · exact lb_E (fun j => (wF_x h (27 + 5 * k) j (by omega)).2) i
  · have el : ∀ k, k < 10 → lb s (27 + 5 * k) = lb u (27 + 5 * k) := fun k hk => funext fun i => lb_E (fun j => (wF_x h (27 + 5 * k) j (by omega)).2) i
    unfold ahC
    rw [(wF_x h (23 + 5 * a) 1 (by omega)).1, (wF_x h (23 + 5 * b) 1 (by omega)).1, (wF_x h (23 + 5 * a) 2 (by omega)).1, (wF_x h (23 + 5 * b) 2 (by omega)).1, el a (by omega), el b (by omega)]
theorem wF_sh {u s : vS} (h : v_F wx_W u s) {a N : Nat} {E : Nat → Int32} (ha : 139 ≤ a) (hsh : sh_C u a N E) : sh_C s a N E := sh_CF hsh (wF_x h a 2 (by omega)).1 (fun i => (wF_x h (a + 1) i (by omega)).2)
/-- whether the law of the wording would hold; the verdict then -/
def wh (u : vS) (d e : Int32) (W : Nat → Bool) (i : Nat) (r : Int) : Bool := W i && (match hoC u i r with
  | none => true
  | some b => ahP r d.toInt (u.1 (23 + 5 * b) 1).toInt 10 b e (u.1 (23 + 5 * b) 2) (cnt W 125) (cnt (lb u (27 + 5 * b)) 125))
def vw (u : vS) (d e : Int32) (W : Nat → Bool) (i : Nat) (r : Int) : Int32 := if wh u d e W i r = true then e else vdC u i r
theorem hoC_lt {u : vS} (ho : ok_C u) {i b : Nat} {r : Int} (h : hoC u i r = some b) : b < 10 ∧ b < nC u := by
  have h1 := hol_lt _ _ h
  have h2 := ho.1.2
  unfold nC at h1 ⊢
  omega
theorem yC_would {u s : vS} (ho : ok_C u) {m : Nat → Int32} {d e f g : Int32} (h : wP u m d e s) (hS : wS m s f g) {b c : Int32} {i : Nat} (hb : b.toInt = i) (hi : i < 125) : v_P (f_Wd_wouldHold b ((hoC u i c.toInt).map adC) c s) (fun r t => t = s ∧ (¬ r.toInt = 0 ↔ wh u d e (wW m f g) i c.toInt = true)) := by
  unfold f_Wd_wouldHold wh
  rw [lb_has hb hi, v_bi_some, b01, hS.2.2 i (by omega), decide_eq_true hi, Bool.true_and]
  by_cases hw : wW m f g i = true
  · rw [if_pos hw, hw, Bool.true_and]
    cases hh : hoC u i c.toInt with
    | none =>
      show v_P (some ((1 : Int32), s)) _
      exact v_Pret ⟨rfl, fun _ => rfl, fun _ => by decide⟩
    | some k =>
      obtain ⟨k1, k2⟩ := hoC_lt ho hh
      show v_P (if v_kd (adC k) = 4 then _ else none) _
      refine v_Pif (fun _ => ?_) (fun _ => v_Pnone)
      have x0 := wF_x h.1 (23 + 5 * k) 0 (by omega)
      have x1 := wF_x h.1 (23 + 5 * k) 1 (by omega)
      have x2 := wF_x h.1 (23 + 5 * k) 2 (by omega)
      have xl : lb s (27 + 5 * k) = lb u (27 + 5 * k) := funext fun i => lb_E (fun j => (wF_x h.1 (27 + 5 * k) j (by omega)).2) i
      have ea : adC k + 4 = 27 + 5 * k := by unfold adC; omega
      have ew : cnt (lb s (79 + 4)) 125 = cnt (wW m f g) 125 := cnt_eq 125 (fun j hj => by
        show lb s 83 j = _
        rw [hS.2.2 j (by omega), decide_eq_true hj, Bool.true_and])
      refine v_Pbi (yC_ahead (s := s) (x := 79) (y := adC k) (i := 10) (j := k) h.2.1 ?_ ?_ ?_ c) ?_
      · show (s.1 (23 + 5 * k) 0).toInt = k
        rw [x0.1]
        exact ho.2.1 k k1
      · intro q q1 q2
        show lb s 83 q = false
        rw [hS.2.2 q q2, decide_eq_false (by omega), Bool.false_and]
      · intro q q1 q2
        rw [ea, xl]
        exact ho.2.2 k k2 q q1 q2
      · rintro r t ⟨rfl, hr⟩
        rw [ea, xl, ew, h.2.2.1, h.2.2.2.1] at hr
        replace hr : (¬ r.toInt = 0 ↔ ahP c.toInt d.toInt (t.1 (23 + 5 * k) 1).toInt 10 k e (t.1 (23 + 5 * k) 2) (cnt (wW m f g) 125) (cnt (lb u (27 + 5 * k)) 125) = true) := hr
        rw [x1.1, x2.1] at hr
        by_cases hz : r.toInt = 0
        · rw [if_pos hz]
          exact v_Pret ⟨rfl, fun z => absurd rfl z, fun z => absurd hz (hr.mpr z)⟩
        · rw [if_neg hz]
          exact v_Pret ⟨rfl, fun _ => hr.mp hz, fun _ => by decide⟩
  · rw [if_neg hw, b_ff hw, Bool.false_and]
    exact v_Pret ⟨rfl, fun z => absurd rfl z, fun z => by cases z⟩
/-- the place of a two's case -/
def pV (E : Nat → Int32) (k : Nat) : Nat := (pl_V (E (2 * k))).toInt.toNat
theorem pV_in {N : Nat} {E : Nat → Int32} {k : Nat} (h : tw N E k = true) : pV E k < 125 ∧ (pl_V (E (2 * k))).toInt = pV E k := by
  obtain ⟨i, hi, ei⟩ := pl_in (tw_in h).2.1
  unfold pV
  omega
/-- a row is so with a wording -/
def fitB (N : Nat) (E : Nat → Int32) (V : Nat → Int32) : Bool := (List.range ((N + 1) / 2)).all (fun k => !wr N E V k)
theorem fitB_iff {N : Nat} {E V : Nat → Int32} : fitB N E V = true ↔ ∀ k, k < (N + 1) / 2 → wr N E V k = false := by
  unfold fitB
  rw [List.all_eq_true]
  constructor
  · intro h k hk
    have h1 := h k (List.mem_range.mpr hk)
    cases hx : wr N E V k with
    | false => rfl
    | true => rw [hx] at h1; cases h1
  · intro h k hk
    rw [h k (List.mem_range.mp hk)]
    rfl
theorem fitB_eq {N : Nat} {E V V2 : Nat → Int32} (hV : ∀ i, i < 125 → V i = V2 i) : fitB N E V = fitB N E V2 := by
  unfold fitB
  have e : (fun k => !wr N E V k) = (fun k => !wr N E V2 k) := funext fun k => by rw [wr_eq hV k]
  rw [e]
theorem wr_tw {N : Nat} {E V : Nat → Int32} {k : Nat} (ht : tw N E k = true) : wr N E V k = !decide ((V (pV E k)).toInt = (E (2 * k + 1)).toInt) := by
  unfold wr
  rw [ht, Bool.true_and]
  rfl
theorem wr_t {N : Nat} {E V : Nat → Int32} {k : Nat} (ht : tw N E k = true) (h : (E (2 * k + 1)).toInt = (V (pV E k)).toInt) : wr N E V k = false := by
  rw [wr_tw ht, decide_eq_true h.symm]
  rfl
theorem wr_f {N : Nat} {E V : Nat → Int32} {k : Nat} (ht : tw N E k = true) (h : ¬ (E (2 * k + 1)).toInt = (V (pV E k)).toInt) : wr N E V k = true := by
  rw [wr_tw ht, decide_eq_false (fun z => h z.symm)]
  rfl
/-! the class: does a row fit -/
theorem yC_fitL {u s : vS} (ho : ok_C u) {m : Nat → Int32} {d e f g : Int32} (h : wP u m d e s) (hS : wS m s f g) {a N : Nat} {E : Nat → Int32} (hsh : sh_C s a N E) (htw : ∀ k, k < (N + 1) / 2 → tw N E k = true) (h86 : ∀ k, k < (N + 1) / 2 → s.1 86 k = hoM (hoC u (pV E k) (u.1 8 2).toInt)) : ∀ (n : Nat) (v : Int32), 0 ≤ v.toInt → v.toInt ≤ 30 → (∀ j, j < v.toInt.toNat → wr N E (fun i => vw u d e (wW m f g) i (u.1 8 2).toInt) j = false) → v_P (f_Wd_fits_L2 a (fun s1 => some (1, s1)) n v s) (fun r t => t = s ∧ (¬ r.toInt = 0 ↔ fitB N E (fun i => vw u d e (wW m f g) i (u.1 8 2).toInt) = true))
  | 0, _, _, _, _ => v_Pnone
  | n + 1, v, h0, h1, hj => by
    show v_P (f_Wd_fits_L2b a (fun s1 => some (1, s1)) (f_Wd_fits_L2 a (fun s1 => some (1, s1)) n) v s) _
    unfold f_Wd_fits_L2b
    have hN := hsh.2.1
    obtain ⟨x, x1, x2⟩ := y_twos hsh
    rw [x1, v_bi_some]
    by_cases c : x.toInt ≤ v.toInt
    · rw [if_pos c]
      exact v_Pret ⟨rfl, fun _ => fitB_iff.mpr (fun k hk => hj k (by omega)), fun _ => by decide⟩
    · rw [if_neg c, if_neg (show ¬ 31 ≤ v.toInt by omega)]
      obtain ⟨k, hk⟩ : ∃ k : Nat, v.toInt = k := ⟨v.toInt.toNat, by omega⟩
      have e1 := v_inc (x := v) (by omega)
      have hn0 : v.toInt.toNat = k := by omega
      have hn1 : (v + 1).toInt.toNat = k + 1 := by omega
      have hvn : v.toNatClampNeg = k := by rw [v_nc]; omega
      rw [hn0] at hj
      have hkN : k < (N + 1) / 2 := by omega
      have h2k : 2 * k < N := by omega
      have ht := htw k hkN
      obtain ⟨t1, t2, t3⟩ := tw_in ht
      obtain ⟨i1, ei⟩ := pV_in ht
      have hvi : v_in v 31 := ⟨by omega, by omega⟩
      have e82 : s.1 8 2 = u.1 8 2 := (wF_x h.1 8 2 (by omega)).1
      have hpl : f_Sh_placeOfTwo a v s = some (pl_V (E (2 * k)), s) := by rw [y_placeTwo hsh hk h2k, if_pos t2]
      have hvd : f_Sh_verdictOfTwo a v s = some (E (2 * k + 1), s) := by rw [y_verdTwo hsh hk h2k, if_pos (show (decide (2 * k + 1 < N) && due (E (2 * k + 1))) = true by rw [decide_eq_true t1, t3]; rfl)]
      have hgo : ∀ y : Int32, y = vw u d e (wW m f g) (pV E k) (u.1 8 2).toInt → v_P (if (E (2 * k + 1)).toInt = y.toInt then f_Wd_fits_L2 a (fun s1 => some (1, s1)) n (v + 1) s else some ((0 : Int32), s)) (fun r t => t = s ∧ (¬ r.toInt = 0 ↔ fitB N E (fun i => vw u d e (wW m f g) i (u.1 8 2).toInt) = true)) := fun y hy => by
        by_cases z : (E (2 * k + 1)).toInt = y.toInt
        · rw [if_pos z]
          refine yC_fitL ho h hS hsh htw h86 n (v + 1) (by omega) (by omega) (fun j hj2 => ?_)
          by_cases q : j = k
          · rw [q]
            exact wr_t ht (by rw [z, hy])
          · exact hj j (by omega)
        · rw [if_neg z]
          refine v_Pret ⟨rfl, fun q => absurd rfl q, fun q => ?_⟩
          have h5 := fitB_iff.mp q k hkN
          rw [wr_f ht (by rw [← hy]; exact z)] at h5
          cases h5
      have hW := yC_would ho h hS (c := u.1 8 2) ei i1
      have hV0 : ∀ x : vS, f_Ct_verdictOf none x = some (-2, x) := fun _ => rfl
      have h79 : f_Ct_verdictOf (some 79) s = if v_kd 79 = 4 then some (s.1 79 2, s) else none := rfl
      have hk79 : v_kd 79 = 4 := by decide +kernel
      rw [if_pos hk79, h.2.2.2.1] at h79
      have h86k := h86 k hkN
      rw [if_pos hvi, if_pos hvi, hvn, h86k, hpl]
      cases hh : hoC u (pV E k) (u.1 8 2).toInt with
      | none =>
        rw [hh] at hW
        rw [if_neg (show ¬ 0 ≤ (hoM none).toInt by decide), v_bi_some, e82]
        refine v_Pbi hW ?_
        rintro r s2 ⟨rfl, hr⟩
        by_cases hz : r.toInt = 0
        · rw [if_pos hz, hvd, v_bi_some, hV0, v_bi_some]
          refine hgo (-2) ?_
          unfold vw vdC
          rw [if_neg (fun z => absurd hz (hr.mpr z)), hh]
        · rw [if_neg hz, hvd, v_bi_some, h79, v_bi_some]
          refine hgo e ?_
          unfold vw
          rw [if_pos (hr.mp hz)]
      | some b =>
        rw [hh] at hW
        obtain ⟨b1, b2⟩ := hoC_lt ho hh
        have eb : (hoM (some b)).toInt = b := v_oi (n := b) (by omega)
        rw [if_pos (show 0 ≤ (hoM (some b)).toInt by omega), jz_at (hoM (some b)) s ⟨by omega, by omega⟩, v_bi_some, show (hoM (some b)).toNatClampNeg = b by rw [v_nc]; omega]
        refine v_Pif (fun h4 => ?_) (fun _ => v_Pnone)
        rw [hpl, v_bi_some, e82]
        refine v_Pbi hW ?_
        rintro r s2 ⟨rfl, hr⟩
        have hbv : f_Ct_verdictOf (some (23 + 5 * b)) s2 = some (u.1 (23 + 5 * b) 2, s2) := by
          rw [← (wF_x h.1 (23 + 5 * b) 2 (by omega)).1]
          exact if_pos h4
        by_cases hz : r.toInt = 0
        · rw [if_pos hz, hvd, v_bi_some, hbv, v_bi_some]
          refine hgo _ ?_
          unfold vw vdC
          rw [if_neg (fun z => absurd hz (hr.mpr z)), hh]
        · rw [if_neg hz, hvd, v_bi_some, h79, v_bi_some]
          refine hgo e ?_
          unfold vw
          rw [if_pos (hr.mp hz)]
theorem yC_fits {u s : vS} (ho : ok_C u) {m : Nat → Int32} {d e f g : Int32} (h : wP u m d e s) (hS : wS m s f g) {a N : Nat} {E : Nat → Int32} (hsh : sh_C s a N E) (htw : ∀ k, k < (N + 1) / 2 → tw N E k = true) (h86 : ∀ k, k < (N + 1) / 2 → s.1 86 k = hoM (hoC u (pV E k) (u.1 8 2).toInt)) : v_P (f_Wd_fits a s) (fun r t => t = s ∧ (¬ r.toInt = 0 ↔ fitB N E (fun i => vw u d e (wW m f g) i (u.1 8 2).toInt) = true)) := by
  unfold f_Wd_fits
  exact yC_fitL ho h hS hsh htw h86 4096 0 (by decide) (by decide) (fun j hj => absurd hj (Nat.not_lt_zero j))
/-! the class: write -/
def wk (N : Nat) (E : Nat → Int32) (VV : (Nat → Bool) → Nat → Int32) (m : Nat → Int32) (y : Nat) : Bool := kv y && fitB N E (VV (wW m (kf y) (kg y)))
def wn (o : Option Nat) : Int := match o with
  | none => -2
  | some x => if x ≤ 45 then 100 * (x : Int) else 100 * (((x - 46) / 45 : Nat) + 1 : Int) + ((x - 46) % 45 : Nat) + 1
abbrev VVC (u : vS) (d e : Int32) : (Nat → Bool) → Nat → Int32 := fun W i => vw u d e W i (u.1 8 2).toInt
theorem wk_no {N : Nat} {E : Nat → Int32} {VV : (Nat → Bool) → Nat → Int32} {m : Nat → Int32} {x x2 : Nat} (hlo : ∀ y, y < x → wk N E VV m y = false) (hx : wk N E VV m x = false) (hk : ∀ y, x < y → y < x2 → kv y = false) : ∀ y, y < x2 → wk N E VV m y = false := fun y hy => by
  rcases Nat.lt_trichotomy y x with q | q | q
  · exact hlo y q
  · rw [q]; exact hx
  · unfold wk
    rw [hk y q hy, Bool.false_and]
theorem yC_ff66 {u : vS} (ho : ok_C u) {m : Nat → Int32} {d e : Int32} {a N : Nat} {E : Nat → Int32} (ha : 139 ≤ a) (hsh : sh_C u a N E) (htw : ∀ k, k < (N + 1) / 2 → tw N E k = true) : ∀ (n : Nat) (v : Int32) (s : vS) (f g : Int32) (x : Nat), wP u m d e s → wS m s f g → (∀ k, k < (N + 1) / 2 → s.1 86 k = hoM (hoC u (pV E k) (u.1 8 2).toInt)) → wd_at f g v x → 0 ≤ v.toInt → v.toInt ≤ 1036 → (∀ y, y < x → wk N E (VVC u d e) m y = false) → v_P (f_Wd_firstFitting_L66 a (fun s3 => some ((-2), s3)) n v s) (fun r _ => ∃ o, FW (wk N E (VVC u d e) m) 2071 o ∧ r.toInt = wn o)
  | 0, _, _, _, _, _, _, _, _, _, _, _, _ => v_Pnone
  | n + 1, v, s, f, g, x, h, hS, h86, hat, h0, h1, hlo => by
    show v_P (f_Wd_firstFitting_L66b a (fun s3 => some ((-2), s3)) (f_Wd_firstFitting_L66 a (fun s3 => some ((-2), s3)) n) v s) _
    unfold f_Wd_firstFitting_L66b
    by_cases c : 1036 ≤ v.toInt
    · rw [if_pos c]
      have hx := wd_end hat c
      exact v_Pret ⟨none, fun y hy => hlo y (by omega), rfl⟩
    · rw [if_neg c]
      have e1 := v_inc (x := v) (by omega)
      obtain ⟨k1, k2, k3, k4⟩ := wd_key hat (by omega)
      refine v_Pbi (yC_fits ho h hS (wF_sh h.1 ha hsh) htw h86) ?_
      rintro r s ⟨rfl, hr⟩
      by_cases hz : r.toInt = 0
      · rw [if_pos hz]
        have hno : wk N E (VVC u d e) m x = false := by
          unfold wk
          rw [← k1, ← k2, b_ff (fun z => absurd hz (hr.mpr z)), Bool.and_false]
        refine v_Pbi (yC_goOn h hS hat h0 (by omega)) ?_
        rintro _ t ⟨t1, tF, f2, g2, x2, t2, t3, t4, t5⟩
        exact yC_ff66 ho ha hsh htw n (v + 1) t f2 g2 x2 t1 t2 (fun k hk => by rw [(tF 86 k (by unfold wx_V; omega)).1]; exact h86 k hk) t3 (by omega) (by omega) (wk_no hlo hno t5)
      · rw [if_neg hz]
        have hyes : wk N E (VVC u d e) m x = true := by
          unfold wk
          rw [k3, ← k1, ← k2, hr.mp hz, Bool.true_and]
        refine v_Pbi (P := fun r _ => r.toInt = wn (some x)) ?_ (fun r t hr => v_Pret ⟨some x, ⟨k4, hyes, hlo⟩, hr⟩)
        unfold f_Wd_number
        refine v_Pret ?_
        rw [hS.1, hS.2.1]
        unfold wn
        rcases hat with ⟨a1, a2, a3, a4⟩ | ⟨a, b, a1, a2, a3, a4, a5, a6, a7⟩
        · have ef := v_inc (x := f) (by omega)
          have em : ((100 : Int32) * (f + 1)).toInt = 100 * (f.toInt + 1) := by
            rw [i32_mul (x := 100) (show -2 ^ 31 ≤ (100 : Int) * (f + 1).toInt by omega) (show (100 : Int) * (f + 1).toInt < 2 ^ 31 by omega), ef]
            rfl
          have e2 : ((100 : Int32) * (f + 1) + g).toInt = 100 * (f.toInt + 1) + g.toInt := by rw [i32_add (by omega) (by omega), em]
          dsimp only
          rw [if_pos a3, v_inc (by omega), e2]
          omega
        · have ef := v_inc (x := f) (by omega)
          have em : ((100 : Int32) * (f + 1)).toInt = 100 * (f.toInt + 1) := by
            rw [i32_mul (x := 100) (show -2 ^ 31 ≤ (100 : Int) * (f + 1).toInt by omega) (show (100 : Int) * (f + 1).toInt < 2 ^ 31 by omega), ef]
            rfl
          have e2 : ((100 : Int32) * (f + 1) + g).toInt = 100 * (f.toInt + 1) + g.toInt := by rw [i32_add (by omega) (by omega), em]
          dsimp only
          rw [if_neg (by omega), v_inc (by omega), e2]
          omega
theorem yC_ff2 {u : vS} (ho : ok_C u) {m : Nat → Int32} {d e : Int32} {a N : Nat} {E : Nat → Int32} (ha : 139 ≤ a) (hsh : sh_C u a N E) (htw : ∀ k, k < (N + 1) / 2 → tw N E k = true) {K : vS → Option (Int32 × vS)} {Q : Int32 → vS → Prop} (hK : ∀ t, wP u m d e t → (∀ k, k < (N + 1) / 2 → t.1 86 k = hoM (hoC u (pV E k) (u.1 8 2).toInt)) → v_P (K t) Q) : ∀ (n : Nat) (v : Int32) (s : vS), 0 ≤ v.toInt → v.toInt ≤ 30 → wP u m d e s → (∀ k, k < v.toInt.toNat → s.1 86 k = hoM (hoC u (pV E k) (u.1 8 2).toInt)) → v_P (f_Wd_firstFitting_L2 a K n v s) Q
  | 0, _, _, _, _, _, _ => v_Pnone
  | n + 1, v, s, h0, h1, h, hB => by
    show v_P (f_Wd_firstFitting_L2b a K (f_Wd_firstFitting_L2 a K n) v s) Q
    unfold f_Wd_firstFitting_L2b
    have hsh2 := wF_sh h.1 ha hsh
    have hN := hsh.2.1
    obtain ⟨x, x1, x2⟩ := y_twos hsh2
    rw [x1, v_bi_some]
    by_cases c : x.toInt ≤ v.toInt
    · rw [if_pos c]
      exact hK s h (fun k hk => hB k (by omega))
    · rw [if_neg c, if_neg (show ¬ 31 ≤ v.toInt by omega)]
      obtain ⟨k, hk⟩ : ∃ k : Nat, v.toInt = k := ⟨v.toInt.toNat, by omega⟩
      have e1 := v_inc (x := v) (by omega)
      have hn0 : v.toInt.toNat = k := by omega
      have hn1 : (v + 1).toInt.toNat = k + 1 := by omega
      have hvn : v.toNatClampNeg = k := by rw [v_nc]; omega
      rw [hn0] at hB
      have hkN : k < (N + 1) / 2 := by omega
      have h2k : 2 * k < N := by omega
      have ht := htw k hkN
      obtain ⟨i1, ei⟩ := pV_in ht
      have hvi : v_in v 31 := ⟨by omega, by omega⟩
      have e82 : s.1 8 2 = u.1 8 2 := (wF_x h.1 8 2 (by omega)).1
      have hos := wF_ok h.1 ho
      rw [y_placeTwo hsh2 hk h2k, if_pos (tw_in ht).2.1, v_bi_some]
      refine v_Pbi (yC_holder hos.1 hos.2.1 hos.2.2 ei i1) ?_
      rintro o s ⟨rfl, hoo⟩
      rw [wF_ho h.1 ho, e82] at hoo
      have hgo : ∀ y, y = hoM (hoC u (pV E k) (u.1 8 2).toInt) → v_P (v_let (v_w1 s 86 (Int32.toNatClampNeg v) y) (fun s2 => f_Wd_firstFitting_L2 a K n (v + 1) s2)) Q := fun y hy => by
        refine v_Plw (fun t z1 g1 f1 => ?_)
        rw [hvn] at g1 f1
        refine yC_ff2 ho ha hsh htw hK n (v + 1) t (by omega) (by omega) (wP_E h (fun a j z => ⟨f1 a j (fun y => z (by unfold wx_W; omega)), by rw [z1]⟩) (fun a j q => ⟨f1 a j (by omega), by rw [z1]⟩)) (fun j hj => ?_)
        by_cases q : j = k
        · rw [q, g1, hy]
        · rw [f1 86 j (fun y => q y.2)]
          exact hB j (by omega)
      cases hh : hoC u (pV E k) (u.1 8 2).toInt with
      | none =>
        rw [hh] at hoo
        refine v_Pno hoo ?_
        rw [if_pos hvi]
        exact hgo (-1) (by rw [hh]; rfl)
      | some b =>
        rw [hh] at hoo
        obtain ⟨b1, b2⟩ := hoC_lt ho hh
        refine v_Pos hoo (v_Pif (fun _ => ?_) (fun _ => v_Pnone))
        rw [if_pos hvi]
        refine hgo _ ?_
        rw [hh]
        show s.1 (23 + 5 * b) 0 = Int32.ofNat b
        exact v_ofn (by rw [(wF_x h.1 (23 + 5 * b) 0 (by omega)).1]; exact ho.2.1 b b1)
theorem yC_firstFitting {u s : vS} (ho : ok_C u) {m : Nat → Int32} {d e : Int32} {a N : Nat} {E : Nat → Int32} (ha : 139 ≤ a) (hsh : sh_C u a N E) (htw : ∀ k, k < (N + 1) / 2 → tw N E k = true) (h : wP u m d e s) : v_P (f_Wd_firstFitting a s) (fun r _ => ∃ o, FW (wk N E (VVC u d e) m) 2071 o ∧ r.toInt = wn o) := by
  unfold f_Wd_firstFitting
  refine yC_ff2 (m := m) (d := d) (e := e) ho ha hsh htw (fun t t1 t2 => ?_) 4096 0 s (by decide) (by decide) h (fun k hk => absurd hk (Nat.not_lt_zero k))
  refine v_Pbi (yC_begin t1) ?_
  rintro _ w ⟨w1, wF, w2⟩
  exact yC_ff66 ho ha hsh htw 4096 0 w (-1) (-1) 0 w1 w2 (fun k hk => by rw [(wF 86 k (by unfold wx_V; omega)).1]; exact t2 k hk) wd_0 (by decide) (by decide) (fun y hy => absurd hy (Nat.not_lt_zero y))
/-! the reference: wordings -/
theorem yM_isSo {t : vS} {b c : Int32} {i : Nat} (hb : -1 ≤ b.toInt ∧ b.toInt < 45) (hc : c = Int32.ofNat i) : f_Md_isSo b c t = some (if cF (e_mnM t) b i = true then 1 else 0, t) := by
  by_cases h : 0 ≤ b.toInt
  · obtain ⟨k, hk⟩ : ∃ k : Nat, b.toInt = k := ⟨b.toInt.toNat, by omega⟩
    unfold f_Md_isSo
    rw [if_pos h, y_mnM (w := k / 15) (k_15 hk) (by omega) t, v_bi_some, y_wordInM, v_bi_some, cF_in hk (by omega)]
    refine (y_compares (e_dig c (e_mnM t (k / 15))) ((b / (5 : Int32)) - (b / (5 : Int32)) / (3 : Int32) * (3 : Int32)) (b - b / (5 : Int32) * (5 : Int32)) t).trans ?_
    unfold sk
    rw [← v_ofn hk, hc]
  · unfold f_Md_isSo
    rw [if_neg h, cF_all (Or.inl (by omega)), if_pos rfl]
/-- the reference, but for the wording at hand -/
def mV (w s : vS) : Prop := (∀ a j, ¬ ((a = 171 ∧ 1250 ≤ j) ∨ (a = 172 ∧ j = 10)) → s.1 a j = w.1 a j) ∧ s.2 = w.2
theorem mV_rf {w : vS} : mV w w := ⟨fun _ _ _ => rfl, rfl⟩
theorem mV_tr {w s t : vS} (h1 : mV w s) (h2 : mV s t) : mV w t := ⟨fun a j q => (h2.1 a j q).trans (h1.1 a j q), h2.2.trans h1.2⟩
theorem mV_mn {w s : vS} (h : mV w s) : e_mnM s = e_mnM w := funext fun k => by
  unfold e_mnM
  rw [h.1 163 k (by omega), h.1 164 k (by omega), h.1 151 19 (by omega)]
theorem cnt_n {p : Nat → Bool} {n : Nat} (h : p n = false) : cnt p (n + 1) = cnt p n := by
  rw [cnt_S, h]
  rfl
theorem cnt_y {p : Nat → Bool} {n : Nat} (h : p n = true) : cnt p (n + 1) = cnt p n + 1 := by
  rw [cnt_S, h]
  rfl
/-- the wording W is at hand -/
def mS (W : Nat → Bool) (t : vS) : Prop := (∀ i, i < 125 → t.1 171 (1250 + i) = if W i = true then 1 else 0) ∧ t.1 172 10 = Int32.ofNat (cnt W 125)
theorem yM_fwL {s0 : vS} {b c : Int32} (hb : -1 ≤ b.toInt ∧ b.toInt < 45) (hc : -1 ≤ c.toInt ∧ c.toInt < 45) {k : vS → Option (Unit × vS)} {Q : Unit → vS → Prop} (hk : ∀ t, mV s0 t → mS (wW (e_mnM s0) b c) t → v_P (k t) Q) : ∀ (n : Nat) (v : Int32) (s : vS), 0 ≤ v.toInt → v.toInt ≤ 125 → mV s0 s → (∀ i : Nat, (i : Int) < v.toInt → s.1 171 (1250 + i) = if wW (e_mnM s0) b c i = true then 1 else 0) → s.1 172 10 = Int32.ofNat (cnt (wW (e_mnM s0) b c) v.toInt.toNat) → v_P (f_Md_findWording_L10 b c k n v s) Q
  | 0, _, _, _, _, _, _, _ => v_Pnone
  | n + 1, v, s, h0, h1, hV, hB, hC => by
    show v_P (f_Md_findWording_L10b b c k (f_Md_findWording_L10 b c k n) v s) Q
    unfold f_Md_findWording_L10b
    by_cases q : 125 ≤ v.toInt
    · rw [if_pos q]
      rw [show v.toInt.toNat = 125 by omega] at hC
      exact hk s hV ⟨fun i hi => hB i (by omega), hC⟩
    · rw [if_neg q]
      obtain ⟨i, hi⟩ : ∃ i : Nat, v.toInt = i := ⟨v.toInt.toNat, by omega⟩
      have e1 := v_inc (x := v) (by omega)
      have hvo := v_ofn hi
      have hn0 : v.toInt.toNat = i := by omega
      have hn1 : (v + 1).toInt.toNat = i + 1 := by omega
      rw [hn0] at hC
      have em := m_1250 (v := v) ⟨by omega, by omega⟩
      have hin : v_in ((1250 : Int32) + v) 1375 := ⟨by omega, by omega⟩
      have hnc : ((1250 : Int32) + v).toNatClampNeg = 1250 + i := by rw [v_nc]; omega
      have h0n : vp_nar .boolean (0 : Int32) = 0 := v_bool (Or.inl rfl)
      have h1n : vp_nar .boolean (1 : Int32) = 1 := v_bool (Or.inr rfl)
      have hno : wW (e_mnM s0) b c i = false → v_P (v_let (v_w1 s 171 (1250 + i) 0) (fun s2 => f_Md_findWording_L10 b c k n (v + 1) s2)) Q := fun z => by
        refine v_Plw (fun t z1 g1 f1 => ?_)
        refine yM_fwL hb hc hk n (v + 1) t (by omega) (by omega) (mV_tr hV ⟨fun a j y => f1 a j (fun z => y (by omega)), z1⟩) (fun j hj => ?_) ?_
        · by_cases y : j = i
          · rw [y, g1, z, if_neg (by decide)]
          · rw [f1 171 _ (by omega)]
            exact hB j (by omega)
        · rw [f1 172 10 (by omega), hn1, cnt_n z, hC]
      rw [yM_isSo hb hvo, v_bi_some, b01, if_pos hin, hnc, h0n, h1n, mV_mn hV]
      by_cases y1 : cF (e_mnM s0) b i = true
      · rw [if_pos y1, yM_isSo hc hvo, v_bi_some, b01, mV_mn hV]
        by_cases y2 : cF (e_mnM s0) c i = true
        · have z : wW (e_mnM s0) b c i = true := by unfold wW; rw [y1, y2]; rfl
          rw [if_pos y2, if_pos hin]
          refine v_Plw (fun t z1 g1 f1 => ?_)
          refine v_Plw (fun t2 z2 g2 f2 => ?_)
          refine yM_fwL hb hc hk n (v + 1) t2 (by omega) (by omega) (mV_tr hV ⟨fun a j y => (f2 a j (fun z => y (by omega))).trans (f1 a j (fun z => y (by omega))), z2.trans z1⟩) (fun j hj => ?_) ?_
          · rw [f2 171 _ (by omega)]
            by_cases y : j = i
            · rw [y, g1, z, if_pos rfl]
            · rw [f1 171 _ (by omega)]
              exact hB j (by omega)
          · rw [g2, f1 172 10 (by omega), hC, v_on1, hn1, cnt_y z]
        · rw [if_neg y2, if_pos hin]
          exact hno (by unfold wW; rw [b_ff y2, Bool.and_false])
      · rw [if_neg y1]
        exact hno (by unfold wW; rw [b_ff y1, Bool.false_and])
theorem yM_fw {s : vS} {b c : Int32} (hb : -1 ≤ b.toInt ∧ b.toInt < 45) (hc : -1 ≤ c.toInt ∧ c.toInt < 45) : v_P (f_Md_findWording b c s) (fun _ t => mV s t ∧ mS (wW (e_mnM s) b c) t) := by
  unfold f_Md_findWording
  refine v_Plw (fun s1 z1 g1 f1 => ?_)
  have h1 : mV s s1 := ⟨fun a j y => f1 a j (fun z => y (by omega)), z1⟩
  rw [← mV_mn h1]
  exact yM_fwL (s0 := s1) hb hc (fun t t1 t2 => v_Pret ⟨mV_tr h1 t1, t2⟩) 4096 0 s1 (by decide) (by decide) mV_rf (fun i hi => absurd hi (by show ¬ (i : Int) < 0; omega)) g1
theorem mV_n {w s : vS} (h : mV w s) : nM s = nM w := by
  unfold nM
  rw [h.1 151 14 (by omega)]
theorem mV_ok {w s : vS} (h : mV w s) (ho : ok_M w) : ok_M s := by
  obtain ⟨h1, h2, h3⟩ := ho
  have e := h.1 151 14 (by omega)
  refine ⟨by rw [e]; exact h1, by rw [h.1 151 31 (by omega)]; exact h2, fun k hk => ?_⟩
  rw [mV_n h] at hk
  have hk10 : k < 10 := by unfold nM at hk; omega
  rw [h.1 160 k (by omega), h.1 172 k (by omega)]
  exact h3 k hk
theorem mV_ho {w s : vS} (h : mV w s) (ho : ok_M w) {i : Nat} (hi : i < 125) (r : Int) : hoR s i r = hoR w i r := by
  have h10 : nM w ≤ 10 := by have := ho.1.2; unfold nM; omega
  unfold hoR
  rw [mV_n h]
  refine hol_eq (nM w) (fun k hk => ⟨?_, ?_⟩) (fun a b ha hb => ?_)
  · unfold aM
    rw [h.1 170 k (by omega)]
  · unfold pM
    rw [h.1 171 (125 * k + i) (by omega)]
  · unfold ahM
    rw [h.1 160 a (by omega), h.1 160 b (by omega), h.1 161 a (by omega), h.1 161 b (by omega), h.1 172 a (by omega), h.1 172 b (by omega)]
def whM (w : vS) (W : Nat → Bool) (i : Nat) (r : Int) : Bool := W i && (match hoR w i r with
  | none => true
  | some b => ahP r (w.1 160 10).toInt (w.1 160 b).toInt 10 b (w.1 161 10) (w.1 161 b) (cnt W 125) (w.1 172 b).toInt.toNat)
def vwM (w : vS) (W : Nat → Bool) (i : Nat) (r : Int) : Int32 := if whM w W i r = true then w.1 161 10 else vdM w i r
def d10 (w : vS) : Prop := 0 ≤ (w.1 160 10).toInt ∧ (w.1 160 10).toInt ≤ 99
theorem yM_vw {w t : vS} (ho : ok_M w) (hd : d10 w) (h : mV w t) {W : Nat → Bool} (hS : mS W t) {b : Int32} {i : Nat} (hb : b.toInt = i) (hi : i < 125) : v_P (f_Md_verdictWith b t) (fun r u => u = t ∧ r = vwM w W i (w.1 151 18).toInt) := by
  have hot := mV_ok h ho
  have e18 : t.1 151 18 = w.1 151 18 := h.1 _ _ (by omega)
  have em := m_1250 (v := b) ⟨by omega, by omega⟩
  have hin : v_in ((1250 : Int32) + b) 1375 := ⟨by omega, by omega⟩
  have hnc : ((1250 : Int32) + b).toNatClampNeg = 1250 + i := by rw [v_nc]; omega
  have hw10 : t.1 161 10 = w.1 161 10 := h.1 _ _ (by omega)
  unfold f_Md_verdictWith
  rw [e18]
  refine v_Pbi (yM_holder hot.1 hot.2 hb hi) ?_
  rintro o t ⟨rfl, hoo⟩
  rw [mV_ho h ho hi] at hoo
  rw [if_pos hin, hnc, hS.1 i hi, hw10, e18, b01]
  unfold vwM whM vdM
  cases hh : hoR w i (w.1 151 18).toInt with
  | none =>
    rw [hh] at hoo
    have eo : o.toInt = -1 := by rw [hoo]; rfl
    by_cases z : W i = true
    · rw [if_pos z, if_pos (show o.toInt < 0 by omega)]
      exact v_Pret ⟨rfl, (if_pos (Bool.and_eq_true_iff.mpr ⟨z, rfl⟩)).symm⟩
    · rw [if_neg z, if_neg (show ¬ 0 ≤ o.toInt by omega)]
      exact v_Pret ⟨rfl, (if_neg (fun y => z (Bool.and_eq_true_iff.mp y).1)).symm⟩
  | some k =>
    rw [hh] at hoo
    have hk := hol_lt _ _ hh
    have h10 := ho.1.2
    have hk10 : k < 10 := by unfold nM at hk; omega
    have eo : o.toInt = k := by rw [hoo]; exact v_oi (n := k) (by omega)
    have eon : o.toNatClampNeg = k := by rw [v_nc]; omega
    have hi11 : v_in o 11 := ⟨by omega, by omega⟩
    have hl := h.1 161 k (by omega)
    have hdk := ho.2.2 k hk
    by_cases z : W i = true
    · rw [if_pos z, if_neg (show ¬ o.toInt < 0 by omega)]
      have hA := yM_ahead (t := t) hot.2.1 (b := 10) (c := o) (i := 10) (j := k) (p := cnt W 125) (q := (w.1 172 k).toInt.toNat) rfl eo (by decide) (by omega) (by rw [h.1 160 10 (by omega)]; exact hd) (by rw [h.1 160 k (by omega)]; exact hdk.1) (by rw [hS.2, v_oi (by have := cnt_le (p := W) 125; omega)]) (by rw [h.1 172 k (by omega)]; omega) (w.1 151 18)
      rw [h.1 160 10 (by omega), h.1 160 k (by omega), h.1 161 10 (by omega), hl] at hA
      refine v_Pbi hA ?_
      rintro r t2 ⟨rfl, hr⟩
      by_cases hz : r.toInt = 0
      · rw [if_pos hz, if_pos (show 0 ≤ o.toInt by omega), if_pos hi11, eon, hl]
        exact v_Pret ⟨rfl, (if_neg (fun y => absurd hz (hr.mpr (Bool.and_eq_true_iff.mp y).2))).symm⟩
      · rw [if_neg hz, hw10]
        exact v_Pret ⟨rfl, (if_pos (Bool.and_eq_true_iff.mpr ⟨z, hr.mp hz⟩)).symm⟩
    · rw [if_neg z, if_pos (show 0 ≤ o.toInt by omega), if_pos hi11, eon, hl]
      exact v_Pret ⟨rfl, (if_neg (fun y => z (Bool.and_eq_true_iff.mp y).1)).symm⟩
theorem yM_rowL {w t : vS} (ho : ok_M w) (hd : d10 w) (h : mV w t) {W : Nat → Bool} (hS : mS W t) {b : Int32} {N : Nat} {E : Nat → Int32} (hsh : sh_M t b N E) : ∀ (n : Nat) (v : Int32), 0 ≤ v.toInt → v.toInt ≤ 30 → (∀ j, j < v.toInt.toNat → wr N E (fun i => vwM w W i (w.1 151 18).toInt) j = false) → v_P (f_Md_isRowSo_L2 b (fun s1 => some (0, s1)) (fun s2 => some (1, s2)) n v t) (fun r u => u = t ∧ (¬ r.toInt = 0 ↔ fitB N E (fun i => vwM w W i (w.1 151 18).toInt) = true))
  | 0, _, _, _, _ => v_Pnone
  | n + 1, v, h0, h1, hj => by
    show v_P (f_Md_isRowSo_L2b b (fun s1 => some (0, s1)) (fun s2 => some (1, s2)) (f_Md_isRowSo_L2 b (fun s1 => some (0, s1)) (fun s2 => some (1, s2)) n) v t) _
    unfold f_Md_isRowSo_L2b
    have hN := hsh.2.2.1
    have hb := hsh.1
    obtain ⟨k, hk⟩ : ∃ k : Nat, v.toInt = k := ⟨v.toInt.toNat, by omega⟩
    have e2 := (v_21 hk (by omega)).1
    have hn0 : v.toInt.toNat = k := by omega
    rw [hn0] at hj
    rw [if_pos (show v_in b 6 from ⟨hb.1, by omega⟩), v_nc]
    by_cases c : (t.1 182 b.toInt.toNat).toInt ≤ ((2 : Int32) * v).toInt
    · rw [if_pos c]
      rw [e2, hsh.2.1] at c
      exact v_Pret ⟨rfl, fun _ => fitB_iff.mpr (fun j hj2 => hj j (by omega)), fun _ => by decide⟩
    · rw [if_neg c]
      rw [e2, hsh.2.1] at c
      have e1 := v_inc (x := v) (by omega)
      have h2k : 2 * k < N := by omega
      have hkN : k < (N + 1) / 2 := by omega
      have hbad : wr N E (fun i => vwM w W i (w.1 151 18).toInt) k = true → v_P (some ((0 : Int32), t)) (fun r u => u = t ∧ (¬ r.toInt = 0 ↔ fitB N E (fun i => vwM w W i (w.1 151 18).toInt) = true)) := fun q => v_Pret ⟨rfl, fun z => absurd rfl z, fun z => by
        have h5 := fitB_iff.mp z k hkN
        rw [q] at h5
        cases h5⟩
      rw [yM_isTwo hsh hk h2k, v_bi_some, b01]
      by_cases ht : tw N E k = true
      · obtain ⟨t1, t2, t3⟩ := tw_in ht
        obtain ⟨i1, ei⟩ := pV_in ht
        rw [if_pos ht, yM_caseAt hsh hk h2k, v_bi_some, y_caseOf, v_bi_some]
        refine v_Pbi (yM_vw ho hd h hS ei i1) ?_
        rintro r t ⟨rfl, rfl⟩
        rw [yM_dueAt hsh hk t1, v_bi_some]
        by_cases z : (vwM w W (pV E k) (w.1 151 18).toInt).toInt = (E (2 * k + 1)).toInt
        · rw [if_pos z]
          refine yM_rowL ho hd h hS hsh n (v + 1) (by omega) (by omega) (fun j hj2 => ?_)
          by_cases q : j = k
          · rw [q]
            exact wr_t ht z.symm
          · exact hj j (by omega)
        · rw [if_neg z]
          exact hbad (wr_f ht (fun y => z y.symm))
      · rw [if_neg ht]
        refine hbad ?_
        unfold wr
        rw [b_ff ht, Bool.false_and]
        rfl
theorem yM_rowSo {w t : vS} (ho : ok_M w) (hd : d10 w) (h : mV w t) {W : Nat → Bool} (hS : mS W t) {b : Int32} {N : Nat} {E : Nat → Int32} (hsh : sh_M t b N E) : v_P (f_Md_isRowSo b t) (fun r u => u = t ∧ (¬ r.toInt = 0 ↔ fitB N E (fun i => vwM w W i (w.1 151 18).toInt) = true)) := by
  unfold f_Md_isRowSo
  exact yM_rowL ho hd h hS hsh 4096 0 (by decide) (by decide) (fun j hj => absurd hj (Nat.not_lt_zero j))
abbrev VVM (w : vS) : (Nat → Bool) → Nat → Int32 := fun W i => vwM w W i (w.1 151 18).toInt
theorem mV_sh {w s : vS} (h : mV w s) {b : Int32} {N : Nat} {E : Nat → Int32} (hsh : sh_M w b N E) : sh_M s b N E := sh_MF hsh (funext fun j => h.1 182 j (by omega)) h.2
/-- one wording: whether the row is so -/
theorem yM_one {w s : vS} (ho : ok_M w) (hd : d10 w) (h : mV w s) {b : Int32} {N : Nat} {E : Nat → Int32} (hsh : sh_M w b N E) {p q : Int32} (hp : -1 ≤ p.toInt ∧ p.toInt < 45) (hq : -1 ≤ q.toInt ∧ q.toInt < 45) {x : Nat} (hx : p = kf x ∧ q = kg x ∧ kv x = true) {k : Int32 → vS → Option (Int32 × vS)} {Q : Int32 → vS → Prop} (hk : ∀ r t, mV w t → (¬ r.toInt = 0 ↔ wk N E (VVM w) (e_mnM w) x = true) → v_P (k r t) Q) : v_P (v_bi (f_Md_findWording p q s) (fun _ s1 => v_bi (f_Md_isRowSo b s1) k)) Q := by
  refine v_Pbi (yM_fw (s := s) hp hq) ?_
  rintro _ t ⟨t1, t2⟩
  rw [mV_mn h] at t2
  have hwt := mV_tr h t1
  refine v_Pbi (yM_rowSo ho hd hwt t2 (mV_sh hwt hsh)) ?_
  rintro r t ⟨rfl, hr⟩
  refine hk r t hwt ?_
  have e : wk N E (VVM w) (e_mnM w) x = fitB N E (fun i => vwM w (wW (e_mnM w) p q) i (w.1 151 18).toInt) := by
    unfold wk
    rw [hx.2.2, Bool.true_and, ← hx.1, ← hx.2.1]
  rw [e]
  exact hr
theorem kx_lo {v : Int32} {k : Nat} (hv : v.toInt = k) (hk : k < 45) : v = kf (k + 1) ∧ (-1 : Int32) = kg (k + 1) ∧ kv (k + 1) = true := by
  refine ⟨Int32.toInt_inj.mp (by rw [kf_lo (by omega)]; omega), Int32.toInt_inj.mp (by rw [kg_lo (by omega)]; rfl), ?_⟩
  unfold kv
  rw [decide_eq_true (show k + 1 ≤ 45 by omega), Bool.true_or]
theorem kx_hi {v z : Int32} {a b : Nat} (hv : v.toInt = a) (hz : z.toInt = b) (hab : a < b) (hb : b < 45) : v = kf (46 + 45 * a + b) ∧ z = kg (46 + 45 * a + b) ∧ kv (46 + 45 * a + b) = true := by
  refine ⟨Int32.toInt_inj.mp (by rw [kf_hi (by omega) (by omega)]; omega), Int32.toInt_inj.mp (by rw [kg_hi (by omega)]; omega), ?_⟩
  unfold kv
  rw [decide_eq_true (show (46 + 45 * a + b - 46) / 45 < (46 + 45 * a + b - 46) % 45 by omega), Bool.or_true]
theorem kx_0 : (-1 : Int32) = kf 0 ∧ (-1 : Int32) = kg 0 ∧ kv 0 = true := ⟨by decide, by decide, by decide⟩
def w_R (N : Nat) (E : Nat → Int32) (w : vS) (r : Int32) : Prop := ∃ o, FW (wk N E (VVM w) (e_mnM w)) 2071 o ∧ r.toInt = wn o
theorem yM_w67 {w : vS} (ho : ok_M w) (hd : d10 w) {b : Int32} {N : Nat} {E : Nat → Int32} (hsh : sh_M w b N E) {K : vS → Option (Int32 × vS)} (hK : ∀ t, mV w t → (∀ y, y < 46 → wk N E (VVM w) (e_mnM w) y = false) → v_P (K t) (fun r _ => w_R N E w r)) : ∀ (n : Nat) (v : Int32) (s : vS), 0 ≤ v.toInt → v.toInt ≤ 45 → mV w s → (∀ y, y < v.toInt.toNat + 1 → wk N E (VVM w) (e_mnM w) y = false) → v_P (f_Md_write_L67 b K n v s) (fun r _ => w_R N E w r)
  | 0, _, _, _, _, _, _ => v_Pnone
  | n + 1, v, s, h0, h1, h, hlo => by
    show v_P (f_Md_write_L67b b K (f_Md_write_L67 b K n) v s) _
    unfold f_Md_write_L67b
    by_cases c : 45 ≤ v.toInt
    · rw [if_pos c]
      exact hK s h (fun y hy => hlo y (by omega))
    · rw [if_neg c]
      obtain ⟨k, hk⟩ : ∃ k : Nat, v.toInt = k := ⟨v.toInt.toNat, by omega⟩
      have e1 := v_inc (x := v) (by omega)
      refine yM_one ho hd h hsh (x := k + 1) ⟨by omega, by omega⟩ ⟨by decide, by decide⟩ (kx_lo hk (by omega)) (fun r t t1 t2 => ?_)
      by_cases hz : r.toInt = 0
      · rw [if_pos hz]
        refine yM_w67 ho hd hsh hK n (v + 1) t (by omega) (by omega) t1 (fun y hy => ?_)
        by_cases q : y = k + 1
        · rw [q]
          exact b_ff (fun z => absurd hz (t2.mpr z))
        · exact hlo y (by omega)
      · rw [if_neg hz]
        refine v_Pret ⟨some (k + 1), ⟨by omega, t2.mp hz, fun y hy => hlo y (by omega)⟩, ?_⟩
        unfold wn
        dsimp only
        rw [if_pos (show k + 1 ≤ 45 by omega), i32_mul (x := 100) (show -2 ^ 31 ≤ (100 : Int) * (v + 1).toInt by omega) (show (100 : Int) * (v + 1).toInt < 2 ^ 31 by omega), e1, hk]
        show (100 : Int) * ((k : Int) + 1) = 100 * ((k + 1 : Nat) : Int)
        omega
theorem yM_w119 {w : vS} (ho : ok_M w) (hd : d10 w) {b p : Int32} {a : Nat} (hp : p.toInt = a) (ha : a < 45) {N : Nat} {E : Nat → Int32} (hsh : sh_M w b N E) {K : vS → Option (Int32 × vS)} (hK : ∀ t, mV w t → (∀ y, y < 46 + 45 * (a + 1) → wk N E (VVM w) (e_mnM w) y = false) → v_P (K t) (fun r _ => w_R N E w r)) : ∀ (n : Nat) (v : Int32) (s : vS), (a : Int) < v.toInt → v.toInt ≤ 45 → mV w s → (∀ y : Nat, (y : Int) < 46 + 45 * a + v.toInt → wk N E (VVM w) (e_mnM w) y = false) → v_P (f_Md_write_L119 b p K n v s) (fun r _ => w_R N E w r)
  | 0, _, _, _, _, _, _ => v_Pnone
  | n + 1, v, s, h0, h1, h, hlo => by
    show v_P (f_Md_write_L119b b p K (f_Md_write_L119 b p K n) v s) _
    unfold f_Md_write_L119b
    by_cases c : 45 ≤ v.toInt
    · rw [if_pos c]
      exact hK s h (fun y hy => hlo y (by omega))
    · rw [if_neg c]
      obtain ⟨k, hk⟩ : ∃ k : Nat, v.toInt = k := ⟨v.toInt.toNat, by omega⟩
      have e1 := v_inc (x := v) (by omega)
      have ep := v_inc (x := p) (by omega)
      refine yM_one ho hd h hsh (x := 46 + 45 * a + k) ⟨by omega, by omega⟩ ⟨by omega, by omega⟩ (kx_hi hp hk (by omega) (by omega)) (fun r t t1 t2 => ?_)
      by_cases hz : r.toInt = 0
      · rw [if_pos hz]
        refine yM_w119 ho hd hp ha hsh hK n (v + 1) t (by omega) (by omega) t1 (fun y hy => ?_)
        by_cases q : y = 46 + 45 * a + k
        · rw [q]
          exact b_ff (fun z => absurd hz (t2.mpr z))
        · exact hlo y (by omega)
      · rw [if_neg hz]
        refine v_Pret ⟨some (46 + 45 * a + k), ⟨by omega, t2.mp hz, fun y hy => hlo y (by omega)⟩, ?_⟩
        have em : ((100 : Int32) * (p + 1)).toInt = 100 * (p.toInt + 1) := by
          rw [i32_mul (x := 100) (show -2 ^ 31 ≤ (100 : Int) * (p + 1).toInt by omega) (show (100 : Int) * (p + 1).toInt < 2 ^ 31 by omega), ep]
          rfl
        have e2 : ((100 : Int32) * (p + 1) + v).toInt = 100 * (p.toInt + 1) + v.toInt := by rw [i32_add (by omega) (by omega), em]
        unfold wn
        dsimp only
        rw [if_neg (by omega), v_inc (by omega), e2]
        omega
theorem yM_w106 {w : vS} (ho : ok_M w) (hd : d10 w) {b : Int32} {N : Nat} {E : Nat → Int32} (hsh : sh_M w b N E) : ∀ (n : Nat) (v : Int32) (s : vS), 0 ≤ v.toInt → v.toInt ≤ 45 → mV w s → (∀ y : Nat, (y : Int) < 46 + 45 * v.toInt → wk N E (VVM w) (e_mnM w) y = false) → v_P (f_Md_write_L106 b (fun s14 => some ((-2), s14)) n v s) (fun r _ => w_R N E w r)
  | 0, _, _, _, _, _, _ => v_Pnone
  | n + 1, v, s, h0, h1, h, hlo => by
    show v_P (f_Md_write_L106b b (fun s14 => some ((-2), s14)) (f_Md_write_L106 b (fun s14 => some ((-2), s14)) n) v s) _
    unfold f_Md_write_L106b
    by_cases c : 45 ≤ v.toInt
    · rw [if_pos c]
      exact v_Pret ⟨none, fun y hy => hlo y (by omega), rfl⟩
    · rw [if_neg c]
      obtain ⟨k, hk⟩ : ∃ k : Nat, v.toInt = k := ⟨v.toInt.toNat, by omega⟩
      have e1 := v_inc (x := v) (by omega)
      refine yM_w119 ho hd hk (by omega) hsh (fun t t1 t2 => yM_w106 ho hd hsh n (v + 1) t (by omega) (by omega) t1 (fun y hy => t2 y (by omega))) 4096 (v + 1) s (by omega) (by omega) h (fun y hy => ?_)
      by_cases q : (y : Int) < 46 + 45 * v.toInt
      · exact hlo y q
      · unfold wk
        have hkv : kv y = false := by
          unfold kv
          rw [decide_eq_false (by omega), decide_eq_false (by omega)]
          rfl
        rw [hkv, Bool.false_and]
/-! what is refused -/
def tn_R (t : vS) (b c d : Int32) : Int32 := if (0 ≤ c.toInt ∧ c.toInt ≤ 99) ∧ (0 ≤ d.toInt ∧ d.toInt ≤ 2) then td_R t b else -1
theorem yC_new {s t : vS} (hS : j_Sh s t) (b c d : Int32) : v_P (f_Ol_refusalOfNew b c d s) (fun r u => u = s ∧ r = tn_R t b c d) := by
  unfold f_Ol_refusalOfNew tn_R
  rw [jz_isDate, v_bi_some, v_bif]
  by_cases hc : 0 ≤ c.toInt ∧ c.toInt ≤ 99
  · rw [if_pos hc, jz_isSaying, v_bi_some, v_bif]
    by_cases hd : 0 ≤ d.toInt ∧ d.toInt ≤ 2
    · rw [if_pos hd, if_pos ⟨hc, hd⟩]
      refine v_Pbi (yC_told hS b) ?_
      rintro r s ⟨rfl, rfl⟩
      exact v_Pret ⟨rfl, rfl⟩
    · rw [if_neg hd, if_neg (fun z => hd z.2)]
      exact v_Pret ⟨rfl, rfl⟩
  · rw [if_neg hc, if_neg (fun z => hc z.1)]
    exact v_Pret ⟨rfl, rfl⟩
theorem yM_new {t : vS} (b c d : Int32) {g : vS → Option (Int32 × vS)} {Q : Int32 → vS → Prop} (h1 : (tn_R t b c d).toInt = 0 → v_P (g t) Q) (h2 : ¬ (tn_R t b c d).toInt = 0 → Q (tn_R t b c d) t) : v_P (v_bi (f_Md_isShelf b t) (fun r1 s1 => (if r1.toInt = 0 then (some ((-1), s1)) else (v_bi (f_Md_in c 0 99 s1) (fun r3 s3 => (if r3.toInt = 0 then (some ((-1), s3)) else (v_bi (f_Md_in d 0 2 s3) (fun r5 s5 => (if r5.toInt = 0 then (some ((-1), s5)) else (v_bi (f_Md_rowFault b s5) (fun r7 s7 => (if 0 ≤ r7.toInt then g s7 else (v_bi (f_Md_rowFault b s7) (fun r15 s15 => (some (r15, s15)))))))))))))))) Q := by
  have hsh : f_Md_isShelf b t = some (v_b (0 ≤ b.toInt ∧ b.toInt ≤ 5), t) := by
    unfold f_Md_isShelf
    rw [z_in, v_bi_some]
    exact if_pos v_b01
  have hc0 : ((0 : Int32).toInt ≤ c.toInt ∧ c.toInt ≤ (99 : Int32).toInt) ↔ (0 ≤ c.toInt ∧ c.toInt ≤ 99) := Iff.rfl
  have hd0 : ((0 : Int32).toInt ≤ d.toInt ∧ d.toInt ≤ (2 : Int32).toInt) ↔ (0 ≤ d.toInt ∧ d.toInt ≤ 2) := Iff.rfl
  have hm1 : tn_R t b c d = -1 → Q (-1) t := fun e => by
    have h3 := h2 (by rw [e]; decide)
    rw [e] at h3
    exact h3
  rw [hsh, v_bi_some, v_bif]
  by_cases hb : 0 ≤ b.toInt ∧ b.toInt ≤ 5
  · rw [if_pos hb, z_in, v_bi_some, v_bif]
    by_cases hc : 0 ≤ c.toInt ∧ c.toInt ≤ 99
    · rw [if_pos (hc0.mpr hc), z_in, v_bi_some, v_bif]
      by_cases hd : 0 ≤ d.toInt ∧ d.toInt ≤ 2
      · rw [if_pos (hd0.mpr hd)]
        have hi : v_in b 6 := ⟨hb.1, by omega⟩
        have et : tn_R t b c d = td_R t b := if_pos ⟨hc, hd⟩
        have hf : f_Md_rowFault b t = some (td_R t b, t) := by
          unfold f_Md_rowFault td_R
          rw [if_pos hi, if_pos hi, if_pos hb, v_nc]
          by_cases k1 : (t.1 181 b.toInt.toNat).toInt = -1
          · rw [if_pos k1, if_pos k1]
          · rw [if_neg k1, if_neg k1]
            by_cases k2 : (t.1 181 b.toInt.toNat).toInt = -3
            · rw [if_pos k2, if_pos k2]
            · rw [if_neg k2, if_neg k2]
        rw [et] at h1 h2
        rw [hf, v_bi_some]
        by_cases h0 : (td_R t b).toInt = 0
        · rw [if_pos (by omega)]
          exact h1 h0
        · have := td_n h0
          rw [if_neg (by omega), hf, v_bi_some]
          exact v_Pret (h2 h0)
      · rw [if_neg (fun z => hd (hd0.mp z))]
        exact v_Pret (hm1 (if_neg (fun z => hd z.2)))
    · rw [if_neg (fun z => hc (hc0.mp z))]
      exact v_Pret (hm1 (if_neg (fun z => hc z.1)))
  · rw [if_neg hb]
    refine v_Pret (hm1 ?_)
    unfold tn_R
    by_cases hz : (0 ≤ c.toInt ∧ c.toInt ≤ 99) ∧ (0 ≤ d.toInt ∧ d.toInt ≤ 2)
    · rw [if_pos hz]
      unfold td_R
      rw [if_neg hb]
    · rw [if_neg hz]
theorem tn_0 {t : vS} {b c d : Int32} (h : (tn_R t b c d).toInt = 0) : (td_R t b).toInt = 0 ∧ (0 ≤ c.toInt ∧ c.toInt ≤ 99) := by
  unfold tn_R at h
  by_cases hz : (0 ≤ c.toInt ∧ c.toInt ≤ 99) ∧ (0 ≤ d.toInt ∧ d.toInt ≤ 2)
  · rw [if_pos hz] at h
    exact ⟨h, hz.1⟩
  · rw [if_neg hz] at h
    exact absurd h (by decide)
theorem v_Pand3 {α : Type} {o : Option (α × vS)} {P Q : α → vS → Prop} (h1 : v_P o P) (h2 : v_P o Q) : v_P o (fun r s => P r s ∧ Q r s) := fun r s e => ⟨h1 r s e, h2 r s e⟩
/-! both: the same verdicts with every wording -/
def hd_W (s t : vS) (AC : Nat → List gL) (c d : Int32) (w : vS) : Prop := ∃ t2, j_R s t2 ∧ v_RI t2 ∧ j_AC s t2 AC ∧ hd_M s t2 w AC ∧ w.1 160 10 = c ∧ w.1 161 10 = d ∧ t2.1 151 19 = t.1 151 19 ∧ (∀ k, t2.1 163 k = t.1 163 k ∧ t2.1 164 k = t.1 164 k) ∧ t2.1 182 = t.1 182 ∧ t2.2 = t.2
theorem yM_writes {s t : vS} (h : j_R s t) (hR : v_RI t) {AC : Nat → List gL} (hAC : j_AC s t AC) (c d : Int32) : v_P (f_Md_writes c d t) (fun _ w => hd_W s t AC c d w) := by
  unfold f_Md_writes
  refine v_Plw (fun t1 z1 g1 f1 => v_Plw (fun t2 z2 g2 f2 => ?_))
  have hF : v_F v_sd t t2 := fun a j z => ⟨(f2 a j (fun y => z (by unfold v_sd; omega))).trans (f1 a j (fun y => z (by unfold v_sd; omega))), by rw [z2, z1]⟩
  have hx : ∀ a j, ¬ ((a = 160 ∨ a = 161) ∧ j = 10) → t2.1 a j = t.1 a j := fun a j q => (f2 a j (fun z => q (by omega))).trans (f1 a j (fun z => q (by omega)))
  have h2 : j_R s t2 := j_R_M h (fun a j q => hx a j (by unfold jb_M at q; omega))
  have hR2 := v_RI_F hR hF
  have hAC2 : j_AC s t2 AC := fun q hq => by
    rw [hx 151 14 (by omega)] at hq
    exact ⟨m_textE2 (hAC q hq).1 (fun a j q1 q2 => hx a j (by omega)), (hAC q hq).2⟩
  refine v_Pbi (jd_M h2 hR2 hAC2) ?_
  rintro _ w hw
  refine v_Pret ⟨t2, h2, hR2, hAC2, hw, ?_, ?_, hx _ _ (by omega), fun k => ⟨hx _ _ (by omega), hx _ _ (by omega)⟩, funext fun j => hx _ _ (by omega), z2.trans z1⟩
  · rw [hw.1.1.1 160 10 (by omega), f2 160 10 (by omega)]
    exact g1
  · rw [hw.1.1.1 161 10 (by omega)]
    exact g2
theorem vw_eq {u w : vS} (hV : j_V u w) {d e : Int32} (h1 : w.1 160 10 = d) (h2 : w.1 161 10 = e) (W : Nat → Bool) {i : Nat} (hi : i < 125) (r : Int) : wh u d e W i r = whM w W i r ∧ vw u d e W i r = vwM w W i r := by
  have e1 : wh u d e W i r = whM w W i r := by
    unfold wh whM
    rw [jv_ho hV hi, h1, h2]
    cases hh : hoC u i r with
    | none => rfl
    | some b =>
      have hb := hol_lt _ _ hh
      have h8 := hV.2.2.2.2.2.2.2 b hb
      dsimp only
      rw [h8.1, h8.2, hV.2.2.2.2.2.2.1 b hb]
  refine ⟨e1, ?_⟩
  unfold vw vwM
  rw [e1, h2, jv_vd hV hi]
theorem jw_all {s t u w : vS} {AC : Nat → List gL} {c d : Int32} (h : j_R s t) (hu : hd_C s u) (hw : hd_W s t AC c d w) : j_V u w ∧ u.1 8 2 = w.1 151 18 ∧ ∀ k, k < 3 → e_mn u k (u.1 8 3) = e_mnM w k := by
  obtain ⟨t2, k1, k2, k3, k4, k5, k6, k7, k8, _⟩ := hw
  obtain ⟨hV, hr, _⟩ := jd_V k1 k2 k3 hu k4
  refine ⟨hV, hr, fun k hk => ?_⟩
  have hm : e_mnM w k = e_mnM t2 k := by
    unfold e_mnM
    rw [k4.1.1.1 163 k (by omega), k4.1.1.1 164 k (by omega), k4.1.1.1 151 19 (by omega)]
  rw [hm]
  exact j_mnw k1.2.2.2.2.2.2.1 k1.2.2.2.2.1.2 (fun a j q => (hu.1.1.1 a j (fun z => by unfold hx_S hx_R at z; omega)).1) hk
theorem wk_eq {u w : vS} (hV : j_V u w) (hr : u.1 8 2 = w.1 151 18) {m : Nat → Int32} (hm : ∀ k, k < 3 → m k = e_mnM w k) {d e : Int32} (h1 : w.1 160 10 = d) (h2 : w.1 161 10 = e) (N : Nat) (E : Nat → Int32) (y : Nat) : wk N E (VVC u d e) m y = wk N E (VVM w) (e_mnM w) y := by
  unfold wk
  rw [wW_eq hm, fitB_eq (V := VVC u d e (wW (e_mnM w) (kf y) (kg y))) (V2 := VVM w (wW (e_mnM w) (kf y) (kg y))) (fun i hi => ?_)]
  show vw u d e _ i (u.1 8 2).toInt = vwM w _ i (w.1 151 18).toInt
  rw [hr]
  exact (vw_eq hV h1 h2 _ hi _).2
theorem jr_write {s t : vS} (h : j_R s t) (hR : v_RI t) (hK : v_KQ s) (h2 : j_2 s) (hS : j_Sh s t) (b c d : Int32) : j_An s t (f_Ol_write b c d s) (f_Md_write b c d t) := by
  obtain ⟨AC, hAC⟩ := j_ACex h hR.1.1.2
  unfold f_Ol_write f_Md_write
  by_cases h0 : (tn_R t b c d).toInt = 0
  · obtain ⟨h00, hcd⟩ := tn_0 h0
    obtain ⟨N, E, hC, hM⟩ := sh_ex hS hR h00
    have hb := hM.1
    have hN := hC.2.1
    refine j_AnI (P := fun r _ => (r = -2 ∧ ∃ j, j < (N + 1) / 2 ∧ tw N E j = false) ∨ ∃ u o, hd_C s u ∧ FW (wk N E (VVC u c d) (fun k => e_mn u k (u.1 8 3))) 2071 o ∧ r.toInt = wn o) (Q := fun r _ => ∃ w, hd_W s t AC c d w ∧ w_R N E w r) ?_ ?_ ?_
    · refine v_Pbi (yC_new hS b c d) ?_
      rintro r s ⟨rfl, rfl⟩
      rw [if_pos h0, z_shelfAt b s hb, v_bi_some, v_nc]
      refine v_Pif (fun _ => ?_) (fun _ => v_Pnone)
      refine v_Pbi (yC_allTwos hC) ?_
      rintro r s ⟨rfl, ⟨rfl, hal⟩ | ⟨rfl, hal⟩⟩
      · rw [if_neg (by decide)]
        refine v_Pbi (v_Pand3 (jd_C h hR hK h2 hAC) (kH (j_Hh_of h hR hK) h2)) ?_
        rintro _ u ⟨hu, _, hu2⟩
        refine v_Pbi (wP_mk hu2.2.2 (u.1 8 3) c d) ?_
        rintro _ v hv
        refine v_Pbi (yC_firstFitting hu.2 (by omega) (sh_hd hu (by omega) hC) hal hv) ?_
        rintro r x ⟨o, o1, o2⟩
        exact v_Pret (Or.inr ⟨u, o, hu, o1, o2⟩)
      · rw [if_pos (by decide)]
        exact v_Pret (Or.inl ⟨rfl, hal⟩)
    · refine yM_new b c d (g := fun s7 => v_bi (f_Md_writes c d s7) (fun _ s9 => (v_bi (f_Md_findWording (-1) (-1) s9) (fun _ s10 => (v_bi (f_Md_isRowSo b s10) (fun r11 s11 => (if r11.toInt = 0 then (f_Md_write_L67 b (fun s13 => (f_Md_write_L106 b (fun s14 => (some ((-2), s14))) 4096 0 s13)) 4096 0 s11) else (some (0, s11))))))))) (fun _ => ?_) (fun z => absurd h0 z)
      refine v_Pbi (yM_writes h hR hAC c d) ?_
      rintro _ w hw
      obtain ⟨t2, k1, k2, k3, k4, k5, k6, k7, k8, k9, k10⟩ := id hw
      have hd : d10 w := by unfold d10; rw [k5]; exact hcd
      have hsh : sh_M w b N E := sh_MF hM ((funext fun j => k4.1.1.1 182 j (by omega) : w.1 182 = t2.1 182).trans k9) (k4.1.1.2.trans k10)
      refine yM_one k4.2 hd mV_rf hsh (x := 0) ⟨by decide, by decide⟩ ⟨by decide, by decide⟩ kx_0 (fun r x x1 x2 => ?_)
      by_cases hz : r.toInt = 0
      · rw [if_pos hz]
        refine v_Pm2 (yM_w67 k4.2 hd hsh (fun y y1 y2 => yM_w106 k4.2 hd hsh 4096 0 y (by decide) (by decide) y1 (fun z z1 => y2 z (by have z1 : (z : Int) < 46 + 45 * 0 := z1; omega))) 4096 0 x (by decide) (by decide) x1 (fun y hy => ?_)) (fun r _ hr => ⟨w, hw, hr⟩)
        have hy : y < 0 + 1 := hy
        rw [show y = 0 by omega]
        exact b_ff (fun z => absurd hz (x2.mpr z))
      · rw [if_neg hz]
        exact v_Pret ⟨w, hw, some 0, ⟨by decide, x2.mp hz, fun j hj => absurd hj (Nat.not_lt_zero j)⟩, rfl⟩
    · rintro r1 _ r2 _ h3 ⟨w, hw, o2, g1, g2⟩
      rcases h3 with ⟨rfl, j, j1, j2⟩ | ⟨u, o, hu, o1, o3⟩
      · have ho2 : o2 = none := by
          cases o2 with
          | none => rfl
          | some x =>
            have h5 := g1.2.1
            unfold wk at h5
            have h6 := fitB_iff.mp (Bool.and_eq_true_iff.mp h5).2 j j1
            unfold wr at h6
            rw [j2, Bool.false_and] at h6
            cases h6
        rw [ho2] at g2
        exact Int32.toInt_inj.mp g2.symm
      · obtain ⟨hV, hr, hm⟩ := jw_all h hu hw
        obtain ⟨t2, k1, k2, k3, k4, k5, k6, _⟩ := hw
        have e := FW_eq (fun y _ => wk_eq hV hr hm k5 k6 N E y) o1 g1
        rw [e] at o3
        exact Int32.toInt_inj.mp (o3.trans g2.symm)
  · refine j_AnI (P := fun r _ => r = tn_R t b c d) (Q := fun r _ => r = tn_R t b c d) ?_ (yM_new b c d (fun z => absurd z h0) (fun _ => rfl)) (fun _ _ _ _ a1 a2 => by rw [a1, a2])
    refine v_Pbi (yC_new hS b c d) ?_
    rintro r s ⟨rfl, rfl⟩
    rw [if_neg h0]
    exact v_Pret rfl
/-! bars -/
def FP (p : Nat → Prop) (n : Nat) (o : Option Nat) : Prop := match o with
  | none => ∀ k, k < n → ¬ p k
  | some k => k < n ∧ p k ∧ ∀ j, j < k → ¬ p j
theorem FP_eq {p p2 : Nat → Prop} {n : Nat} (hp : ∀ k, k < n → (p k ↔ p2 k)) {o o2 : Option Nat} (h : FP p n o) (h2 : FP p2 n o2) : o = o2 := by
  cases o with
  | none =>
    cases o2 with
    | none => rfl
    | some j => exact absurd ((hp j h2.1).mpr h2.2.1) (h j h2.1)
  | some i =>
    cases o2 with
    | none => exact absurd ((hp i h.1).mp h.2.1) (h2 i h.1)
    | some j =>
      rcases Nat.lt_trichotomy i j with z | z | z
      · exact absurd ((hp i h.1).mp h.2.1) (h2.2.2 i z)
      · rw [z]
      · exact absurd ((hp j h2.1).mpr h2.2.1) (h.2.2 j z)
/-- some wording makes the verdict x in case i -/
def cb (VV : (Nat → Bool) → Nat → Int32) (m : Nat → Int32) (i : Nat) (x : Int32) : Prop := ∃ y, y < 2071 ∧ kv y = true ∧ (VV (wW m (kf y) (kg y)) i).toInt = x.toInt
/-- what bars a row at its k-th two -/
def bQ (N : Nat) (E : Nat → Int32) (VV : (Nat → Bool) → Nat → Int32) (m : Nat → Int32) (k : Nat) : Prop := ¬ (tw N E k = true ∧ cb VV m (pV E k) (E (2 * k + 1)))
def hoA : Option Nat → Int32
  | none => -2
  | some b => Int32.ofNat b
def bA (N : Nat) (E : Nat → Int32) (H : Nat → Option Nat) (o : Option Nat) : Int32 := match o with
  | none => -2
  | some k => if tw N E k = true then hoA (H (pV E k)) else -2
set_option maxRecDepth 100000 in
theorem ed_0 : (List.range 125).all (fun i => decide (0 ≤ (Int32.ofNat i / (25 : Int32)).toInt) && (decide (0 ≤ (Int32.ofNat i / (5 : Int32) - Int32.ofNat i / (5 : Int32) / (5 : Int32) * (5 : Int32)).toInt) && decide (0 ≤ (Int32.ofNat i - Int32.ofNat i / (5 : Int32) * (5 : Int32)).toInt))) = true := by decide +kernel
theorem ed_nn {i : Nat} (hi : i < 125) (w : Int32) : 0 ≤ (e_dig (Int32.ofNat i) w).toInt := by
  have h1 := List.all_eq_true.mp ed_0 i (List.mem_range.mpr hi)
  obtain ⟨h2, h3⟩ := Bool.and_eq_true_iff.mp h1
  obtain ⟨h3, h4⟩ := Bool.and_eq_true_iff.mp h3
  unfold e_dig
  by_cases c0 : w.toInt = 0
  · rw [if_pos c0]; exact of_decide_eq_true h2
  · rw [if_neg c0]
    by_cases c1 : w.toInt = 1
    · rw [if_pos c1]; exact of_decide_eq_true h3
    · rw [if_neg c1]; exact of_decide_eq_true h4
/-- the wording that is met nowhere -/
theorem wW_1 (m : Nat → Int32) {i : Nat} (hi : i < 125) : wW m (kf 1) (kg 1) i = false := by
  have e0 : (kf 1).toInt = ((0 : Nat) : Int) := kf_lo (by decide)
  have hn : (Int32.ofNat 0 - Int32.ofNat 0 / (5 : Int32) * (5 : Int32)).toInt = 0 := by decide +kernel
  have hg : ((Int32.ofNat 0 / (5 : Int32)) - (Int32.ofNat 0 / (5 : Int32)) / (3 : Int32) * (3 : Int32)).toInt = 0 := by decide +kernel
  have h1 : sk m 0 i = false := by
    unfold sk cq
    rw [if_pos hg, hn]
    have := ed_nn hi (m (0 / 15))
    exact decide_eq_false (by omega)
  unfold wW
  rw [cF_in e0 (by decide), h1, Bool.false_and]
theorem cb_iff {u : vS} {d e : Int32} {m : Nat → Int32} {i : Nat} (hi : i < 125) {x : Int32} : cb (VVC u d e) m i x ↔ (x.toInt = (vdC u i (u.1 8 2).toInt).toInt ∨ (x.toInt = e.toInt ∧ ∃ y, y < 2071 ∧ kv y = true ∧ wh u d e (wW m (kf y) (kg y)) i (u.1 8 2).toInt = true)) := by
  constructor
  · rintro ⟨y, y1, y2, y3⟩
    replace y3 : (vw u d e (wW m (kf y) (kg y)) i (u.1 8 2).toInt).toInt = x.toInt := y3
    unfold vw at y3
    by_cases z : wh u d e (wW m (kf y) (kg y)) i (u.1 8 2).toInt = true
    · rw [if_pos z] at y3
      exact Or.inr ⟨y3.symm, y, y1, y2, z⟩
    · rw [if_neg z] at y3
      exact Or.inl y3.symm
  · rintro (h | ⟨h, y, y1, y2, y3⟩)
    · refine ⟨1, by decide, by decide, ?_⟩
      show (vw u d e (wW m (kf 1) (kg 1)) i (u.1 8 2).toInt).toInt = x.toInt
      have z : wh u d e (wW m (kf 1) (kg 1)) i (u.1 8 2).toInt = false := by
        unfold wh
        rw [wW_1 m hi, Bool.false_and]
      unfold vw
      rw [z, if_neg (by decide)]
      exact h.symm
    · refine ⟨y, y1, y2, ?_⟩
      show (vw u d e (wW m (kf y) (kg y)) i (u.1 8 2).toInt).toInt = x.toInt
      unfold vw
      rw [if_pos y3]
      exact h.symm
theorem yC_mhL {u : vS} (ho : ok_C u) {m : Nat → Int32} {d e b c : Int32} {i : Nat} (hb : b.toInt = i) (hi : i < 125) {o : Option Nat} (hoo : o = (hoC u i c.toInt).map adC) : ∀ (n : Nat) (v : Int32) (s : vS) (f g : Int32) (x : Nat), wP u m d e s → wS m s f g → wd_at f g v x → 0 ≤ v.toInt → v.toInt ≤ 1036 → (∀ y, y < x → kv y = true → ¬ wh u d e (wW m (kf y) (kg y)) i c.toInt = true) → v_P (f_Wd_mightHold_L7 b o c (fun s2 => some (0, s2)) n v s) (fun r t => wP u m d e t ∧ (¬ r.toInt = 0 ↔ ∃ y, y < 2071 ∧ kv y = true ∧ wh u d e (wW m (kf y) (kg y)) i c.toInt = true))
  | 0, _, _, _, _, _, _, _, _, _, _, _ => v_Pnone
  | n + 1, v, s, f, g, x, h, hS, hat, h0, h1, hlo => by
    show v_P (f_Wd_mightHold_L7b b o c (fun s2 => some (0, s2)) (f_Wd_mightHold_L7 b o c (fun s2 => some (0, s2)) n) v s) _
    unfold f_Wd_mightHold_L7b
    by_cases q : 1036 ≤ v.toInt
    · rw [if_pos q]
      have hx := wd_end hat q
      refine v_Pret ⟨h, fun z => absurd rfl z, fun z => ?_⟩
      obtain ⟨y, y1, y2, y3⟩ := z
      exact absurd y3 (hlo y (by omega) y2)
    · rw [if_neg q]
      have e1 := v_inc (x := v) (by omega)
      obtain ⟨k1, k2, k3, k4⟩ := wd_key hat (by omega)
      have hW := yC_would ho h hS (c := c) hb hi
      rw [← hoo] at hW
      have hgo : ∀ (r : Int32), (¬ r.toInt = 0 ↔ wh u d e (wW m f g) i c.toInt = true) → v_P (if r.toInt = 0 then v_bi (f_Wd_goOn s) (fun _ s1 => f_Wd_mightHold_L7 b o c (fun s2 => some (0, s2)) n (v + 1) s1) else some ((1 : Int32), s)) (fun r t => wP u m d e t ∧ (¬ r.toInt = 0 ↔ ∃ y, y < 2071 ∧ kv y = true ∧ wh u d e (wW m (kf y) (kg y)) i c.toInt = true)) := fun r hr => by
        by_cases hz : r.toInt = 0
        · rw [if_pos hz]
          refine v_Pbi (yC_goOn h hS hat h0 (by omega)) ?_
          rintro _ t ⟨t1, tF, f2, g2, x2, t2, t3, t4, t5⟩
          refine yC_mhL ho hb hi hoo n (v + 1) t f2 g2 x2 t1 t2 t3 (by omega) (by omega) (fun y hy hky => ?_)
          rcases Nat.lt_trichotomy y x with z | z | z
          · exact hlo y z hky
          · rw [z, ← k1, ← k2]
            exact fun y => absurd hz (hr.mpr y)
          · rw [t5 y z hy] at hky
            cases hky
        · rw [if_neg hz]
          exact v_Pret ⟨h, fun _ => ⟨x, k4, k3, by rw [← k1, ← k2]; exact hr.mp hz⟩, fun _ => by decide⟩
      refine v_Pon (fun h5 => ?_) (fun k h5 => v_Pif (fun _ => ?_) (fun _ => v_Pnone))
      · rw [h5] at hW
        refine v_Pbi hW ?_
        rintro r s ⟨rfl, hr⟩
        exact hgo r hr
      · rw [h5] at hW
        refine v_Pbi hW ?_
        rintro r s ⟨rfl, hr⟩
        exact hgo r hr
theorem yC_mightHold {u : vS} (ho : ok_C u) {m : Nat → Int32} {d e b c : Int32} {i : Nat} (hb : b.toInt = i) (hi : i < 125) {o : Option Nat} (hoo : o = (hoC u i c.toInt).map adC) {s : vS} (h : wP u m d e s) : v_P (f_Wd_mightHold b o c s) (fun r t => wP u m d e t ∧ (¬ r.toInt = 0 ↔ ∃ y, y < 2071 ∧ kv y = true ∧ wh u d e (wW m (kf y) (kg y)) i c.toInt = true)) := by
  unfold f_Wd_mightHold
  refine v_Pbi (yC_begin h) ?_
  rintro _ w ⟨w1, wF, w2⟩
  exact yC_mhL ho hb hi hoo 4096 0 w (-1) (-1) 0 w1 w2 wd_0 (by decide) (by decide) (fun y hy => absurd hy (Nat.not_lt_zero y))
theorem yC_isBarred {u : vS} (ho : ok_C u) {m : Nat → Int32} {d e : Int32} {a N : Nat} {E : Nat → Int32} (ha : 139 ≤ a) (hsh : sh_C u a N E) {v : Int32} {k : Nat} (hv : v.toInt = k) (hk : 2 * k < N) (ht : tw N E k = true) {o : Option Nat} {c : Int32} (hc : c = u.1 8 2) (hoo : o = (hoC u (pV E k) c.toInt).map adC) {s : vS} (h : wP u m d e s) : v_P (f_Wd_isBarred a v o c s) (fun r t => wP u m d e t ∧ (¬ r.toInt = 0 ↔ ¬ cb (VVC u d e) m (pV E k) (E (2 * k + 1)))) := by
  obtain ⟨t1, t2, t3⟩ := tw_in ht
  obtain ⟨i1, ei⟩ := pV_in ht
  have hsh2 := wF_sh h.1 ha hsh
  have hpl : ∀ x, x = s → f_Sh_placeOfTwo a v x = some (pl_V (E (2 * k)), s) := fun x hx => by rw [hx, y_placeTwo hsh2 hv hk, if_pos t2]
  have hvd : f_Sh_verdictOfTwo a v s = some (E (2 * k + 1), s) := by rw [y_verdTwo hsh2 hv hk, if_pos (show (decide (2 * k + 1 < N) && due (E (2 * k + 1))) = true by rw [decide_eq_true t1, t3]; rfl)]
  have hcb := cb_iff (u := u) (d := d) (e := e) (m := m) (i := pV E k) i1 (x := E (2 * k + 1))
  have hgo : ∀ (y : Int32) (o2 : Option Nat), o2 = o → y = vdC u (pV E k) (u.1 8 2).toInt → v_P (if (E (2 * k + 1)).toInt = y.toInt then some ((0 : Int32), s) else (if (E (2 * k + 1)).toInt = (s.1 79 2).toInt then v_bi (f_Sh_placeOfTwo a v s) (fun r8 s8 => v_bi (f_Wd_mightHold r8 o2 c s8) (fun r9 s9 => (if r9.toInt = 0 then some (1, s9) else some (0, s9)))) else some (1, s))) (fun r t => wP u m d e t ∧ (¬ r.toInt = 0 ↔ ¬ cb (VVC u d e) m (pV E k) (E (2 * k + 1)))) := fun y o2 ho2 hy => by
    rw [ho2, h.2.2.2.1]
    by_cases z : (E (2 * k + 1)).toInt = y.toInt
    · rw [if_pos z]
      exact v_Pret ⟨h, fun q => absurd rfl q, fun q => absurd (hcb.mpr (Or.inl (by rw [z, hy]))) q⟩
    · rw [if_neg z]
      by_cases z2 : (E (2 * k + 1)).toInt = e.toInt
      · rw [if_pos z2, hpl s rfl, v_bi_some]
        refine v_Pbi (yC_mightHold ho ei i1 hoo h) ?_
        rintro r t ⟨q1, q2⟩
        rw [hc] at q2
        by_cases hz : r.toInt = 0
        · rw [if_pos hz]
          refine v_Pret ⟨q1, fun _ q => ?_, fun _ => by decide⟩
          rcases hcb.mp q with q3 | q3
          · exact z (by rw [hy]; exact q3)
          · exact absurd hz (q2.mpr q3.2)
        · rw [if_neg hz]
          exact v_Pret ⟨q1, fun q => absurd rfl q, fun q => absurd (hcb.mpr (Or.inr ⟨z2, q2.mp hz⟩)) q⟩
      · rw [if_neg z2]
        refine v_Pret ⟨h, fun _ q => ?_, fun _ => by decide⟩
        rcases hcb.mp q with q3 | q3
        · exact z (by rw [hy]; exact q3)
        · exact z2 q3.1
  unfold f_Wd_isBarred
  rw [hvd, v_bi_some]
  rw [hc] at hoo
  refine v_Pon (fun h5 => ?_) (fun k2 h5 => v_Pif (fun h4 => ?_) (fun _ => v_Pnone))
  · have hn : hoC u (pV E k) (u.1 8 2).toInt = none := by
      cases hh : hoC u (pV E k) (u.1 8 2).toInt with
      | none => rfl
      | some b =>
        rw [h5, hh] at hoo
        cases hoo
    refine hgo (-2) none h5.symm ?_
    unfold vdC
    rw [hn]
  · cases hh : hoC u (pV E k) (u.1 8 2).toInt with
    | none =>
      rw [h5, hh] at hoo
      cases hoo
    | some b =>
      rw [h5, hh] at hoo
      have eb : k2 = 23 + 5 * b := Option.some.inj hoo
      obtain ⟨b1, b2⟩ := hoC_lt ho hh
      have hbv : f_Ct_verdictOf (some k2) s = some (u.1 (23 + 5 * b) 2, s) := by
        rw [← (wF_x h.1 (23 + 5 * b) 2 (by omega)).1, ← eb]
        exact if_pos h4
      rw [hbv, v_bi_some]
      refine hgo _ (some k2) h5.symm ?_
      unfold vdC
      rw [hh]
def bR (u : vS) (N : Nat) (E : Nat → Int32) (d e : Int32) (m : Nat → Int32) (r : Option Nat) : Prop := ∃ o, FP (bQ N E (VVC u d e) m) ((N + 1) / 2) o ∧ ((r = none ∧ bA N E (fun i => hoC u i (u.1 8 2).toInt) o = -2) ∨ ∃ b, b < 10 ∧ r = some (23 + 5 * b) ∧ bA N E (fun i => hoC u i (u.1 8 2).toInt) o = Int32.ofNat b)
theorem yC_barL {u : vS} (ho : ok_C u) {m : Nat → Int32} {d e : Int32} {a N : Nat} {E : Nat → Int32} (ha : 139 ≤ a) (hsh : sh_C u a N E) : ∀ (n : Nat) (v : Int32) (s : vS), 0 ≤ v.toInt → v.toInt ≤ 30 → wP u m d e s → (∀ j, j < v.toInt.toNat → ¬ bQ N E (VVC u d e) m j) → v_P (f_Wd_barring_L2 a (fun s1 => some (none, s1)) n v s) (fun r t => wP u m d e t ∧ bR u N E d e m r)
  | 0, _, _, _, _, _, _ => v_Pnone
  | n + 1, v, s, h0, h1, h, hj => by
    show v_P (f_Wd_barring_L2b a (fun s1 => some (none, s1)) (f_Wd_barring_L2 a (fun s1 => some (none, s1)) n) v s) _
    unfold f_Wd_barring_L2b
    have hsh2 := wF_sh h.1 ha hsh
    have hN := hsh.2.1
    obtain ⟨x, x1, x2⟩ := y_twos hsh2
    rw [x1, v_bi_some]
    by_cases c : x.toInt ≤ v.toInt
    · rw [if_pos c]
      exact v_Pret ⟨h, none, fun k hk => hj k (by omega), Or.inl ⟨rfl, rfl⟩⟩
    · rw [if_neg c]
      obtain ⟨k, hk⟩ : ∃ k : Nat, v.toInt = k := ⟨v.toInt.toNat, by omega⟩
      have e1 := v_inc (x := v) (by omega)
      have hn0 : v.toInt.toNat = k := by omega
      have hn1 : (v + 1).toInt.toNat = k + 1 := by omega
      rw [hn0] at hj
      have hkN : k < (N + 1) / 2 := by omega
      have h2k : 2 * k < N := by omega
      rw [y_isTwo hsh2 hk h2k, v_bi_some, b01]
      by_cases ht : tw N E k = true
      · obtain ⟨i1, ei⟩ := pV_in ht
        have e82 : s.1 8 2 = u.1 8 2 := (wF_x h.1 8 2 (by omega)).1
        have hos := wF_ok h.1 ho
        rw [if_pos ht, y_placeTwo hsh2 hk h2k, if_pos (tw_in ht).2.1, v_bi_some]
        refine v_Pbi (yC_holder hos.1 hos.2.1 hos.2.2 ei i1) ?_
        rintro o s ⟨rfl, hoo⟩
        rw [wF_ho h.1 ho] at hoo
        have hgo : ∀ (t : vS) (r : Int32) (z : Option Nat), wP u m d e t → (¬ r.toInt = 0 ↔ ¬ cb (VVC u d e) m (pV E k) (E (2 * k + 1))) → z = o → v_P (if r.toInt = 0 then f_Wd_barring_L2 a (fun s1 => some (none, s1)) n (v + 1) t else some (z, t)) (fun r t => wP u m d e t ∧ bR u N E d e m r) := fun t r z t1 hr hz => by
          by_cases q : r.toInt = 0
          · rw [if_pos q]
            refine yC_barL ho ha hsh n (v + 1) t (by omega) (by omega) t1 (fun j hj2 => ?_)
            by_cases y : j = k
            · rw [y]
              refine fun w => w ⟨ht, ?_⟩
              exact Classical.byContradiction (fun w2 => absurd q (hr.mpr w2))
            · exact hj j (by omega)
          · rw [if_neg q]
            refine v_Pret ⟨t1, some k, ⟨hkN, fun w => hr.mp q w.2, hj⟩, ?_⟩
            rw [hz, hoo, e82]
            unfold bA
            dsimp only
            rw [if_pos ht]
            cases hh : hoC u (pV E k) (u.1 8 2).toInt with
            | none => exact Or.inl ⟨rfl, rfl⟩
            | some b => exact Or.inr ⟨b, (hoC_lt ho hh).1, rfl, rfl⟩
        refine v_Pon (fun h5 => ?_) (fun k2 h5 => v_Pif (fun _ => ?_) (fun _ => v_Pnone))
        · refine v_Pbi (yC_isBarred ho ha hsh hk h2k ht e82 (by rw [← hoo, h5]) h) ?_
          rintro r t ⟨r1, r2⟩
          exact hgo t r none r1 r2 h5.symm
        · refine v_Pbi (yC_isBarred ho ha hsh hk h2k ht e82 (by rw [← hoo, h5]) h) ?_
          rintro r t ⟨r1, r2⟩
          exact hgo t r (some k2) r1 r2 h5.symm
      · rw [if_neg ht]
        refine v_Pret ⟨h, some k, ⟨hkN, fun w => ht w.1, hj⟩, Or.inl ⟨rfl, ?_⟩⟩
        unfold bA
        dsimp only
        rw [if_neg ht]
/-! the reference: can it be -/
theorem kfg {y : Nat} (hy : y < 2071) (hk : kv y = true) : (-1 ≤ (kf y).toInt ∧ (kf y).toInt < 45) ∧ (-1 ≤ (kg y).toInt ∧ (kg y).toInt < 45) ∧ ((kg y).toInt = -1 ∨ (0 ≤ (kf y).toInt ∧ (kf y).toInt < (kg y).toInt)) := by
  by_cases c : y ≤ 45
  · have e1 := kf_lo c
    have e2 := kg_lo c
    omega
  · have e1 := kf_hi (x := y) (by omega) (by omega)
    have e2 := kg_hi (x := y) (by omega)
    unfold kv at hk
    rw [decide_eq_false c, Bool.false_or] at hk
    have := of_decide_eq_true hk
    omega
theorem kfg_mk {p q : Int32} (hp : -1 ≤ p.toInt ∧ p.toInt < 45) (hq : -1 ≤ q.toInt ∧ q.toInt < 45) (h : q.toInt = -1 ∨ (0 ≤ p.toInt ∧ p.toInt < q.toInt)) : ∃ y, y < 2071 ∧ p = kf y ∧ q = kg y ∧ kv y = true := by
  by_cases c : q.toInt = -1
  · have ek : q = -1 := Int32.toInt_inj.mp c
    refine ⟨(p.toInt + 1).toNat, by omega, Int32.toInt_inj.mp (by rw [kf_lo (by omega)]; omega), Int32.toInt_inj.mp (by rw [kg_lo (by omega)]; exact c), ?_⟩
    unfold kv
    rw [decide_eq_true (show (p.toInt + 1).toNat ≤ 45 by omega), Bool.true_or]
  · have h2 := h.resolve_left c
    obtain ⟨a, ha⟩ : ∃ a : Nat, p.toInt = a := ⟨p.toInt.toNat, by omega⟩
    obtain ⟨b, hb⟩ : ∃ b : Nat, q.toInt = b := ⟨q.toInt.toNat, by omega⟩
    obtain ⟨k1, k2, k3⟩ := kx_hi ha hb (by omega) (by omega)
    exact ⟨46 + 45 * a + b, by omega, k1, k2, k3⟩
/-- those ahead of (A, B) don't make it -/
def cD (VV : (Nat → Bool) → Nat → Int32) (m : Nat → Int32) (i : Nat) (x : Int32) (A B : Int) : Prop := ∀ y, y < 2071 → kv y = true → ((kf y).toInt < A ∨ ((kf y).toInt = A ∧ (kg y).toInt < B)) → ¬ (VV (wW m (kf y) (kg y)) i).toInt = x.toInt
def cQ (w : vS) (i : Nat) (x : Int32) (r : Int32) (t : vS) : Prop := mV w t ∧ (¬ r.toInt = 0 ↔ cb (VVM w) (e_mnM w) i x)
theorem yM_cb11 {w : vS} (ho : ok_M w) (hd : d10 w) {b c p : Int32} {i : Nat} (hb : b.toInt = i) (hi : i < 125) (hp : -1 ≤ p.toInt ∧ p.toInt < 45) {K : vS → Option (Int32 × vS)} (hK : ∀ t, mV w t → cD (VVM w) (e_mnM w) i c p.toInt 45 → v_P (K t) (cQ w i c)) : ∀ (n : Nat) (v : Int32) (s : vS), -1 ≤ v.toInt → v.toInt ≤ 45 → mV w s → cD (VVM w) (e_mnM w) i c p.toInt v.toInt → v_P (f_Md_canBe_L11 b c p K n v s) (cQ w i c)
  | 0, _, _, _, _, _, _ => v_Pnone
  | n + 1, v, s, h0, h1, h, hD => by
    show v_P (f_Md_canBe_L11b b c p K (f_Md_canBe_L11 b c p K n) v s) _
    unfold f_Md_canBe_L11b
    by_cases c45 : 45 ≤ v.toInt
    · rw [if_pos c45]
      refine hK s h ?_
      rw [show v.toInt = 45 by omega] at hD
      exact hD
    · rw [if_neg c45]
      have e1 := v_inc (x := v) (by omega)
      have hnx : ∀ t, mV w t → (∀ y, y < 2071 → kv y = true → (kf y).toInt = p.toInt → (kg y).toInt = v.toInt → ¬ (VVM w (wW (e_mnM w) (kf y) (kg y)) i).toInt = c.toInt) → v_P (f_Md_canBe_L11 b c p K n (v + 1) t) (cQ w i c) := fun t ht hx => by
        refine yM_cb11 ho hd hb hi hp hK n (v + 1) t (by omega) (by omega) ht (fun y y1 y2 y3 => ?_)
        by_cases q : (kf y).toInt = p.toInt ∧ (kg y).toInt = v.toInt
        · exact hx y y1 y2 q.1 q.2
        · exact hD y y1 y2 (by omega)
      have hT : (v.toInt = -1 ∨ (0 ≤ p.toInt ∧ p.toInt < v.toInt)) → v_P (v_bi (f_Md_findWording p v s) (fun _ s1 => v_bi (f_Md_verdictWith b s1) (fun r s2 => if r.toInt = c.toInt then some ((1 : Int32), s2) else f_Md_canBe_L11 b c p K n (v + 1) s2))) (cQ w i c) := fun q => by
        obtain ⟨y, y1, y2, y3, y4⟩ := kfg_mk hp ⟨h0, by omega⟩ q
        refine v_Pbi (yM_fw (s := s) hp ⟨h0, by omega⟩) ?_
        rintro _ t ⟨t1, t2⟩
        rw [mV_mn h] at t2
        have hwt := mV_tr h t1
        refine v_Pbi (yM_vw ho hd hwt t2 hb hi) ?_
        rintro r t ⟨rfl, hr⟩
        by_cases z : r.toInt = c.toInt
        · rw [if_pos z]
          refine v_Pret ⟨hwt, fun _ => ⟨y, y1, y4, ?_⟩, fun _ => by decide⟩
          rw [← y2, ← y3, ← z, hr]
        · rw [if_neg z]
          refine hnx t hwt (fun x x1 x2 x3 x4 => ?_)
          have k1 : kf x = p := Int32.toInt_inj.mp x3
          have k2 : kg x = v := Int32.toInt_inj.mp x4
          rw [k1, k2]
          intro q2
          exact z (by rw [hr]; exact q2)
      have hS : ¬ (v.toInt = -1 ∨ (0 ≤ p.toInt ∧ p.toInt < v.toInt)) → v_P (f_Md_canBe_L11 b c p K n (v + 1) s) (cQ w i c) := fun q => hnx s h (fun y y1 y2 y3 y4 => absurd (by have := (kfg y1 y2).2.2; omega) q)
      by_cases v0 : v.toInt < 0
      · rw [if_pos v0]
        by_cases p0 : 0 ≤ p.toInt
        · rw [if_pos p0]
          exact hT (Or.inl (by omega))
        · rw [if_neg p0, if_pos v0]
          exact hT (Or.inl (by omega))
      · rw [if_neg v0]
        by_cases vp : v.toInt ≤ p.toInt
        · rw [if_pos vp]
          exact hS (by omega)
        · rw [if_neg vp]
          by_cases p0 : 0 ≤ p.toInt
          · rw [if_pos p0]
            exact hT (Or.inr (by omega))
          · rw [if_neg p0, if_neg v0]
            exact hS (by omega)
theorem yM_cb2 {w : vS} (ho : ok_M w) (hd : d10 w) {b c : Int32} {i : Nat} (hb : b.toInt = i) (hi : i < 125) : ∀ (n : Nat) (v : Int32) (s : vS), -1 ≤ v.toInt → v.toInt ≤ 45 → mV w s → cD (VVM w) (e_mnM w) i c v.toInt (-1) → v_P (f_Md_canBe_L2 b c (fun s1 => some (0, s1)) n v s) (cQ w i c)
  | 0, _, _, _, _, _, _ => v_Pnone
  | n + 1, v, s, h0, h1, h, hD => by
    show v_P (f_Md_canBe_L2b b c (fun s1 => some (0, s1)) (f_Md_canBe_L2 b c (fun s1 => some (0, s1)) n) v s) _
    unfold f_Md_canBe_L2b
    by_cases c45 : 45 ≤ v.toInt
    · rw [if_pos c45]
      refine v_Pret ⟨h, fun q => absurd rfl q, fun q => ?_⟩
      obtain ⟨y, y1, y2, y3⟩ := q
      exact absurd y3 (hD y y1 y2 (by have := kfg y1 y2; omega))
    · rw [if_neg c45]
      have e1 := v_inc (x := v) (by omega)
      refine yM_cb11 ho hd hb hi ⟨h0, by omega⟩ (fun t t1 t2 => yM_cb2 ho hd hb hi n (v + 1) t (by omega) (by omega) t1 (fun y y1 y2 y3 => t2 y y1 y2 (by have := kfg y1 y2; omega))) 4096 (-1) s (by decide) (by decide) h hD
theorem yM_canBe {w : vS} (ho : ok_M w) (hd : d10 w) {b c : Int32} {i : Nat} (hb : b.toInt = i) (hi : i < 125) {s : vS} (h : mV w s) : v_P (f_Md_canBe b c s) (cQ w i c) := by
  unfold f_Md_canBe
  exact yM_cb2 ho hd hb hi 4096 (-1) s (by decide) (by decide) h (fun y y1 y2 y3 => by have := kfg y1 y2; have e : (-1 : Int32).toInt = -1 := rfl; omega)
def bM (w : vS) (N : Nat) (E : Nat → Int32) (r : Int32) : Prop := ∃ o, FP (bQ N E (VVM w) (e_mnM w)) ((N + 1) / 2) o ∧ r = bA N E (fun i => hoR w i (w.1 151 18).toInt) o
theorem yM_barL {w : vS} (ho : ok_M w) (hd : d10 w) {b : Int32} {N : Nat} {E : Nat → Int32} (hsh : sh_M w b N E) : ∀ (n : Nat) (v : Int32) (s : vS), 0 ≤ v.toInt → v.toInt ≤ 30 → mV w s → (∀ j, j < v.toInt.toNat → ¬ bQ N E (VVM w) (e_mnM w) j) → v_P (f_Md_bars_L51 b (fun w10 s11 => (v_bi (f_Md_holder w10 (s11.1 151 18) s11) (fun r13 s13 => (if 0 ≤ r13.toInt then (some (r13, s13)) else (some ((-2), s13)))))) (fun s12 => (some ((-2), s12))) n v s) (fun r _ => bM w N E r)
  | 0, _, _, _, _, _, _ => v_Pnone
  | n + 1, v, s, h0, h1, h, hj => by
    show v_P (f_Md_bars_L51b b (fun w10 s11 => (v_bi (f_Md_holder w10 (s11.1 151 18) s11) (fun r13 s13 => (if 0 ≤ r13.toInt then (some (r13, s13)) else (some ((-2), s13)))))) (fun s12 => (some ((-2), s12))) (f_Md_bars_L51 b (fun w10 s11 => (v_bi (f_Md_holder w10 (s11.1 151 18) s11) (fun r13 s13 => (if 0 ≤ r13.toInt then (some (r13, s13)) else (some ((-2), s13)))))) (fun s12 => (some ((-2), s12))) n) v s) _
    unfold f_Md_bars_L51b
    have hsh2 := mV_sh h hsh
    have hN := hsh.2.2.1
    have hb := hsh.1
    obtain ⟨k, hk⟩ : ∃ k : Nat, v.toInt = k := ⟨v.toInt.toNat, by omega⟩
    have e2 := (v_21 hk (by omega)).1
    have hn0 : v.toInt.toNat = k := by omega
    rw [hn0] at hj
    rw [if_pos (show v_in b 6 from ⟨hb.1, by omega⟩), v_nc]
    by_cases c : (s.1 182 b.toInt.toNat).toInt ≤ ((2 : Int32) * v).toInt
    · rw [if_pos c]
      rw [e2, hsh2.2.1] at c
      exact v_Pret ⟨none, fun j hj2 => hj j (by omega), rfl⟩
    · rw [if_neg c]
      rw [e2, hsh2.2.1] at c
      have e1 := v_inc (x := v) (by omega)
      have h2k : 2 * k < N := by omega
      have hkN : k < (N + 1) / 2 := by omega
      rw [yM_isTwo hsh2 hk h2k, v_bi_some, b01]
      by_cases ht : tw N E k = true
      · obtain ⟨t1, t2, t3⟩ := tw_in ht
        obtain ⟨i1, ei⟩ := pV_in ht
        rw [if_pos ht, yM_caseAt hsh2 hk h2k, v_bi_some, y_caseOf, v_bi_some, yM_dueAt hsh2 hk t1, v_bi_some]
        refine v_Pbi (yM_canBe ho hd ei i1 h) ?_
        rintro r t ⟨ht1, hr⟩
        by_cases z : r.toInt = 0
        · rw [if_pos z]
          have hot := mV_ok ht1 ho
          refine v_Pbi (yM_holder hot.1 hot.2 ei i1) ?_
          rintro q t ⟨rfl, hq⟩
          rw [mV_ho ht1 ho i1, ht1.1 151 18 (by omega)] at hq
          have hfp : FP (bQ N E (VVM w) (e_mnM w)) ((N + 1) / 2) (some k) := ⟨hkN, fun y => absurd z (hr.mpr y.2), hj⟩
          have hba : bA N E (fun i => hoR w i (w.1 151 18).toInt) (some k) = hoA (hoR w (pV E k) (w.1 151 18).toInt) := if_pos ht
          cases hh : hoR w (pV E k) (w.1 151 18).toInt with
          | none =>
            rw [hh] at hq hba
            rw [hq, if_neg (show ¬ 0 ≤ (hoM none).toInt by decide)]
            exact v_Pret ⟨some k, hfp, hba.symm⟩
          | some x =>
            rw [hh] at hq hba
            have hx := hol_lt _ _ hh
            have h10 := ho.1.2
            have e : (hoM (some x)).toInt = x := v_oi (n := x) (by unfold nM at hx; omega)
            rw [hq, if_pos (by omega)]
            exact v_Pret ⟨some k, hfp, hba.symm⟩
        · rw [if_neg z]
          refine yM_barL ho hd hsh n (v + 1) t (by omega) (by omega) ht1 (fun j hj2 => ?_)
          by_cases q : j = k
          · rw [q]
            exact fun y => y ⟨ht, hr.mp z⟩
          · exact hj j (by omega)
      · rw [if_neg ht]
        refine v_Pret ⟨some k, ⟨hkN, fun y => ht y.1, hj⟩, ?_⟩
        unfold bA
        dsimp only
        rw [if_neg ht]
theorem bA_eq {N : Nat} {E : Nat → Int32} {H H2 : Nat → Option Nat} (hH : ∀ i, i < 125 → H i = H2 i) (o : Option Nat) : bA N E H o = bA N E H2 o := by
  unfold bA
  cases o with
  | none => rfl
  | some k =>
    dsimp only
    by_cases ht : tw N E k = true
    · rw [if_pos ht, if_pos ht, hH _ (pV_in ht).1]
    · rw [if_neg ht, if_neg ht]
theorem bQ_eq {u w : vS} (hV : j_V u w) (hr : u.1 8 2 = w.1 151 18) {m : Nat → Int32} (hm : ∀ k, k < 3 → m k = e_mnM w k) {d e : Int32} (h1 : w.1 160 10 = d) (h2 : w.1 161 10 = e) (N : Nat) (E : Nat → Int32) (k : Nat) : bQ N E (VVC u d e) m k ↔ bQ N E (VVM w) (e_mnM w) k := by
  unfold bQ
  by_cases ht : tw N E k = true
  · have hi := (pV_in ht).1
    have hv : ∀ y, VVC u d e (wW m (kf y) (kg y)) (pV E k) = VVM w (wW (e_mnM w) (kf y) (kg y)) (pV E k) := fun y => by
      rw [wW_eq hm]
      show vw u d e _ (pV E k) (u.1 8 2).toInt = vwM w _ (pV E k) (w.1 151 18).toInt
      rw [hr]
      exact (vw_eq hV h1 h2 _ hi _).2
    have hc : cb (VVC u d e) m (pV E k) (E (2 * k + 1)) ↔ cb (VVM w) (e_mnM w) (pV E k) (E (2 * k + 1)) := by
      unfold cb
      constructor
      · rintro ⟨y, y1, y2, y3⟩
        exact ⟨y, y1, y2, by rw [← hv]; exact y3⟩
      · rintro ⟨y, y1, y2, y3⟩
        exact ⟨y, y1, y2, by rw [hv]; exact y3⟩
    rw [hc]
  · exact ⟨fun _ y => ht y.1, fun _ y => ht y.1⟩
theorem jr_bars {s t : vS} (h : j_R s t) (hR : v_RI t) (hK : v_KQ s) (h2 : j_2 s) (hS : j_Sh s t) (b c d : Int32) : j_An s t (f_Ol_bars b c d s) (f_Md_bars b c d t) := by
  obtain ⟨AC, hAC⟩ := j_ACex h hR.1.1.2
  unfold f_Ol_bars f_Md_bars
  by_cases h0 : (tn_R t b c d).toInt = 0
  · obtain ⟨h00, hcd⟩ := tn_0 h0
    obtain ⟨N, E, hC, hM⟩ := sh_ex hS hR h00
    have hb := hM.1
    refine j_AnI (P := fun r _ => ∃ u o, hd_C s u ∧ FP (bQ N E (VVC u c d) (fun k => e_mn u k (u.1 8 3))) ((N + 1) / 2) o ∧ r = bA N E (fun i => hoC u i (u.1 8 2).toInt) o) (Q := fun r _ => ∃ w, hd_W s t AC c d w ∧ bM w N E r) ?_ ?_ ?_
    · refine v_Pbi (yC_new hS b c d) ?_
      rintro r s ⟨rfl, rfl⟩
      rw [if_pos h0]
      refine v_Pbi (v_Pand3 (jd_C h hR hK h2 hAC) (kH (j_Hh_of h hR hK) h2)) ?_
      rintro _ u ⟨hu, _, hu2⟩
      refine v_Pbi (wP_mk hu2.2.2 (u.1 8 3) c d) ?_
      rintro _ v hv
      rw [z_shelfAt b v hb, v_bi_some, v_nc]
      refine v_Pif (fun _ => ?_) (fun _ => v_Pnone)
      refine v_Pbi (P := fun r t => wP u (fun k => e_mn u k (u.1 8 3)) c d t ∧ bR u N E c d (fun k => e_mn u k (u.1 8 3)) r) ?_ ?_
      · unfold f_Wd_barring
        exact yC_barL hu.2 (by omega) (sh_hd hu (by omega) hC) 4096 0 v (by decide) (by decide) hv (fun j hj => absurd hj (Nat.not_lt_zero j))
      · rintro r x ⟨hx, o, o1, ⟨o2, o3⟩ | ⟨k, k1, o2, o3⟩⟩
        · refine v_Pno o2 (v_Pret ⟨u, o, hu, o1, o3.symm⟩)
        · refine v_Pos o2 (v_Pif (fun _ => v_Pret ⟨u, o, hu, o1, ?_⟩) (fun _ => v_Pnone))
          rw [o3, (wF_x hx.1 (23 + 5 * k) 0 (by omega)).1]
          exact v_ofn (hu.2.2.1 k k1)
    · refine yM_new b c d (g := fun s7 => v_bi (f_Md_writes c d s7) (fun _ s9 => (f_Md_bars_L51 b (fun w10 s11 => (v_bi (f_Md_holder w10 (s11.1 151 18) s11) (fun r13 s13 => (if 0 ≤ r13.toInt then (some (r13, s13)) else (some ((-2), s13)))))) (fun s12 => (some ((-2), s12))) 4096 0 s9))) (fun _ => ?_) (fun z => absurd h0 z)
      refine v_Pbi (yM_writes h hR hAC c d) ?_
      rintro _ w hw
      obtain ⟨t2, k1, k2, k3, k4, k5, k6, k7, k8, k9, k10⟩ := id hw
      have hd : d10 w := by unfold d10; rw [k5]; exact hcd
      have hsh : sh_M w b N E := sh_MF hM ((funext fun j => k4.1.1.1 182 j (by omega) : w.1 182 = t2.1 182).trans k9) (k4.1.1.2.trans k10)
      exact v_Pm2 (yM_barL k4.2 hd hsh 4096 0 w (by decide) (by decide) mV_rf (fun j hj => absurd hj (Nat.not_lt_zero j))) (fun r _ hr => ⟨w, hw, hr⟩)
    · rintro r1 _ r2 _ ⟨u, o, hu, o1, rfl⟩ ⟨w, hw, o2, g1, rfl⟩
      obtain ⟨hV, hr, hm⟩ := jw_all h hu hw
      obtain ⟨t2, k1, k2, k3, k4, k5, k6, _⟩ := hw
      rw [FP_eq (fun y _ => bQ_eq hV hr hm k5 k6 N E y) o1 g1]
      exact bA_eq (fun i hi => by rw [hr]; exact (jv_ho hV hi _).symm) o2
  · refine j_AnI (P := fun r _ => r = tn_R t b c d) (Q := fun r _ => r = tn_R t b c d) ?_ (yM_new b c d (fun z => absurd z h0) (fun _ => rfl)) (fun _ _ _ _ a1 a2 => by rw [a1, a2])
    refine v_Pbi (yC_new hS b c d) ?_
    rintro r s ⟨rfl, rfl⟩
    rw [if_neg h0]
    exact v_Pret rfl
