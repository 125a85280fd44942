/-! what the class's calls leave as it was -/
theorem v_Pon {α : Type} {o : Option Nat} {x : Option (α × vS)} {k : Nat → Option (α × vS)} {Q : α → vS → Prop} (h1 : o = none → v_P x Q) (h2 : ∀ b, o = some b → v_P (k b) Q) : v_P (v_on o x k) Q := by
  cases o with
  | none => exact h1 rfl
  | some b => exact h2 b rfl
theorem w_b {P : Nat → Nat → Prop} {α β : Type} {s0 s : vS} {o : Option (α × vS)} {k : α → vS → Option (β × vS)} {Q : β → vS → Prop} (h : v_F P s0 s) (hc : v_P o (fun _ t => v_F P s t)) (hk : ∀ r t, v_F P s0 t → v_P (k r t) Q) : v_P (v_bi o k) Q := v_Pbi hc (fun r t ht => hk r t (v_F_tr h ht))
theorem w_w1 {P : Nat → Nat → Prop} {α : Type} {s0 s : vS} {a i : Nat} {x : Int32} {k : vS → Option (α × vS)} {Q : α → vS → Prop} (h : v_F P s0 s) (hs : P a i) (hk : ∀ t, v_F P s0 t → v_P (k t) Q) : v_P (v_let (v_w1 s a i x) k) Q := hk _ (v_F_w1 h hs)
theorem w_w2 {P : Nat → Nat → Prop} {α : Type} {s0 s : vS} {a i : Nat} {x : Int64} {k : vS → Option (α × vS)} {Q : α → vS → Prop} (h : v_F P s0 s) (hs : P a i) (hk : ∀ t, v_F P s0 t → v_P (k t) Q) : v_P (v_let (v_w2 s a i x) k) Q := hk _ (v_F_w2 h hs)
/-- the cells that the class's questions touch behind a hearing -/
def hx_U (a j : Nat) : Prop := (a = 8 ∧ j = 4) ∨ a = 22 ∨ (78 ≤ a ∧ a ≤ 131 ∧ ¬ a = 85 ∧ ¬ (a = 79 ∧ j = 0)) ∨ a = 138
/-- the cells that speech, texts and words stand in, and what no call ever changes: the number of the law that might be, the set of all cases -/
def jb_k (a j : Nat) : Prop := (a = 8 ∧ j = 1) ∨ a = 10 ∨ a = 12 ∨ (a = 79 ∧ j = 0) ∨ a = 85 ∨ (23 ≤ a ∧ a ≤ 72 ∧ ((a % 5 = 3 ∧ (j = 0 ∨ (6 ≤ j ∧ j ≤ 8))) ∨ (a % 5 = 4 ∧ j = 2) ∨ a % 5 = 0 ∨ a % 5 = 2))
def hx_N (a j : Nat) : Prop := ¬ jb_k a j
theorem hx_UN {a j : Nat} (h : hx_U a j) : hx_N a j := by
  unfold hx_U at h
  unfold hx_N jb_k
  omega
/-- the words' bounds -/
def j_wr (s : vS) : Prop := ∀ w, w < 3 → (s.1 10 w).toInt ≤ 2 ∧ (s.1 12 w).toInt ≤ 2
def j_al (s : vS) : Prop := (s.1 79 0).toInt = 10 ∧ s.2 85 0 = -1 ∧ s.2 85 1 = 2305843009213693951
def j_2 (s : vS) : Prop := j_sp s ∧ j_wr s ∧ j_al s
theorem j_alE {s t : vS} (h : j_al s) (h1 : t.1 79 0 = s.1 79 0) (h2 : ∀ j, t.2 85 j = s.2 85 j) : j_al t := ⟨by rw [h1]; exact h.1, by rw [h2]; exact h.2.1, by rw [h2]; exact h.2.2⟩
theorem j_wr_wr {s : vS} (h : j_wr s) : h_wr s := fun w hw => (h w hw).1
theorem j_spN {s t : vS} (h : j_sp s) (hF : v_F hx_N s t) : j_sp t := by
  have hx : ∀ a j, jb_k a j → t.1 a j = s.1 a j ∧ t.2 a j = s.2 a j := fun a j q => hF a j (fun z => z q)
  intro k hk
  obtain ⟨h1, h2⟩ := h k hk
  rw [(hx 8 1 (by unfold jb_k; omega)).1]
  refine ⟨fun q => h_caE (h1 q) (fun a j q2 => (hx a j (by unfold hx_C at q2; unfold jb_k; omega)).1) (fun j => (hx _ j (by unfold jb_k; omega)).2), fun q => ?_⟩
  rw [(hx (23 + 5 * k) 7 (by unfold jb_k; omega)).1]
  exact h2 q
theorem j_2N {s t : vS} (h : j_2 s) (hF : v_F hx_N s t) : j_2 t := ⟨j_spN h.1 hF, fun w hw => by
  rw [(hF 10 w (fun z => z (by unfold jb_k; omega))).1, (hF 12 w (fun z => z (by unfold jb_k; omega))).1]
  exact h.2.1 w hw, j_alE h.2.2 (hF 79 0 (fun z => z (by unfold jb_k; omega))).1 (fun j => (hF 85 j (fun z => z (by unfold jb_k; omega))).2)⟩
theorem j_2U {s t : vS} (h : j_2 s) (hF : v_F hx_U s t) : j_2 t := j_2N h (v_F_im hF (fun _ _ q => hx_UN q))
/-! what only asks, by itself -/
theorem zq_holL {p1 p2 : Int32} {k : Option Nat → vS → Option ((Option Nat) × vS)} (hk : ∀ x s, v_P (k x s) (fun _ t => t = s)) : ∀ (n : Nat) (w : Option Nat) (v : Int32) (s : vS), v_P (f_Ct_holder_L5 p1 p2 k n w v s) (fun _ t => t = s)
  | 0, _, _, _ => v_Pnone
  | n + 1, w, v, s => by
    show v_P (f_Ct_holder_L5b p1 p2 k (f_Ct_holder_L5 p1 p2 k n) w v s) _
    unfold f_Ct_holder_L5b
    repeat' first
      | with_reducible exact v_Pnone
      | ((with_reducible refine v_Pret ?_); (focus first | assumption | exact rfl))
      | with_reducible refine v_Pif (fun _ => ?_) (fun _ => ?_)
      | with_reducible refine v_Pon (fun _ => ?_) (fun _ _ => ?_)
      | with_reducible refine w_w1 (by assumption) (by first | assumption | (unfold hx_U; omega) | (unfold hx_N jb_k; omega)) (fun _ _ => ?_)
      | with_reducible refine w_w2 (by assumption) (by first | assumption | (unfold hx_U; omega) | (unfold hx_N jb_k; omega)) (fun _ _ => ?_)
      | with_reducible exact hk _ _
      | with_reducible exact zq_holL hk n _ _ _
      | ((with_reducible refine v_Pbi (v_PT (n_at ..)) ?_); rintro _ _ ⟨rfl, _⟩)
      | ((with_reducible refine v_Pbi (v_PT (n_isStanding ..)) ?_); rintro _ _ rfl)
      | ((with_reducible refine v_Pbi (v_PT (n_has ..)) ?_); rintro _ _ rfl)
      | ((with_reducible refine v_Pbi (v_PT (n_goesAhead ..)) ?_); rintro _ _ ⟨rfl, _⟩)
theorem zq_holder (b c : Int32) (s : vS) : v_P (f_Ct_holder b c s) (fun _ t => t = s) := by
  unfold f_Ct_holder
  refine zq_holL (fun x s => ?_) 4096 none 0 s
  repeat' first
    | with_reducible exact v_Pnone
    | ((with_reducible refine v_Pret ?_); (focus first | assumption | exact rfl))
    | with_reducible refine v_Pif (fun _ => ?_) (fun _ => ?_)
    | with_reducible refine v_Pon (fun _ => ?_) (fun _ _ => ?_)
    | with_reducible refine w_w1 (by assumption) (by first | assumption | (unfold hx_U; omega) | (unfold hx_N jb_k; omega)) (fun _ _ => ?_)
    | with_reducible refine w_w2 (by assumption) (by first | assumption | (unfold hx_U; omega) | (unfold hx_N jb_k; omega)) (fun _ _ => ?_)
theorem zq_verdictOf (o : Option Nat) (s : vS) : v_P (f_Ct_verdictOf o s) (fun _ t => t = s) := by
  unfold f_Ct_verdictOf
  repeat' first
    | with_reducible exact v_Pnone
    | ((with_reducible refine v_Pret ?_); (focus first | assumption | exact rfl))
    | with_reducible refine v_Pif (fun _ => ?_) (fun _ => ?_)
    | with_reducible refine v_Pon (fun _ => ?_) (fun _ _ => ?_)
    | with_reducible refine w_w1 (by assumption) (by first | assumption | (unfold hx_U; omega) | (unfold hx_N jb_k; omega)) (fun _ _ => ?_)
    | with_reducible refine w_w2 (by assumption) (by first | assumption | (unfold hx_U; omega) | (unfold hx_N jb_k; omega)) (fun _ _ => ?_)
theorem zq_verdictIn (b c : Int32) (s : vS) : v_P (f_Ct_verdictIn b c s) (fun _ t => t = s) := by
  unfold f_Ct_verdictIn
  repeat' first
    | with_reducible exact v_Pnone
    | ((with_reducible refine v_Pret ?_); (focus first | assumption | exact rfl))
    | with_reducible refine v_Pif (fun _ => ?_) (fun _ => ?_)
    | with_reducible refine v_Pon (fun _ => ?_) (fun _ _ => ?_)
    | with_reducible refine w_w1 (by assumption) (by first | assumption | (unfold hx_U; omega) | (unfold hx_N jb_k; omega)) (fun _ _ => ?_)
    | with_reducible refine w_w2 (by assumption) (by first | assumption | (unfold hx_U; omega) | (unfold hx_N jb_k; omega)) (fun _ _ => ?_)
    | ((with_reducible refine v_Pbi (zq_holder ..) ?_); rintro _ _ rfl)
    | ((with_reducible refine v_Pbi (zq_verdictOf ..) ?_); rintro _ _ rfl)
theorem zq_beatL {p : Nat} {q : Int32} {k : Int32 → vS → Option (Int32 × vS)} (hk : ∀ x s, v_P (k x s) (fun _ t => t = s)) : ∀ (n : Nat) (w v : Int32) (s : vS), v_P (f_Ct_beatenBy_L5 p q k n w v s) (fun _ t => t = s)
  | 0, _, _, _ => v_Pnone
  | n + 1, w, v, s => by
    show v_P (f_Ct_beatenBy_L5b p q k (f_Ct_beatenBy_L5 p q k n) w v s) _
    unfold f_Ct_beatenBy_L5b
    repeat' first
      | with_reducible exact v_Pnone
      | ((with_reducible refine v_Pret ?_); (focus first | assumption | exact rfl))
      | with_reducible refine v_Pif (fun _ => ?_) (fun _ => ?_)
      | with_reducible refine v_Pon (fun _ => ?_) (fun _ _ => ?_)
      | with_reducible refine w_w1 (by assumption) (by first | assumption | (unfold hx_U; omega) | (unfold hx_N jb_k; omega)) (fun _ _ => ?_)
      | with_reducible refine w_w2 (by assumption) (by first | assumption | (unfold hx_U; omega) | (unfold hx_N jb_k; omega)) (fun _ _ => ?_)
      | with_reducible exact hk _ _
      | with_reducible exact zq_beatL hk n _ _ _
      | ((with_reducible refine v_Pbi (v_PT (n_at ..)) ?_); rintro _ _ ⟨rfl, _⟩)
      | ((with_reducible refine v_Pbi (v_PT (n_isStanding ..)) ?_); rintro _ _ rfl)
      | ((with_reducible refine v_Pbi (v_PT (n_has ..)) ?_); rintro _ _ rfl)
theorem zq_beatenBy (b : Nat) (c : Int32) (s : vS) : v_P (f_Ct_beatenBy b c s) (fun _ t => t = s) := by
  unfold f_Ct_beatenBy
  refine zq_beatL (fun x s => ?_) 4096 0 0 s
  repeat' first
    | with_reducible exact v_Pnone
    | ((with_reducible refine v_Pret ?_); (focus first | assumption | exact rfl))
    | with_reducible refine v_Pif (fun _ => ?_) (fun _ => ?_)
    | with_reducible refine v_Pon (fun _ => ?_) (fun _ _ => ?_)
    | with_reducible refine w_w1 (by assumption) (by first | assumption | (unfold hx_U; omega) | (unfold hx_N jb_k; omega)) (fun _ _ => ?_)
    | with_reducible refine w_w2 (by assumption) (by first | assumption | (unfold hx_U; omega) | (unfold hx_N jb_k; omega)) (fun _ _ => ?_)
theorem zq_twos (a : Nat) (s : vS) : v_P (f_Sh_twos a s) (fun _ t => t = s) := v_Pret rfl
theorem zq_firstWrongL {p : Nat} {k1 : Int32 → vS → Option (Int32 × vS)} {k2 : vS → Option (Int32 × vS)} (hk1 : ∀ x s, v_P (k1 x s) (fun _ t => t = s)) (hk2 : ∀ s, v_P (k2 s) (fun _ t => t = s)) : ∀ (n : Nat) (v : Int32) (s : vS), v_P (f_Ct_firstWrong_L2 p k1 k2 n v s) (fun _ t => t = s)
  | 0, _, _ => v_Pnone
  | n + 1, v, s => by
    show v_P (f_Ct_firstWrong_L2b p k1 k2 (f_Ct_firstWrong_L2 p k1 k2 n) v s) _
    unfold f_Ct_firstWrong_L2b
    repeat' first
      | with_reducible exact v_Pnone
      | ((with_reducible refine v_Pret ?_); (focus first | assumption | exact rfl))
      | with_reducible refine v_Pif (fun _ => ?_) (fun _ => ?_)
      | with_reducible refine v_Pon (fun _ => ?_) (fun _ _ => ?_)
      | with_reducible refine w_w1 (by assumption) (by first | assumption | (unfold hx_U; omega) | (unfold hx_N jb_k; omega)) (fun _ _ => ?_)
      | with_reducible refine w_w2 (by assumption) (by first | assumption | (unfold hx_U; omega) | (unfold hx_N jb_k; omega)) (fun _ _ => ?_)
      | with_reducible exact hk1 _ _
      | with_reducible exact hk2 _
      | with_reducible exact zq_firstWrongL hk1 hk2 n _ _
      | ((with_reducible refine v_Pbi (zq_twos ..) ?_); rintro _ _ rfl)
      | ((with_reducible refine v_Pbi (v_PT (n_isTwo ..)) ?_); rintro _ _ rfl)
      | ((with_reducible refine v_Pbi (v_PT (n_placeOfTwo ..)) ?_); rintro _ _ rfl)
      | ((with_reducible refine v_Pbi (zq_verdictIn ..) ?_); rintro _ _ rfl)
      | ((with_reducible refine v_Pbi (v_PT (n_verdictOfTwo ..)) ?_); rintro _ _ rfl)
theorem zq_firstWrong (b : Nat) (s : vS) : v_P (f_Ct_firstWrong b s) (fun _ t => t = s) := by
  unfold f_Ct_firstWrong
  exact zq_firstWrongL (fun x s => v_Pret rfl) (fun s => v_Pret rfl) 4096 0 s
theorem zq_neverL {k : Int32 → vS → Option (Int32 × vS)} (hk : ∀ x s, v_P (k x s) (fun _ t => t = s)) : ∀ (n : Nat) (w v : Int32) (s : vS), v_P (f_Ol_never_L11 k n w v s) (fun _ t => t = s)
  | 0, _, _, _ => v_Pnone
  | n + 1, w, v, s => by
    show v_P (f_Ol_never_L11b k (f_Ol_never_L11 k n) w v s) _
    unfold f_Ol_never_L11b
    repeat' first
      | with_reducible exact v_Pnone
      | ((with_reducible refine v_Pret ?_); (focus first | assumption | exact rfl))
      | with_reducible refine v_Pif (fun _ => ?_) (fun _ => ?_)
      | with_reducible refine v_Pon (fun _ => ?_) (fun _ _ => ?_)
      | with_reducible refine w_w1 (by assumption) (by first | assumption | (unfold hx_U; omega) | (unfold hx_N jb_k; omega)) (fun _ _ => ?_)
      | with_reducible refine w_w2 (by assumption) (by first | assumption | (unfold hx_U; omega) | (unfold hx_N jb_k; omega)) (fun _ _ => ?_)
      | with_reducible exact hk _ _
      | with_reducible exact zq_neverL hk n _ _ _
      | ((with_reducible refine v_Pbi (zq_holder ..) ?_); rintro _ _ rfl)
theorem zq_allTwosL {p : Nat} {k : vS → Option (Int32 × vS)} (hk : ∀ s, v_P (k s) (fun _ t => t = s)) : ∀ (n : Nat) (v : Int32) (s : vS), v_P (f_Sh_isAllTwos_L2 p k n v s) (fun _ t => t = s)
  | 0, _, _ => v_Pnone
  | n + 1, v, s => by
    show v_P (f_Sh_isAllTwos_L2b p k (f_Sh_isAllTwos_L2 p k n) v s) _
    unfold f_Sh_isAllTwos_L2b
    repeat' first
      | with_reducible exact v_Pnone
      | ((with_reducible refine v_Pret ?_); (focus first | assumption | exact rfl))
      | with_reducible refine v_Pif (fun _ => ?_) (fun _ => ?_)
      | with_reducible refine v_Pon (fun _ => ?_) (fun _ _ => ?_)
      | with_reducible refine w_w1 (by assumption) (by first | assumption | (unfold hx_U; omega) | (unfold hx_N jb_k; omega)) (fun _ _ => ?_)
      | with_reducible refine w_w2 (by assumption) (by first | assumption | (unfold hx_U; omega) | (unfold hx_N jb_k; omega)) (fun _ _ => ?_)
      | with_reducible exact hk _
      | with_reducible exact zq_allTwosL hk n _ _
      | ((with_reducible refine v_Pbi (zq_twos ..) ?_); rintro _ _ rfl)
      | ((with_reducible refine v_Pbi (v_PT (n_isTwo ..)) ?_); rintro _ _ rfl)
theorem zq_allTwos (b : Nat) (s : vS) : v_P (f_Sh_isAllTwos b s) (fun _ t => t = s) := by
  unfold f_Sh_isAllTwos
  exact zq_allTwosL (fun s => v_Pret rfl) 4096 0 s
theorem zq_wouldHold (b : Int32) (o : Option Nat) (d : Int32) (s : vS) : v_P (f_Wd_wouldHold b o d s) (fun _ t => t = s) := by
  unfold f_Wd_wouldHold
  repeat' first
    | with_reducible exact v_Pnone
    | ((with_reducible refine v_Pret ?_); (focus first | assumption | exact rfl))
    | with_reducible refine v_Pif (fun _ => ?_) (fun _ => ?_)
    | with_reducible refine v_Pon (fun _ => ?_) (fun _ _ => ?_)
    | with_reducible refine w_w1 (by assumption) (by first | assumption | (unfold hx_U; omega) | (unfold hx_N jb_k; omega)) (fun _ _ => ?_)
    | with_reducible refine w_w2 (by assumption) (by first | assumption | (unfold hx_U; omega) | (unfold hx_N jb_k; omega)) (fun _ _ => ?_)
    | ((with_reducible refine v_Pbi (v_PT (n_has ..)) ?_); rintro _ _ rfl)
    | ((with_reducible refine v_Pbi (v_PT (n_goesAhead ..)) ?_); rintro _ _ ⟨rfl, _⟩)
theorem zq_fitsL {p : Nat} {k : vS → Option (Int32 × vS)} (hk : ∀ s, v_P (k s) (fun _ t => t = s)) : ∀ (n : Nat) (v : Int32) (s : vS), v_P (f_Wd_fits_L2 p k n v s) (fun _ t => t = s)
  | 0, _, _ => v_Pnone
  | n + 1, v, s => by
    show v_P (f_Wd_fits_L2b p k (f_Wd_fits_L2 p k n) v s) _
    unfold f_Wd_fits_L2b
    repeat' first
      | with_reducible exact v_Pnone
      | ((with_reducible refine v_Pret ?_); (focus first | assumption | exact rfl))
      | with_reducible refine v_Pif (fun _ => ?_) (fun _ => ?_)
      | with_reducible refine v_Pon (fun _ => ?_) (fun _ _ => ?_)
      | with_reducible refine w_w1 (by assumption) (by first | assumption | (unfold hx_U; omega) | (unfold hx_N jb_k; omega)) (fun _ _ => ?_)
      | with_reducible refine w_w2 (by assumption) (by first | assumption | (unfold hx_U; omega) | (unfold hx_N jb_k; omega)) (fun _ _ => ?_)
      | with_reducible exact hk _
      | with_reducible exact zq_fitsL hk n _ _
      | ((with_reducible refine v_Pbi (zq_twos ..) ?_); rintro _ _ rfl)
      | ((with_reducible refine v_Pbi (v_PT (n_at ..)) ?_); rintro _ _ ⟨rfl, _⟩)
      | ((with_reducible refine v_Pbi (v_PT (n_placeOfTwo ..)) ?_); rintro _ _ rfl)
      | ((with_reducible refine v_Pbi (zq_wouldHold ..) ?_); rintro _ _ rfl)
      | ((with_reducible refine v_Pbi (v_PT (n_verdictOfTwo ..)) ?_); rintro _ _ rfl)
      | ((with_reducible refine v_Pbi (zq_verdictOf ..) ?_); rintro _ _ rfl)
theorem zq_fits (b : Nat) (s : vS) : v_P (f_Wd_fits b s) (fun _ t => t = s) := by
  unfold f_Wd_fits
  exact zq_fitsL (fun s => v_Pret rfl) 4096 0 s
theorem zq_metBy (b : Int32) (s : vS) : v_P (f_Wd_metBy b s) (fun r t => t = s ∧ (78 ≤ r ∧ r ≤ 131)) := by
  unfold f_Wd_metBy
  refine v_Pif (fun _ => v_Pret ⟨rfl, by decide, by decide⟩) (fun h1 => v_Pif (fun _ => v_Pret ⟨rfl, by decide, by decide⟩) (fun h2 => v_Pif (fun _ => v_Pif (fun _ => v_Pret ⟨rfl, ?_⟩) (fun _ => v_Pnone)) (fun _ => v_Pnone)))
  rw [v_nc]
  omega
theorem zq_metIn (b : Int32) (h0 : 0 ≤ b.toInt) (h1 : b.toInt < 45) (s : vS) : v_P (f_Wd_metBy b s) (fun r t => t = s ∧ r = 87 + b.toInt.toNat) := by
  unfold f_Wd_metBy
  rw [if_neg (by omega), if_neg (by omega)]
  refine v_Pif (fun _ => v_Pif (fun _ => v_Pret ⟨rfl, ?_⟩) (fun _ => v_Pnone)) (fun _ => v_Pnone)
  rw [v_nc, Nat.one_mul]
/-! what touches a little -/
theorem w_Clear (a : Nat) (ha : hx_U a 0 ∧ hx_U a 1) (s : vS) : v_P (f_Cs_clear a s) (fun _ t => v_F hx_U s t) := by
  unfold f_Cs_clear
  exact w_w2 v_F_rf ha.1 (fun t ht => w_w2 ht ha.2 (fun u hu => v_Pret hu))
theorem w_Add (a : Nat) (ha : hx_U a 0 ∧ hx_U a 1) (b : Int32) (s : vS) : v_P (f_Cs_add a b s) (fun _ t => v_F hx_U s t) := by
  have h0 := ha.1
  have h1 := ha.2
  have hs : v_F hx_U s s := v_F_rf
  unfold f_Cs_add
  repeat' first
    | with_reducible exact v_Pnone
    | ((with_reducible refine v_Pret ?_); (focus first | assumption | exact rfl))
    | with_reducible refine v_Pif (fun _ => ?_) (fun _ => ?_)
    | with_reducible refine v_Pon (fun _ => ?_) (fun _ _ => ?_)
    | with_reducible refine w_w1 (by assumption) (by first | assumption | (unfold hx_U; omega) | (unfold hx_N jb_k; omega)) (fun _ _ => ?_)
    | with_reducible refine w_w2 (by assumption) (by first | assumption | (unfold hx_U; omega) | (unfold hx_N jb_k; omega)) (fun _ _ => ?_)
theorem w_TakeBoth (a b c : Nat) (ha : hx_U a 0 ∧ hx_U a 1) (s : vS) : v_P (f_Cs_takeBoth a b c s) (fun _ t => v_F hx_U s t) := by
  unfold f_Cs_takeBoth
  exact w_w2 v_F_rf ha.1 (fun t ht => w_w2 ht ha.2 (fun u hu => v_Pret hu))
theorem hx_138 : hx_U 138 0 ∧ hx_U 138 1 := by unfold hx_U; omega
theorem hx_83 : hx_U 83 0 ∧ hx_U 83 1 := by unfold hx_U; omega
theorem w_remL {s0 : vS} {k : vS → Option (Unit × vS)} (hk : ∀ t, v_F hx_U s0 t → v_P (k t) (fun _ u => v_F hx_U s0 u)) : ∀ (n : Nat) (v : Int32) (s : vS), v_F hx_U s0 s → v_P (f_Ct_rememberVerdicts_L2 k n v s) (fun _ u => v_F hx_U s0 u)
  | 0, _, _, _ => v_Pnone
  | n + 1, v, s, h => by
    show v_P (f_Ct_rememberVerdicts_L2b k (f_Ct_rememberVerdicts_L2 k n) v s) _
    unfold f_Ct_rememberVerdicts_L2b
    repeat' first
      | with_reducible exact v_Pnone
      | ((with_reducible refine v_Pret ?_); (focus first | assumption | exact rfl))
      | with_reducible refine v_Pif (fun _ => ?_) (fun _ => ?_)
      | with_reducible refine v_Pon (fun _ => ?_) (fun _ _ => ?_)
      | with_reducible refine w_w1 (by assumption) (by first | assumption | (unfold hx_U; omega) | (unfold hx_N jb_k; omega)) (fun _ _ => ?_)
      | with_reducible refine w_w2 (by assumption) (by first | assumption | (unfold hx_U; omega) | (unfold hx_N jb_k; omega)) (fun _ _ => ?_)
      | with_reducible exact hk _ (by assumption)
      | with_reducible exact w_remL hk n _ _ (by assumption)
      | ((with_reducible refine v_Pbi (zq_verdictIn ..) ?_); rintro _ _ rfl)
theorem w_remember (s : vS) : v_P (f_Ct_rememberVerdicts s) (fun _ t => v_F hx_U s t) := by
  unfold f_Ct_rememberVerdicts
  exact w_remL (fun t ht => v_Pret ht) 4096 0 s v_F_rf
theorem w_chgL {s0 : vS} {k : vS → Option (Unit × vS)} (hk : ∀ t, v_F hx_U s0 t → v_P (k t) (fun _ u => v_F hx_U s0 u)) : ∀ (n : Nat) (v : Int32) (s : vS), v_F hx_U s0 s → v_P (f_Ct_findChanged_L6 138 k n v s) (fun _ u => v_F hx_U s0 u)
  | 0, _, _, _ => v_Pnone
  | n + 1, v, s, h => by
    show v_P (f_Ct_findChanged_L6b 138 k (f_Ct_findChanged_L6 138 k n) v s) _
    unfold f_Ct_findChanged_L6b
    repeat' first
      | with_reducible exact v_Pnone
      | ((with_reducible refine v_Pret ?_); (focus first | assumption | exact rfl))
      | with_reducible refine v_Pif (fun _ => ?_) (fun _ => ?_)
      | with_reducible refine v_Pon (fun _ => ?_) (fun _ _ => ?_)
      | with_reducible refine w_w1 (by assumption) (by first | assumption | (unfold hx_U; omega) | (unfold hx_N jb_k; omega)) (fun _ _ => ?_)
      | with_reducible refine w_w2 (by assumption) (by first | assumption | (unfold hx_U; omega) | (unfold hx_N jb_k; omega)) (fun _ _ => ?_)
      | with_reducible exact hk _ (by assumption)
      | with_reducible exact w_chgL hk n _ _ (by assumption)
      | with_reducible refine w_b (by assumption) (w_Add 138 hx_138 ..) (fun _ _ _ => ?_)
      | ((with_reducible refine v_Pbi (zq_verdictIn ..) ?_); rintro _ _ rfl)
theorem w_changed (s : vS) : v_P (f_Ct_findChanged 138 s) (fun _ t => v_F hx_U s t) := by
  unfold f_Ct_findChanged
  exact v_Pbi (w_Clear 138 hx_138 s) (fun _ t ht => w_chgL (fun t ht => v_Pret ht) 4096 0 t ht)
theorem w_swL {s0 : vS} {p : Int32} {k : vS → Option (Unit × vS)} (hk : ∀ t, v_F hx_U s0 t → v_P (k t) (fun _ u => v_F hx_U s0 u)) : ∀ (n : Nat) (w v : Int32) (s : vS), v_F hx_U s0 s → v_P (f_Ct_standWithout_L19 p k n w v s) (fun _ u => v_F hx_U s0 u)
  | 0, _, _, _, _ => v_Pnone
  | n + 1, w, v, s, h => by
    show v_P (f_Ct_standWithout_L19b p k (f_Ct_standWithout_L19 p k n) w v s) _
    unfold f_Ct_standWithout_L19b
    repeat' first
      | with_reducible exact v_Pnone
      | ((with_reducible refine v_Pret ?_); (focus first | assumption | exact rfl))
      | with_reducible refine v_Pif (fun _ => ?_) (fun _ => ?_)
      | with_reducible refine v_Pon (fun _ => ?_) (fun _ _ => ?_)
      | with_reducible refine w_w1 (by assumption) (by first | assumption | (unfold hx_U; omega) | (unfold hx_N jb_k; omega)) (fun _ _ => ?_)
      | with_reducible refine w_w2 (by assumption) (by first | assumption | (unfold hx_U; omega) | (unfold hx_N jb_k; omega)) (fun _ _ => ?_)
      | with_reducible exact hk _ (by assumption)
      | with_reducible exact w_swL hk n _ _ _ (by assumption)
      | ((with_reducible refine v_Pbi (v_PT (n_at ..)) ?_); rintro _ _ ⟨rfl, _⟩)
theorem zq_thereL {k : Int32 → vS → Option (Int32 × vS)} (hk : ∀ x s, v_P (k x s) (fun _ t => t = s)) : ∀ (n : Nat) (w v : Int32) (s : vS), v_P (f_Ct_there_L4 k n w v s) (fun _ t => t = s)
  | 0, _, _, _ => v_Pnone
  | n + 1, w, v, s => by
    show v_P (f_Ct_there_L4b k (f_Ct_there_L4 k n) w v s) _
    unfold f_Ct_there_L4b
    repeat' first
      | with_reducible exact v_Pnone
      | ((with_reducible refine v_Pret ?_); (focus first | assumption | exact rfl))
      | with_reducible refine v_Pif (fun _ => ?_) (fun _ => ?_)
      | with_reducible refine v_Pon (fun _ => ?_) (fun _ _ => ?_)
      | with_reducible refine w_w1 (by assumption) (by first | assumption | (unfold hx_U; omega) | (unfold hx_N jb_k; omega)) (fun _ _ => ?_)
      | with_reducible refine w_w2 (by assumption) (by first | assumption | (unfold hx_U; omega) | (unfold hx_N jb_k; omega)) (fun _ _ => ?_)
      | with_reducible exact hk _ _
      | with_reducible exact zq_thereL hk n _ _ _
      | ((with_reducible refine v_Pbi (v_PT (n_isThere ..)) ?_); rintro _ _ ⟨rfl, _⟩)
theorem zq_there (s : vS) : v_P (f_Ct_there s) (fun _ t => t = s) := by
  unfold f_Ct_there
  exact zq_thereL (fun x s => v_Pret rfl) 4096 0 0 s
theorem w_standWithout (b : Int32) (s : vS) : v_P (f_Ct_standWithout b s) (fun _ t => v_F hx_U s t) := by
  have hs : v_F hx_U s s := v_F_rf
  unfold f_Ct_standWithout
  repeat' first
    | with_reducible exact v_Pnone
    | ((with_reducible refine v_Pret ?_); (focus first | assumption | exact rfl))
    | with_reducible refine v_Pif (fun _ => ?_) (fun _ => ?_)
    | with_reducible refine v_Pon (fun _ => ?_) (fun _ _ => ?_)
    | with_reducible refine w_w1 (by assumption) (by first | assumption | (unfold hx_U; omega) | (unfold hx_N jb_k; omega)) (fun _ _ => ?_)
    | with_reducible refine w_w2 (by assumption) (by first | assumption | (unfold hx_U; omega) | (unfold hx_N jb_k; omega)) (fun _ _ => ?_)
    | with_reducible exact w_swL (fun t ht => v_Pret ht) 4096 _ _ _ (by assumption)
    | ((with_reducible refine v_Pbi (zq_there ..) ?_); rintro _ _ rfl)
theorem w_unlL {s0 : vS} {p1 p2 : Int32} {k : vS → Option (Int32 × vS)} (hk : ∀ t, v_F hx_U s0 t → v_P (k t) (fun _ u => v_F hx_U s0 u)) : ∀ (n : Nat) (v : Int32) (s : vS), v_F hx_U s0 s → v_P (f_Ol_unlike_L49 p1 p2 k n v s) (fun _ u => v_F hx_U s0 u)
  | 0, _, _, _ => v_Pnone
  | n + 1, v, s, h => by
    show v_P (f_Ol_unlike_L49b p1 p2 k (f_Ol_unlike_L49 p1 p2 k n) v s) _
    unfold f_Ol_unlike_L49b
    repeat' first
      | with_reducible exact v_Pnone
      | ((with_reducible refine v_Pret ?_); (focus first | assumption | exact rfl))
      | with_reducible refine v_Pif (fun _ => ?_) (fun _ => ?_)
      | with_reducible refine v_Pon (fun _ => ?_) (fun _ _ => ?_)
      | with_reducible refine w_w1 (by assumption) (by first | assumption | (unfold hx_U; omega) | (unfold hx_N jb_k; omega)) (fun _ _ => ?_)
      | with_reducible refine w_w2 (by assumption) (by first | assumption | (unfold hx_U; omega) | (unfold hx_N jb_k; omega)) (fun _ _ => ?_)
      | with_reducible exact hk _ (by assumption)
      | with_reducible exact w_unlL hk n _ _ (by assumption)
      | with_reducible refine w_b (by assumption) (w_Add 138 hx_138 ..) (fun _ _ _ => ?_)
      | ((with_reducible refine v_Pbi (zq_verdictIn ..) ?_); rintro _ _ rfl)
theorem w_falL {s0 : vS} {p : Nat} {q : Int32} {k : Int32 → vS → Option (Int32 × vS)} (hk : ∀ x t, v_F hx_U s0 t → v_P (k x t) (fun _ u => v_F hx_U s0 u)) : ∀ (n : Nat) (x w v : Int32) (s : vS), v_F hx_U s0 s → v_P (f_Ol_falseOnes_L55 p q k n x w v s) (fun _ u => v_F hx_U s0 u)
  | 0, _, _, _, _, _ => v_Pnone
  | n + 1, x, w, v, s, h => by
    show v_P (f_Ol_falseOnes_L55b p q k (f_Ol_falseOnes_L55 p q k n) x w v s) _
    unfold f_Ol_falseOnes_L55b
    repeat' first
      | with_reducible exact v_Pnone
      | ((with_reducible refine v_Pret ?_); (focus first | assumption | exact rfl))
      | with_reducible refine v_Pif (fun _ => ?_) (fun _ => ?_)
      | with_reducible refine v_Pon (fun _ => ?_) (fun _ _ => ?_)
      | with_reducible refine w_w1 (by assumption) (by first | assumption | (unfold hx_U; omega) | (unfold hx_N jb_k; omega)) (fun _ _ => ?_)
      | with_reducible refine w_w2 (by assumption) (by first | assumption | (unfold hx_U; omega) | (unfold hx_N jb_k; omega)) (fun _ _ => ?_)
      | with_reducible exact hk _ _ (by assumption)
      | with_reducible exact w_falL hk n _ _ _ _ (by assumption)
      | ((with_reducible refine v_Pbi (v_PT (n_In ..)) ?_); rintro _ _ rfl)
      | with_reducible refine w_b (by assumption) (w_standWithout ..) (fun _ _ _ => ?_)
      | ((with_reducible refine v_Pbi (zq_firstWrong ..) ?_); rintro _ _ rfl)
theorem w_prL55 {s0 : vS} {p2 p5 p6 : Int32} {p7 : Nat} (h7 : hx_U p7 0 ∧ hx_U p7 1) {k : vS → Option (Unit × vS)} (hk : ∀ t, v_F hx_U s0 t → v_P (k t) (fun _ u => v_F hx_U s0 u)) : ∀ (n : Nat) (v : Int32) (s : vS), v_F hx_U s0 s → v_P (f_Wd_prepare_L55 p2 p5 p6 p7 k n v s) (fun _ u => v_F hx_U s0 u)
  | 0, _, _, _ => v_Pnone
  | n + 1, v, s, h => by
    show v_P (f_Wd_prepare_L55b p2 p5 p6 p7 k (f_Wd_prepare_L55 p2 p5 p6 p7 k n) v s) _
    unfold f_Wd_prepare_L55b
    repeat' first
      | with_reducible exact v_Pnone
      | ((with_reducible refine v_Pret ?_); (focus first | assumption | exact rfl))
      | with_reducible refine v_Pif (fun _ => ?_) (fun _ => ?_)
      | with_reducible refine v_Pon (fun _ => ?_) (fun _ _ => ?_)
      | with_reducible refine w_w1 (by assumption) (by first | assumption | (unfold hx_U; omega) | (unfold hx_N jb_k; omega)) (fun _ _ => ?_)
      | with_reducible refine w_w2 (by assumption) (by first | assumption | (unfold hx_U; omega) | (unfold hx_N jb_k; omega)) (fun _ _ => ?_)
      | with_reducible exact hk _ (by assumption)
      | with_reducible exact w_prL55 h7 hk n _ _ (by assumption)
      | with_reducible refine w_b (by assumption) (w_Add _ h7 ..) (fun _ _ _ => ?_)
      | ((with_reducible refine v_Pbi (v_PT (n_digit ..)) ?_); rintro _ _ rfl)
      | ((with_reducible refine v_Pbi (v_PT (n_compares ..)) ?_); rintro _ _ rfl)
theorem w_prL20 {s0 : vS} {p2 : Int32} {k : vS → Option (Unit × vS)} (hk : ∀ t, v_F hx_U s0 t → v_P (k t) (fun _ u => v_F hx_U s0 u)) : ∀ (n : Nat) (v : Int32) (s : vS), 0 ≤ v.toInt → v_F hx_U s0 s → v_P (f_Wd_prepare_L20 p2 k n v s) (fun _ u => v_F hx_U s0 u)
  | 0, _, _, _, _ => v_Pnone
  | n + 1, v, s, h0, h => by
    show v_P (f_Wd_prepare_L20b p2 k (f_Wd_prepare_L20 p2 k n) v s) _
    unfold f_Wd_prepare_L20b
    refine v_Pif (fun _ => hk s h) (fun h1 => ?_)
    have e1 := v_inc (x := v) (by omega)
    refine v_Pbi (v_PT (n_meaning ..)) ?_
    rintro x _ rfl
    refine v_Pbi (zq_metIn v h0 (by omega) _) ?_
    rintro r _ ⟨rfl, hr⟩
    have hr2 : hx_U r 0 ∧ hx_U r 1 := by unfold hx_U; omega
    refine v_Pif (fun _ => ?_) (fun _ => v_Pnone)
    exact w_b h (w_Clear r hr2 _) (fun _ t ht => w_prL55 hr2 (fun t ht => w_prL20 hk n _ t (by omega) ht) 4096 0 t ht)
theorem w_prepare (c d e : Int32) (s : vS) : v_P (f_Wd_prepare c d e s) (fun _ t => v_F hx_U s t) := by
  have hs : v_F hx_U s s := v_F_rf
  unfold f_Wd_prepare
  repeat' first
    | with_reducible exact v_Pnone
    | ((with_reducible refine v_Pret ?_); (focus first | assumption | exact rfl))
    | with_reducible refine v_Pif (fun _ => ?_) (fun _ => ?_)
    | with_reducible refine v_Pon (fun _ => ?_) (fun _ _ => ?_)
    | with_reducible refine w_w1 (by assumption) (by first | assumption | (unfold hx_U; omega) | (unfold hx_N jb_k; omega)) (fun _ _ => ?_)
    | with_reducible refine w_w2 (by assumption) (by first | assumption | (unfold hx_U; omega) | (unfold hx_N jb_k; omega)) (fun _ _ => ?_)
    | with_reducible exact w_prL20 (fun t ht => v_Pret ht) 4096 0 _ (by decide) (by assumption)
theorem w_word (s : vS) : v_P (f_Wd_word s) (fun _ t => v_F hx_U s t) := by
  have hs : v_F hx_U s s := v_F_rf
  unfold f_Wd_word
  repeat' first
    | with_reducible exact v_Pnone
    | ((with_reducible refine v_Pret ?_); (focus first | assumption | exact rfl))
    | with_reducible refine v_Pif (fun _ => ?_) (fun _ => ?_)
    | with_reducible refine v_Pon (fun _ => ?_) (fun _ _ => ?_)
    | with_reducible refine w_w1 (by assumption) (by first | assumption | (unfold hx_U; omega) | (unfold hx_N jb_k; omega)) (fun _ _ => ?_)
    | with_reducible refine w_w2 (by assumption) (by first | assumption | (unfold hx_U; omega) | (unfold hx_N jb_k; omega)) (fun _ _ => ?_)
    | with_reducible refine w_b (by assumption) (w_TakeBoth 83 _ _ hx_83 _) (fun _ _ _ => ?_)
    | ((with_reducible refine v_Pbi (zq_metBy ..) ?_); rintro _ _ ⟨rfl, _⟩)
theorem w_begin (s : vS) : v_P (f_Wd_begin s) (fun _ t => v_F hx_U s t) := by
  have hs : v_F hx_U s s := v_F_rf
  unfold f_Wd_begin
  repeat' first
    | with_reducible exact v_Pnone
    | ((with_reducible refine v_Pret ?_); (focus first | assumption | exact rfl))
    | with_reducible refine v_Pif (fun _ => ?_) (fun _ => ?_)
    | with_reducible refine v_Pon (fun _ => ?_) (fun _ _ => ?_)
    | with_reducible refine w_w1 (by assumption) (by first | assumption | (unfold hx_U; omega) | (unfold hx_N jb_k; omega)) (fun _ _ => ?_)
    | with_reducible refine w_w2 (by assumption) (by first | assumption | (unfold hx_U; omega) | (unfold hx_N jb_k; omega)) (fun _ _ => ?_)
    | with_reducible refine w_b (by assumption) (w_word ..) (fun _ _ _ => ?_)
theorem w_goOn (s : vS) : v_P (f_Wd_goOn s) (fun _ t => v_F hx_U s t) := by
  have hs : v_F hx_U s s := v_F_rf
  unfold f_Wd_goOn
  repeat' first
    | with_reducible exact v_Pnone
    | ((with_reducible refine v_Pret ?_); (focus first | assumption | exact rfl))
    | with_reducible refine v_Pif (fun _ => ?_) (fun _ => ?_)
    | with_reducible refine v_Pon (fun _ => ?_) (fun _ _ => ?_)
    | with_reducible refine w_w1 (by assumption) (by first | assumption | (unfold hx_U; omega) | (unfold hx_N jb_k; omega)) (fun _ _ => ?_)
    | with_reducible refine w_w2 (by assumption) (by first | assumption | (unfold hx_U; omega) | (unfold hx_N jb_k; omega)) (fun _ _ => ?_)
    | with_reducible refine w_b (by assumption) (w_word ..) (fun _ _ _ => ?_)
theorem w_ffL66 {s0 : vS} {p : Nat} {k : vS → Option (Int32 × vS)} (hk : ∀ t, v_F hx_U s0 t → v_P (k t) (fun _ u => v_F hx_U s0 u)) : ∀ (n : Nat) (v : Int32) (s : vS), v_F hx_U s0 s → v_P (f_Wd_firstFitting_L66 p k n v s) (fun _ u => v_F hx_U s0 u)
  | 0, _, _, _ => v_Pnone
  | n + 1, v, s, h => by
    show v_P (f_Wd_firstFitting_L66b p k (f_Wd_firstFitting_L66 p k n) v s) _
    unfold f_Wd_firstFitting_L66b
    repeat' first
      | with_reducible exact v_Pnone
      | ((with_reducible refine v_Pret ?_); (focus first | assumption | exact rfl))
      | with_reducible refine v_Pif (fun _ => ?_) (fun _ => ?_)
      | with_reducible refine v_Pon (fun _ => ?_) (fun _ _ => ?_)
      | with_reducible refine w_w1 (by assumption) (by first | assumption | (unfold hx_U; omega) | (unfold hx_N jb_k; omega)) (fun _ _ => ?_)
      | with_reducible refine w_w2 (by assumption) (by first | assumption | (unfold hx_U; omega) | (unfold hx_N jb_k; omega)) (fun _ _ => ?_)
      | with_reducible exact hk _ (by assumption)
      | with_reducible exact w_ffL66 hk n _ _ (by assumption)
      | ((with_reducible refine v_Pbi (zq_fits ..) ?_); rintro _ _ rfl)
      | with_reducible refine w_b (by assumption) (w_goOn ..) (fun _ _ _ => ?_)
      | ((with_reducible refine v_Pbi (v_PT (n_number ..)) ?_); rintro _ _ rfl)
theorem w_ffL2 {s0 : vS} {p : Nat} {k : vS → Option (Int32 × vS)} (hk : ∀ t, v_F hx_U s0 t → v_P (k t) (fun _ u => v_F hx_U s0 u)) : ∀ (n : Nat) (v : Int32) (s : vS), v_F hx_U s0 s → v_P (f_Wd_firstFitting_L2 p k n v s) (fun _ u => v_F hx_U s0 u)
  | 0, _, _, _ => v_Pnone
  | n + 1, v, s, h => by
    show v_P (f_Wd_firstFitting_L2b p k (f_Wd_firstFitting_L2 p k n) v s) _
    unfold f_Wd_firstFitting_L2b
    repeat' first
      | with_reducible exact v_Pnone
      | ((with_reducible refine v_Pret ?_); (focus first | assumption | exact rfl))
      | with_reducible refine v_Pif (fun _ => ?_) (fun _ => ?_)
      | with_reducible refine v_Pon (fun _ => ?_) (fun _ _ => ?_)
      | with_reducible refine w_w1 (by assumption) (by first | assumption | (unfold hx_U; omega) | (unfold hx_N jb_k; omega)) (fun _ _ => ?_)
      | with_reducible refine w_w2 (by assumption) (by first | assumption | (unfold hx_U; omega) | (unfold hx_N jb_k; omega)) (fun _ _ => ?_)
      | with_reducible exact hk _ (by assumption)
      | with_reducible exact w_ffL2 hk n _ _ (by assumption)
      | ((with_reducible refine v_Pbi (zq_twos ..) ?_); rintro _ _ rfl)
      | ((with_reducible refine v_Pbi (v_PT (n_placeOfTwo ..)) ?_); rintro _ _ rfl)
      | ((with_reducible refine v_Pbi (zq_holder ..) ?_); rintro _ _ rfl)
theorem w_firstFitting (b : Nat) (s : vS) : v_P (f_Wd_firstFitting b s) (fun _ t => v_F hx_U s t) := by
  unfold f_Wd_firstFitting
  exact w_ffL2 (fun t ht => w_b ht (w_begin t) (fun _ u hu => w_ffL66 (fun t ht => v_Pret ht) 4096 0 u hu)) 4096 0 s v_F_rf
theorem w_mhL {s0 : vS} {p1 p3 : Int32} {p2 : Option Nat} {k : vS → Option (Int32 × vS)} (hk : ∀ t, v_F hx_U s0 t → v_P (k t) (fun _ u => v_F hx_U s0 u)) : ∀ (n : Nat) (v : Int32) (s : vS), v_F hx_U s0 s → v_P (f_Wd_mightHold_L7 p1 p2 p3 k n v s) (fun _ u => v_F hx_U s0 u)
  | 0, _, _, _ => v_Pnone
  | n + 1, v, s, h => by
    show v_P (f_Wd_mightHold_L7b p1 p2 p3 k (f_Wd_mightHold_L7 p1 p2 p3 k n) v s) _
    unfold f_Wd_mightHold_L7b
    repeat' first
      | with_reducible exact v_Pnone
      | ((with_reducible refine v_Pret ?_); (focus first | assumption | exact rfl))
      | with_reducible refine v_Pif (fun _ => ?_) (fun _ => ?_)
      | with_reducible refine v_Pon (fun _ => ?_) (fun _ _ => ?_)
      | with_reducible refine w_w1 (by assumption) (by first | assumption | (unfold hx_U; omega) | (unfold hx_N jb_k; omega)) (fun _ _ => ?_)
      | with_reducible refine w_w2 (by assumption) (by first | assumption | (unfold hx_U; omega) | (unfold hx_N jb_k; omega)) (fun _ _ => ?_)
      | with_reducible exact hk _ (by assumption)
      | with_reducible exact w_mhL hk n _ _ (by assumption)
      | ((with_reducible refine v_Pbi (zq_wouldHold ..) ?_); rintro _ _ rfl)
      | with_reducible refine w_b (by assumption) (w_goOn ..) (fun _ _ _ => ?_)
theorem w_mightHold (b : Int32) (c : Option Nat) (d : Int32) (s : vS) : v_P (f_Wd_mightHold b c d s) (fun _ t => v_F hx_U s t) := by
  unfold f_Wd_mightHold
  exact v_Pbi (w_begin s) (fun _ t ht => w_mhL (fun t ht => v_Pret ht) 4096 0 t ht)
theorem w_isBarred (b : Nat) (c : Int32) (d : Option Nat) (e : Int32) (s : vS) : v_P (f_Wd_isBarred b c d e s) (fun _ t => v_F hx_U s t) := by
  have hs : v_F hx_U s s := v_F_rf
  unfold f_Wd_isBarred
  repeat' first
    | with_reducible exact v_Pnone
    | ((with_reducible refine v_Pret ?_); (focus first | assumption | exact rfl))
    | with_reducible refine v_Pif (fun _ => ?_) (fun _ => ?_)
    | with_reducible refine v_Pon (fun _ => ?_) (fun _ _ => ?_)
    | with_reducible refine w_w1 (by assumption) (by first | assumption | (unfold hx_U; omega) | (unfold hx_N jb_k; omega)) (fun _ _ => ?_)
    | with_reducible refine w_w2 (by assumption) (by first | assumption | (unfold hx_U; omega) | (unfold hx_N jb_k; omega)) (fun _ _ => ?_)
    | ((with_reducible refine v_Pbi (v_PT (n_verdictOfTwo ..)) ?_); rintro _ _ rfl)
    | ((with_reducible refine v_Pbi (zq_verdictOf ..) ?_); rintro _ _ rfl)
    | ((with_reducible refine v_Pbi (v_PT (n_placeOfTwo ..)) ?_); rintro _ _ rfl)
    | with_reducible refine w_b (by assumption) (w_mightHold ..) (fun _ _ _ => ?_)
theorem w_barL {s0 : vS} {p : Nat} {k : vS → Option ((Option Nat) × vS)} (hk : ∀ t, v_F hx_U s0 t → v_P (k t) (fun _ u => v_F hx_U s0 u)) : ∀ (n : Nat) (v : Int32) (s : vS), v_F hx_U s0 s → v_P (f_Wd_barring_L2 p k n v s) (fun _ u => v_F hx_U s0 u)
  | 0, _, _, _ => v_Pnone
  | n + 1, v, s, h => by
    show v_P (f_Wd_barring_L2b p k (f_Wd_barring_L2 p k n) v s) _
    unfold f_Wd_barring_L2b
    repeat' first
      | with_reducible exact v_Pnone
      | ((with_reducible refine v_Pret ?_); (focus first | assumption | exact rfl))
      | with_reducible refine v_Pif (fun _ => ?_) (fun _ => ?_)
      | with_reducible refine v_Pon (fun _ => ?_) (fun _ _ => ?_)
      | with_reducible refine w_w1 (by assumption) (by first | assumption | (unfold hx_U; omega) | (unfold hx_N jb_k; omega)) (fun _ _ => ?_)
      | with_reducible refine w_w2 (by assumption) (by first | assumption | (unfold hx_U; omega) | (unfold hx_N jb_k; omega)) (fun _ _ => ?_)
      | with_reducible exact hk _ (by assumption)
      | with_reducible exact w_barL hk n _ _ (by assumption)
      | ((with_reducible refine v_Pbi (zq_twos ..) ?_); rintro _ _ rfl)
      | ((with_reducible refine v_Pbi (v_PT (n_isTwo ..)) ?_); rintro _ _ rfl)
      | ((with_reducible refine v_Pbi (v_PT (n_placeOfTwo ..)) ?_); rintro _ _ rfl)
      | ((with_reducible refine v_Pbi (zq_holder ..) ?_); rintro _ _ rfl)
      | with_reducible refine w_b (by assumption) (w_isBarred ..) (fun _ _ _ => ?_)
theorem w_barring (b : Nat) (s : vS) : v_P (f_Wd_barring b s) (fun _ t => v_F hx_U s t) := by
  unfold f_Wd_barring
  exact w_barL (fun t ht => v_Pret ht) 4096 0 s v_F_rf
