/-! what a text gives: one meaning for both sides -/
def e_two (c a b : Int32) : Int32 := if c.toInt = 37 then (if b.toInt = 0 then 0 else a - a / b * b) else if c.toInt = 38 then (if a.toInt = 0 then 0 else if b.toInt = 0 then 0 else 1) else if c.toInt = 42 then a * b else if c.toInt = 43 then a + b else if c.toInt = 45 then a - b else if c.toInt = 47 then (if b.toInt = 0 then 0 else a / b) else if c.toInt = 60 then (if b.toInt ≤ a.toInt then 0 else 1) else if c.toInt = 61 then (if a.toInt = b.toInt then 1 else 0) else if c.toInt = 62 then (if a.toInt ≤ b.toInt then 0 else 1) else (if a.toInt = 0 then (if b.toInt = 0 then 0 else 1) else 1)
/-- a token on a pile, whose top is ahead -/
def e_tk (F : Nat → Int32) (q : Int32 × Int32) (p : List Int32) : List Int32 :=
  if q.1.toInt = 1 then q.2 :: p
  else if q.1.toInt = 2 then F q.2.toInt.toNat :: p
  else if q.1.toInt = 3 then (match p with | a :: r => (if a.toInt = 0 then 1 else 0) :: r | [] => [])
  else if q.1.toInt = 4 then (match p with | a :: r => (-a) :: r | [] => [])
  else (match p with | b :: a :: r => e_two q.1 a b :: r | r => r)
def e_rn (F : Nat → Int32) : List (Int32 × Int32) → List Int32 → List Int32
  | [], p => p
  | q :: l, p => e_rn F l (e_tk F q p)
def e_top (F : Nat → Int32) (l : List (Int32 × Int32)) : Int32 := (e_rn F l []).headD 0
def e_tx (F : Nat → Int32) : List gL → Int32
  | [] => 0
  | ln :: r => if ln.1 = [] ∨ ¬ (e_top F ln.1).toInt = 0 then e_top F ln.2 else e_tx F r
/-- how deep the pile is -/
theorem e_tk_len {F : Nat → Int32} {q : Int32 × Int32} {p : List Int32} {d : Nat} (h : r_st q p.length = some d) : (e_tk F q p).length = d := by
  unfold r_st at h
  unfold e_tk
  by_cases h1 : q.1.toInt = 1
  · rw [if_pos h1] at h ⊢
    by_cases z : 0 ≤ q.2.toInt ∧ q.2.toInt < 10000
    · rw [if_pos z] at h; cases h; rfl
    · rw [if_neg z] at h; cases h
  · rw [if_neg h1] at h ⊢
    by_cases h2 : q.1.toInt = 2
    · rw [if_pos h2] at h ⊢
      by_cases z : 0 ≤ q.2.toInt ∧ q.2.toInt < 6
      · rw [if_pos z] at h; cases h; rfl
      · rw [if_neg z] at h; cases h
    · rw [if_neg h2] at h ⊢
      by_cases h3 : q.1.toInt = 3 ∨ q.1.toInt = 4
      · rw [if_pos h3] at h
        cases p with
        | nil => cases h
        | cons a r =>
          rw [if_pos (by show 1 ≤ r.length + 1; omega)] at h
          cases h
          by_cases h4 : q.1.toInt = 3
          · rw [if_pos h4]; rfl
          · rw [if_neg h4, if_pos (h3.resolve_left h4)]; rfl
      · rw [if_neg h3] at h
        rw [if_neg (fun z => h3 (Or.inl z)), if_neg (fun z => h3 (Or.inr z))]
        cases p with
        | nil => rw [if_neg (fun z => absurd z.1 (by show ¬ 2 ≤ 0; omega))] at h; cases h
        | cons b r =>
          cases r with
          | nil => rw [if_neg (fun z => absurd z.1 (by show ¬ 2 ≤ 1; omega))] at h; cases h
          | cons a r =>
            by_cases z : 2 ≤ (b :: a :: r).length ∧ 5 ≤ q.1.toInt ∧ q.1.toInt < 127
            · rw [if_pos z] at h; cases h; rfl
            · rw [if_neg z] at h; cases h
/-- a pile in a row: its bottom at 0 -/
def e_pl (f : Nat → Int32) (p : List Int32) : Prop := ∀ i x, p[i]? = some x → f (p.length - 1 - i) = x
theorem e_pl_nil {f : Nat → Int32} : e_pl f [] := fun i x h => by simp at h
theorem e_pl_push {f g : Nat → Int32} {p : List Int32} {x : Int32} (h : e_pl f p) (h1 : g p.length = x) (h2 : ∀ j, j < p.length → g j = f j) : e_pl g (x :: p) := fun i y hy => by
  cases i with
  | zero =>
    show g (p.length + 1 - 1 - 0) = y
    rw [show p.length + 1 - 1 - 0 = p.length by omega, h1]
    exact Option.some.inj hy
  | succ i =>
    have hi := (List.getElem?_eq_some_iff.mp (show p[i]? = some y from hy)).1
    show g (p.length + 1 - 1 - (i + 1)) = y
    rw [h2 _ (by omega), show p.length + 1 - 1 - (i + 1) = p.length - 1 - i by omega]
    exact h i y hy
theorem e_pl_top {f : Nat → Int32} {p : List Int32} {a : Int32} (h : e_pl f (a :: p)) : f p.length = a := by
  have h1 := h 0 a rfl
  rw [show (a :: p).length - 1 - 0 = p.length from by show p.length + 1 - 1 - 0 = _; omega] at h1
  exact h1
theorem e_pl_tl {f : Nat → Int32} {p : List Int32} {a : Int32} (h : e_pl f (a :: p)) : e_pl f p := fun i x hx => by
  have hi := (List.getElem?_eq_some_iff.mp hx).1
  have h1 := h (i + 1) x hx
  rw [show (a :: p).length - 1 - (i + 1) = p.length - 1 - i from by show p.length + 1 - 1 - (i + 1) = _; omega] at h1
  exact h1
theorem e_pl_eq {f g : Nat → Int32} {p : List Int32} (h : e_pl f p) (h2 : ∀ j, j < p.length → g j = f j) : e_pl g p := fun i x hx => by
  have hi := (List.getElem?_eq_some_iff.mp hx).1
  rw [h2 _ (by omega)]
  exact h i x hx
/-! division by -1 -/
theorem i32_dm {a : Int32} : a / (-1) = -a := by
  apply Int32.toInt_inj.mp
  have e1 : (-1 : Int32).toInt = -1 := rfl
  rw [Int32.toInt_div, e1, Int32.toInt_neg, Int.tdiv_neg, Int.tdiv_one]
theorem i32_mm {a : Int32} : a - a / (-1) * (-1) = 0 := by
  rw [i32_dm]
  have h : (-a) * (-1) = a := by
    apply Int32.toBitVec_inj.mp
    rw [Int32.toBitVec_mul, Int32.toBitVec_neg]
    show (-a.toBitVec) * (-1#32) = a.toBitVec
    rw [BitVec.mul_neg, BitVec.mul_one, BitVec.neg_neg]
  rw [h, Int32.sub_self]
theorem e_two37 {c a b : Int32} (h : c.toInt = 37) : e_two c a b = (if b.toInt = 0 then 0 else a - a / b * b) := by
  unfold e_two
  rw [if_pos h]
theorem e_two38 {c a b : Int32} (h : c.toInt = 38) : e_two c a b = (if a.toInt = 0 then 0 else if b.toInt = 0 then 0 else 1) := by
  unfold e_two
  rw [if_neg (show ¬ c.toInt = 37 by omega), if_pos h]
theorem e_two42 {c a b : Int32} (h : c.toInt = 42) : e_two c a b = a * b := by
  unfold e_two
  rw [if_neg (show ¬ c.toInt = 37 by omega), if_neg (show ¬ c.toInt = 38 by omega), if_pos h]
theorem e_two43 {c a b : Int32} (h : c.toInt = 43) : e_two c a b = a + b := by
  unfold e_two
  rw [if_neg (show ¬ c.toInt = 37 by omega), if_neg (show ¬ c.toInt = 38 by omega), if_neg (show ¬ c.toInt = 42 by omega), if_pos h]
theorem e_two45 {c a b : Int32} (h : c.toInt = 45) : e_two c a b = a - b := by
  unfold e_two
  rw [if_neg (show ¬ c.toInt = 37 by omega), if_neg (show ¬ c.toInt = 38 by omega), if_neg (show ¬ c.toInt = 42 by omega), if_neg (show ¬ c.toInt = 43 by omega), if_pos h]
theorem e_two47 {c a b : Int32} (h : c.toInt = 47) : e_two c a b = (if b.toInt = 0 then 0 else a / b) := by
  unfold e_two
  rw [if_neg (show ¬ c.toInt = 37 by omega), if_neg (show ¬ c.toInt = 38 by omega), if_neg (show ¬ c.toInt = 42 by omega), if_neg (show ¬ c.toInt = 43 by omega), if_neg (show ¬ c.toInt = 45 by omega), if_pos h]
theorem e_two60 {c a b : Int32} (h : c.toInt = 60) : e_two c a b = (if b.toInt ≤ a.toInt then 0 else 1) := by
  unfold e_two
  rw [if_neg (show ¬ c.toInt = 37 by omega), if_neg (show ¬ c.toInt = 38 by omega), if_neg (show ¬ c.toInt = 42 by omega), if_neg (show ¬ c.toInt = 43 by omega), if_neg (show ¬ c.toInt = 45 by omega), if_neg (show ¬ c.toInt = 47 by omega), if_pos h]
theorem e_two61 {c a b : Int32} (h : c.toInt = 61) : e_two c a b = (if a.toInt = b.toInt then 1 else 0) := by
  unfold e_two
  rw [if_neg (show ¬ c.toInt = 37 by omega), if_neg (show ¬ c.toInt = 38 by omega), if_neg (show ¬ c.toInt = 42 by omega), if_neg (show ¬ c.toInt = 43 by omega), if_neg (show ¬ c.toInt = 45 by omega), if_neg (show ¬ c.toInt = 47 by omega), if_neg (show ¬ c.toInt = 60 by omega), if_pos h]
theorem e_two62 {c a b : Int32} (h : c.toInt = 62) : e_two c a b = (if a.toInt ≤ b.toInt then 0 else 1) := by
  unfold e_two
  rw [if_neg (show ¬ c.toInt = 37 by omega), if_neg (show ¬ c.toInt = 38 by omega), if_neg (show ¬ c.toInt = 42 by omega), if_neg (show ¬ c.toInt = 43 by omega), if_neg (show ¬ c.toInt = 45 by omega), if_neg (show ¬ c.toInt = 47 by omega), if_neg (show ¬ c.toInt = 60 by omega), if_neg (show ¬ c.toInt = 61 by omega), if_pos h]
theorem e_two124 {c a b : Int32} (h : c.toInt = 124) : e_two c a b = (if a.toInt = 0 then (if b.toInt = 0 then 0 else 1) else 1) := by
  unfold e_two
  rw [if_neg (show ¬ c.toInt = 37 by omega), if_neg (show ¬ c.toInt = 38 by omega), if_neg (show ¬ c.toInt = 42 by omega), if_neg (show ¬ c.toInt = 43 by omega), if_neg (show ¬ c.toInt = 45 by omega), if_neg (show ¬ c.toInt = 47 by omega), if_neg (show ¬ c.toInt = 60 by omega), if_neg (show ¬ c.toInt = 61 by omega), if_neg (show ¬ c.toInt = 62 by omega)]
/-- the reference's sign -/
theorem y_twoOf (c a b : Int32) (t : vS) (hc : t_ok (c, 0) ∧ 5 ≤ c.toInt) : v_P (f_Md_twoOf c a b t) (fun r u => u = t ∧ r = e_two c a b) := by
  obtain ⟨hc, hc5⟩ := hc
  unfold t_ok at hc
  dsimp only at hc
  unfold f_Md_twoOf
  rcases (show c.toInt = 37 ∨ c.toInt = 38 ∨ c.toInt = 42 ∨ c.toInt = 43 ∨ c.toInt = 45 ∨ c.toInt = 47 ∨ c.toInt = 60 ∨ c.toInt = 61 ∨ c.toInt = 62 ∨ c.toInt = 124 by omega) with h | h | h | h | h | h | h | h | h | h
  · rw [e_two37 h, if_neg (show ¬ (c.toInt < 37 ∨ 62 < c.toInt) by omega), if_pos h]
    by_cases h0 : b.toInt = 0
    · rw [if_pos h0, if_pos h0]; exact v_Pret ⟨rfl, rfl⟩
    · rw [if_neg h0, if_neg h0]
      by_cases h1 : b.toInt = -1
      · rw [if_pos h1]
        have e : b = -1 := Int32.toInt_inj.mp h1
        rw [e, i32_mm]
        exact v_Pret ⟨rfl, rfl⟩
      · rw [if_neg h1]
        exact v_Pif (fun _ => v_Pret ⟨rfl, rfl⟩) (fun _ => v_Pnone)
  · rw [e_two38 h, if_neg (show ¬ (c.toInt < 37 ∨ 62 < c.toInt) by omega), if_neg (show ¬ c.toInt = 37 by omega), if_pos h]
    by_cases h0 : a.toInt = 0
    · rw [if_pos h0, if_pos h0]; exact v_Pret ⟨rfl, rfl⟩
    · rw [if_neg h0, if_neg h0]
      by_cases h1 : b.toInt = 0
      · rw [if_pos h1, if_pos h1]; exact v_Pret ⟨rfl, rfl⟩
      · rw [if_neg h1, if_neg h1]; exact v_Pret ⟨rfl, rfl⟩
  · rw [e_two42 h, if_neg (show ¬ (c.toInt < 37 ∨ 62 < c.toInt) by omega), if_neg (show ¬ c.toInt = 37 by omega), if_neg (show ¬ c.toInt = 38 by omega), if_neg (show ¬ c.toInt = 39 by omega), if_neg (show ¬ c.toInt = 40 by omega), if_neg (show ¬ c.toInt = 41 by omega), if_pos h]
    exact v_Pret ⟨rfl, rfl⟩
  · rw [e_two43 h, if_neg (show ¬ (c.toInt < 37 ∨ 62 < c.toInt) by omega), if_neg (show ¬ c.toInt = 37 by omega), if_neg (show ¬ c.toInt = 38 by omega), if_neg (show ¬ c.toInt = 39 by omega), if_neg (show ¬ c.toInt = 40 by omega), if_neg (show ¬ c.toInt = 41 by omega), if_neg (show ¬ c.toInt = 42 by omega), if_pos h]
    exact v_Pret ⟨rfl, rfl⟩
  · rw [e_two45 h, if_neg (show ¬ (c.toInt < 37 ∨ 62 < c.toInt) by omega), if_neg (show ¬ c.toInt = 37 by omega), if_neg (show ¬ c.toInt = 38 by omega), if_neg (show ¬ c.toInt = 39 by omega), if_neg (show ¬ c.toInt = 40 by omega), if_neg (show ¬ c.toInt = 41 by omega), if_neg (show ¬ c.toInt = 42 by omega), if_neg (show ¬ c.toInt = 43 by omega), if_neg (show ¬ c.toInt = 44 by omega), if_pos h]
    exact v_Pret ⟨rfl, rfl⟩
  · rw [e_two47 h, if_neg (show ¬ (c.toInt < 37 ∨ 62 < c.toInt) by omega), if_neg (show ¬ c.toInt = 37 by omega), if_neg (show ¬ c.toInt = 38 by omega), if_neg (show ¬ c.toInt = 39 by omega), if_neg (show ¬ c.toInt = 40 by omega), if_neg (show ¬ c.toInt = 41 by omega), if_neg (show ¬ c.toInt = 42 by omega), if_neg (show ¬ c.toInt = 43 by omega), if_neg (show ¬ c.toInt = 44 by omega), if_neg (show ¬ c.toInt = 45 by omega), if_neg (show ¬ c.toInt = 46 by omega), if_pos h]
    by_cases h0 : b.toInt = 0
    · rw [if_pos h0, if_pos h0]; exact v_Pret ⟨rfl, rfl⟩
    · rw [if_neg h0, if_neg h0]
      by_cases h1 : b.toInt = -1
      · rw [if_pos h1]
        have e : b = -1 := Int32.toInt_inj.mp h1
        rw [e, i32_dm]
        exact v_Pret ⟨rfl, rfl⟩
      · rw [if_neg h1]
        exact v_Pif (fun _ => v_Pret ⟨rfl, rfl⟩) (fun _ => v_Pnone)
  · rw [e_two60 h, if_neg (show ¬ (c.toInt < 37 ∨ 62 < c.toInt) by omega), if_neg (show ¬ c.toInt = 37 by omega), if_neg (show ¬ c.toInt = 38 by omega), if_neg (show ¬ c.toInt = 39 by omega), if_neg (show ¬ c.toInt = 40 by omega), if_neg (show ¬ c.toInt = 41 by omega), if_neg (show ¬ c.toInt = 42 by omega), if_neg (show ¬ c.toInt = 43 by omega), if_neg (show ¬ c.toInt = 44 by omega), if_neg (show ¬ c.toInt = 45 by omega), if_neg (show ¬ c.toInt = 46 by omega), if_neg (show ¬ c.toInt = 47 by omega), if_neg (show ¬ c.toInt = 48 by omega), if_neg (show ¬ c.toInt = 49 by omega), if_neg (show ¬ c.toInt = 50 by omega), if_neg (show ¬ c.toInt = 51 by omega), if_neg (show ¬ c.toInt = 52 by omega), if_neg (show ¬ c.toInt = 53 by omega), if_neg (show ¬ c.toInt = 54 by omega), if_neg (show ¬ c.toInt = 55 by omega), if_neg (show ¬ c.toInt = 56 by omega), if_neg (show ¬ c.toInt = 57 by omega), if_neg (show ¬ c.toInt = 58 by omega), if_neg (show ¬ c.toInt = 59 by omega), if_pos h]
    by_cases h0 : b.toInt ≤ a.toInt
    · rw [if_pos h0, if_pos h0]; exact v_Pret ⟨rfl, rfl⟩
    · rw [if_neg h0, if_neg h0]; exact v_Pret ⟨rfl, rfl⟩
  · rw [e_two61 h, if_neg (show ¬ (c.toInt < 37 ∨ 62 < c.toInt) by omega), if_neg (show ¬ c.toInt = 37 by omega), if_neg (show ¬ c.toInt = 38 by omega), if_neg (show ¬ c.toInt = 39 by omega), if_neg (show ¬ c.toInt = 40 by omega), if_neg (show ¬ c.toInt = 41 by omega), if_neg (show ¬ c.toInt = 42 by omega), if_neg (show ¬ c.toInt = 43 by omega), if_neg (show ¬ c.toInt = 44 by omega), if_neg (show ¬ c.toInt = 45 by omega), if_neg (show ¬ c.toInt = 46 by omega), if_neg (show ¬ c.toInt = 47 by omega), if_neg (show ¬ c.toInt = 48 by omega), if_neg (show ¬ c.toInt = 49 by omega), if_neg (show ¬ c.toInt = 50 by omega), if_neg (show ¬ c.toInt = 51 by omega), if_neg (show ¬ c.toInt = 52 by omega), if_neg (show ¬ c.toInt = 53 by omega), if_neg (show ¬ c.toInt = 54 by omega), if_neg (show ¬ c.toInt = 55 by omega), if_neg (show ¬ c.toInt = 56 by omega), if_neg (show ¬ c.toInt = 57 by omega), if_neg (show ¬ c.toInt = 58 by omega), if_neg (show ¬ c.toInt = 59 by omega), if_neg (show ¬ c.toInt = 60 by omega), if_pos h]
    by_cases h0 : a.toInt = b.toInt
    · rw [if_pos h0, if_pos h0]; exact v_Pret ⟨rfl, rfl⟩
    · rw [if_neg h0, if_neg h0]; exact v_Pret ⟨rfl, rfl⟩
  · rw [e_two62 h, if_neg (show ¬ (c.toInt < 37 ∨ 62 < c.toInt) by omega), if_neg (show ¬ c.toInt = 37 by omega), if_neg (show ¬ c.toInt = 38 by omega), if_neg (show ¬ c.toInt = 39 by omega), if_neg (show ¬ c.toInt = 40 by omega), if_neg (show ¬ c.toInt = 41 by omega), if_neg (show ¬ c.toInt = 42 by omega), if_neg (show ¬ c.toInt = 43 by omega), if_neg (show ¬ c.toInt = 44 by omega), if_neg (show ¬ c.toInt = 45 by omega), if_neg (show ¬ c.toInt = 46 by omega), if_neg (show ¬ c.toInt = 47 by omega), if_neg (show ¬ c.toInt = 48 by omega), if_neg (show ¬ c.toInt = 49 by omega), if_neg (show ¬ c.toInt = 50 by omega), if_neg (show ¬ c.toInt = 51 by omega), if_neg (show ¬ c.toInt = 52 by omega), if_neg (show ¬ c.toInt = 53 by omega), if_neg (show ¬ c.toInt = 54 by omega), if_neg (show ¬ c.toInt = 55 by omega), if_neg (show ¬ c.toInt = 56 by omega), if_neg (show ¬ c.toInt = 57 by omega), if_neg (show ¬ c.toInt = 58 by omega), if_neg (show ¬ c.toInt = 59 by omega), if_neg (show ¬ c.toInt = 60 by omega), if_neg (show ¬ c.toInt = 61 by omega)]
    by_cases h0 : a.toInt ≤ b.toInt
    · rw [if_pos h0, if_pos h0]; exact v_Pret ⟨rfl, rfl⟩
    · rw [if_neg h0, if_neg h0]; exact v_Pret ⟨rfl, rfl⟩
  · rw [e_two124 h, if_pos (show c.toInt < 37 ∨ 62 < c.toInt by omega)]
    by_cases h0 : a.toInt = 0
    · rw [if_pos h0, if_pos h0]
      by_cases h1 : b.toInt = 0
      · rw [if_pos h1, if_pos h1]; exact v_Pret ⟨rfl, rfl⟩
      · rw [if_neg h1, if_neg h1]; exact v_Pret ⟨rfl, rfl⟩
    · rw [if_neg h0, if_neg h0]; exact v_Pret ⟨rfl, rfl⟩
/-- the class's sign -/
theorem y_bit0 (t : vS) : f_Tx_bit 0 t = some (0, t) := rfl
theorem y_bit1 (t : vS) : f_Tx_bit 1 t = some (1, t) := rfl
theorem y_joined (c a b : Int32) (t : vS) (hc : t_ok (c, 0) ∧ 5 ≤ c.toInt) : v_P (f_Tx_joined c a b t) (fun r u => u = t ∧ r = e_two c a b) := by
  obtain ⟨hc, hc5⟩ := hc
  unfold t_ok at hc
  dsimp only at hc
  unfold f_Tx_joined
  rcases (show c.toInt = 37 ∨ c.toInt = 38 ∨ c.toInt = 42 ∨ c.toInt = 43 ∨ c.toInt = 45 ∨ c.toInt = 47 ∨ c.toInt = 60 ∨ c.toInt = 61 ∨ c.toInt = 62 ∨ c.toInt = 124 by omega) with h | h | h | h | h | h | h | h | h | h
  · rw [e_two37 h, if_pos h]
    by_cases h0 : b.toInt = 0
    · rw [if_pos h0, if_pos h0]; exact v_Pret ⟨rfl, rfl⟩
    · rw [if_neg h0, if_neg h0]
      exact v_Pif (fun _ => v_Pret ⟨rfl, rfl⟩) (fun _ => v_Pnone)
  · rw [e_two38 h, if_neg (show ¬ c.toInt = 37 by omega), if_pos h]
    by_cases h0 : a.toInt = 0
    · rw [if_pos h0, if_pos h0, y_bit0, v_bi_some]; exact v_Pret ⟨rfl, rfl⟩
    · rw [if_neg h0, if_neg h0]
      by_cases h1 : b.toInt = 0
      · rw [if_pos h1, if_pos h1, y_bit0, v_bi_some]; exact v_Pret ⟨rfl, rfl⟩
      · rw [if_neg h1, if_neg h1, y_bit1, v_bi_some]; exact v_Pret ⟨rfl, rfl⟩
  · rw [e_two42 h, if_neg (show ¬ c.toInt = 37 by omega), if_neg (show ¬ c.toInt = 38 by omega), if_pos h]
    exact v_Pret ⟨rfl, rfl⟩
  · rw [e_two43 h, if_neg (show ¬ c.toInt = 37 by omega), if_neg (show ¬ c.toInt = 38 by omega), if_neg (show ¬ c.toInt = 42 by omega), if_pos h]
    exact v_Pret ⟨rfl, rfl⟩
  · rw [e_two45 h, if_neg (show ¬ c.toInt = 37 by omega), if_neg (show ¬ c.toInt = 38 by omega), if_neg (show ¬ c.toInt = 42 by omega), if_neg (show ¬ c.toInt = 43 by omega), if_pos h]
    exact v_Pret ⟨rfl, rfl⟩
  · rw [e_two47 h, if_neg (show ¬ c.toInt = 37 by omega), if_neg (show ¬ c.toInt = 38 by omega), if_neg (show ¬ c.toInt = 42 by omega), if_neg (show ¬ c.toInt = 43 by omega), if_neg (show ¬ c.toInt = 45 by omega), if_pos h]
    by_cases h0 : b.toInt = 0
    · rw [if_pos h0, if_pos h0]; exact v_Pret ⟨rfl, rfl⟩
    · rw [if_neg h0, if_neg h0]
      exact v_Pif (fun _ => v_Pret ⟨rfl, rfl⟩) (fun _ => v_Pnone)
  · rw [e_two60 h, if_neg (show ¬ c.toInt = 37 by omega), if_neg (show ¬ c.toInt = 38 by omega), if_neg (show ¬ c.toInt = 42 by omega), if_neg (show ¬ c.toInt = 43 by omega), if_neg (show ¬ c.toInt = 45 by omega), if_neg (show ¬ c.toInt = 47 by omega), if_pos h]
    by_cases h0 : b.toInt ≤ a.toInt
    · rw [if_pos h0, if_pos h0, y_bit0, v_bi_some]; exact v_Pret ⟨rfl, rfl⟩
    · rw [if_neg h0, if_neg h0, y_bit1, v_bi_some]; exact v_Pret ⟨rfl, rfl⟩
  · rw [e_two61 h, if_neg (show ¬ c.toInt = 37 by omega), if_neg (show ¬ c.toInt = 38 by omega), if_neg (show ¬ c.toInt = 42 by omega), if_neg (show ¬ c.toInt = 43 by omega), if_neg (show ¬ c.toInt = 45 by omega), if_neg (show ¬ c.toInt = 47 by omega), if_neg (show ¬ c.toInt = 60 by omega), if_pos h]
    by_cases h0 : a.toInt = b.toInt
    · rw [if_pos h0, if_pos h0, y_bit1, v_bi_some]; exact v_Pret ⟨rfl, rfl⟩
    · rw [if_neg h0, if_neg h0, y_bit0, v_bi_some]; exact v_Pret ⟨rfl, rfl⟩
  · rw [e_two62 h, if_neg (show ¬ c.toInt = 37 by omega), if_neg (show ¬ c.toInt = 38 by omega), if_neg (show ¬ c.toInt = 42 by omega), if_neg (show ¬ c.toInt = 43 by omega), if_neg (show ¬ c.toInt = 45 by omega), if_neg (show ¬ c.toInt = 47 by omega), if_neg (show ¬ c.toInt = 60 by omega), if_neg (show ¬ c.toInt = 61 by omega), if_pos h]
    by_cases h0 : a.toInt ≤ b.toInt
    · rw [if_pos h0, if_pos h0, y_bit0, v_bi_some]; exact v_Pret ⟨rfl, rfl⟩
    · rw [if_neg h0, if_neg h0, y_bit1, v_bi_some]; exact v_Pret ⟨rfl, rfl⟩
  · rw [e_two124 h, if_neg (show ¬ c.toInt = 37 by omega), if_neg (show ¬ c.toInt = 38 by omega), if_neg (show ¬ c.toInt = 42 by omega), if_neg (show ¬ c.toInt = 43 by omega), if_neg (show ¬ c.toInt = 45 by omega), if_neg (show ¬ c.toInt = 47 by omega), if_neg (show ¬ c.toInt = 60 by omega), if_neg (show ¬ c.toInt = 61 by omega), if_neg (show ¬ c.toInt = 62 by omega), if_pos h]
    by_cases h0 : a.toInt = 0
    · rw [if_pos h0, if_pos h0]
      by_cases h1 : b.toInt = 0
      · rw [if_pos h1, if_pos h1, y_bit0, v_bi_some]; exact v_Pret ⟨rfl, rfl⟩
      · rw [if_neg h1, if_neg h1, y_bit1, v_bi_some]; exact v_Pret ⟨rfl, rfl⟩
    · rw [if_neg h0, if_neg h0, y_bit1, v_bi_some]; exact v_Pret ⟨rfl, rfl⟩
