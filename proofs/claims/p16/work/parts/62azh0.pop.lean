/-! the bits of a long, and how many they are -/
def cnt (p : Nat → Bool) : Nat → Nat
  | 0 => 0
  | n + 1 => cnt p n + (if p n = true then 1 else 0)
theorem cnt_le {p : Nat → Bool} : ∀ n, cnt p n ≤ n
  | 0 => Nat.le_refl _
  | n + 1 => by
    have h := cnt_le (p := p) n
    show cnt p n + (if p n = true then 1 else 0) ≤ n + 1
    by_cases c : p n = true
    · rw [if_pos c]; omega
    · rw [if_neg c]; omega
theorem cnt_eq {p q : Nat → Bool} : ∀ n, (∀ i, i < n → p i = q i) → cnt p n = cnt q n
  | 0, _ => rfl
  | n + 1, h => by
    show cnt p n + (if p n = true then 1 else 0) = cnt q n + (if q n = true then 1 else 0)
    rw [cnt_eq n (fun i hi => h i (by omega)), h n (by omega)]
theorem cnt_add {p : Nat → Bool} {m : Nat} : ∀ n, cnt p (m + n) = cnt p m + cnt (fun i => p (m + i)) n
  | 0 => rfl
  | n + 1 => by
    show cnt p (m + n) + (if p (m + n) = true then 1 else 0) = cnt p m + (cnt (fun i => p (m + i)) n + (if p (m + n) = true then 1 else 0))
    rw [cnt_add n]
    omega
def wM (c : Nat) : Nat → Nat
  | 0 => 0
  | k + 1 => c + 256 * wM c k
def w8 (f : Nat → Nat) : Nat → Nat → Nat
  | 0, _ => 0
  | k + 1, y => f (y % 256) + 256 * w8 f k (y / 256)
theorem w_land (a b : Nat) : a &&& b = (a % 256 &&& b % 256) + 256 * (a / 256 &&& b / 256) := by
  have h1 : (a &&& b) % 2 ^ 8 = (a % 2 ^ 8) &&& (b % 2 ^ 8) := Nat.and_mod_two_pow
  have h2 : (a &&& b) / 2 ^ 8 = a / 2 ^ 8 &&& b / 2 ^ 8 := Nat.and_div_two_pow
  have e : (2 : Nat) ^ 8 = 256 := rfl
  rw [e] at h1 h2
  have h3 := Nat.mod_add_div (a &&& b) 256
  rw [h1, h2] at h3
  exact h3.symm
theorem w_M {c k : Nat} (hc : c < 256) : wM c (k + 1) % 256 = c ∧ wM c (k + 1) / 256 = wM c k := by
  have e : wM c (k + 1) = c + 256 * wM c k := rfl
  omega
theorem w_pw {y k : Nat} (h : y < 256 ^ (k + 1)) : y / 256 < 256 ^ k := by
  have e : 256 ^ (k + 1) = 256 ^ k * 256 := Nat.pow_succ _ _
  rw [e] at h
  generalize 256 ^ k = P at h ⊢
  omega
/-- byte by byte -/
def w_f1 (b : Nat) : Nat := b - (b / 2 &&& 85)
def w_f2 (b : Nat) : Nat := (b &&& 51) + (b / 4 &&& 51)
def w_f3 (b : Nat) : Nat := (b + b / 16) &&& 15
set_option maxRecDepth 100000 in
theorem w_t1 : (List.range 256).all (fun b => (List.range 2).all (fun q => decide ((b / 2 + 128 * q) &&& 85 = b / 2 &&& 85)) && decide (b / 2 &&& 85 ≤ b)) = true := by decide +kernel
set_option maxRecDepth 100000 in
theorem w_t2 : (List.range 256).all (fun b => (List.range 4).all (fun q => decide ((b / 4 + 64 * q) &&& 51 = b / 4 &&& 51))) = true := by decide +kernel
set_option maxRecDepth 100000 in
theorem w_t3 : (List.range 256).all (fun b => (List.range 16).all (fun q => decide ((b + b / 16 + 16 * q) &&& 15 = (b + b / 16) &&& 15))) = true := by decide +kernel
theorem w_1 : ∀ k y, (y / 2 &&& wM 85 k) ≤ y ∧ (y < 256 ^ k → y - (y / 2 &&& wM 85 k) = w8 w_f1 k y)
  | 0, y => by
    have e : y / 2 &&& wM 85 0 = 0 := Nat.and_zero (y / 2)
    rw [e]
    refine ⟨Nat.zero_le _, fun h => ?_⟩
    have h2 : y < 1 := h
    show y - 0 = 0
    omega
  | k + 1, y => by
    obtain ⟨i1, i2⟩ := w_1 k (y / 256)
    obtain ⟨m1, m2⟩ := w_M (c := 85) (k := k) (by omega)
    have e := w_land (y / 2) (wM 85 (k + 1))
    rw [m1, m2, show y / 2 % 256 = y % 256 / 2 + 128 * (y / 256 % 2) by omega, show y / 2 / 256 = y / 256 / 2 by omega] at e
    have ht := List.all_eq_true.mp w_t1 (y % 256) (List.mem_range.mpr (by omega))
    rw [Bool.and_eq_true, decide_eq_true_eq] at ht
    have ht2 := of_decide_eq_true (List.all_eq_true.mp ht.1 (y / 256 % 2) (List.mem_range.mpr (by omega)))
    have ht3 := ht.2
    rw [ht2] at e
    rw [e]
    refine ⟨by omega, fun h => ?_⟩
    have i3 := i2 (w_pw h)
    show _ = (y % 256 - (y % 256 / 2 &&& 85)) + 256 * w8 w_f1 k (y / 256)
    rw [← i3]
    omega
theorem w_2 : ∀ k y, y < 256 ^ k → (y &&& wM 51 k) + (y / 4 &&& wM 51 k) = w8 w_f2 k y
  | 0, y, _ => by
    have e1 : y / 4 &&& wM 51 0 = 0 := Nat.and_zero (y / 4)
    have e2 : y &&& wM 51 0 = 0 := Nat.and_zero y
    rw [e1, e2]
    rfl
  | k + 1, y, h => by
    have ih := w_2 k (y / 256) (w_pw h)
    obtain ⟨m1, m2⟩ := w_M (c := 51) (k := k) (by omega)
    have e1 := w_land y (wM 51 (k + 1))
    rw [m1, m2] at e1
    have e2 := w_land (y / 4) (wM 51 (k + 1))
    rw [m1, m2, show y / 4 % 256 = y % 256 / 4 + 64 * (y / 256 % 4) by omega, show y / 4 / 256 = y / 256 / 4 by omega] at e2
    have ht := List.all_eq_true.mp w_t2 (y % 256) (List.mem_range.mpr (by omega))
    have ht2 := of_decide_eq_true (List.all_eq_true.mp ht (y / 256 % 4) (List.mem_range.mpr (by omega)))
    rw [ht2] at e2
    rw [e1, e2]
    show _ = ((y % 256 &&& 51) + (y % 256 / 4 &&& 51)) + 256 * w8 w_f2 k (y / 256)
    rw [← ih]
    omega
def w_ok : Nat → Nat → Prop
  | 0, _ => True
  | k + 1, y => (y % 256 % 16 ≤ 4 ∧ y % 256 / 16 ≤ 4) ∧ w_ok k (y / 256)
theorem w_ok4 {k z : Nat} (h : w_ok k z) (hz : z < 256 ^ k) : z % 16 ≤ 4 := by
  cases k with
  | zero =>
    have h2 : z < 1 := hz
    omega
  | succ k =>
    have h1 := h.1.1
    omega
theorem w_3 : ∀ k y, y < 256 ^ k → w_ok k y → (y + y / 16) &&& wM 15 k = w8 w_f3 k y
  | 0, y, _, _ => Nat.and_zero _
  | k + 1, y, h, hw => by
    obtain ⟨⟨h1, h2⟩, h3⟩ := hw
    have h4 := w_ok4 h3 (w_pw h)
    have ih := w_3 k (y / 256) (w_pw h) h3
    obtain ⟨m1, m2⟩ := w_M (c := 15) (k := k) (by omega)
    have e := w_land (y + y / 16) (wM 15 (k + 1))
    rw [m1, m2, show (y + y / 16) % 256 = y % 256 + y % 256 / 16 + 16 * (y / 256 % 16) by omega, show (y + y / 16) / 256 = y / 256 + y / 256 / 16 by omega] at e
    have ht := List.all_eq_true.mp w_t3 (y % 256) (List.mem_range.mpr (by omega))
    have ht2 := of_decide_eq_true (List.all_eq_true.mp ht (y / 256 % 16) (List.mem_range.mpr (by omega)))
    rw [ht2, ih] at e
    exact e
theorem w8_lt {f : Nat → Nat} (hf : ∀ b, b < 256 → f b < 256) : ∀ k x, w8 f k x < 256 ^ k
  | 0, _ => by show 0 < 1; omega
  | k + 1, x => by
    have ih := w8_lt hf k (x / 256)
    have h1 := hf (x % 256) (by omega)
    have e : 256 ^ (k + 1) = 256 ^ k * 256 := Nat.pow_succ _ _
    show f (x % 256) + 256 * w8 f k (x / 256) < 256 ^ (k + 1)
    rw [e]
    generalize 256 ^ k = P at ih ⊢
    omega
theorem w8_co {f g : Nat → Nat} (hf : ∀ b, b < 256 → f b < 256) : ∀ k x, w8 g k (w8 f k x) = w8 (fun b => g (f b)) k x
  | 0, _ => rfl
  | k + 1, x => by
    have h1 := hf (x % 256) (by omega)
    show g ((f (x % 256) + 256 * w8 f k (x / 256)) % 256) + 256 * w8 g k ((f (x % 256) + 256 * w8 f k (x / 256)) / 256) = g (f (x % 256)) + 256 * w8 (fun b => g (f b)) k (x / 256)
    rw [show (f (x % 256) + 256 * w8 f k (x / 256)) % 256 = f (x % 256) by omega, show (f (x % 256) + 256 * w8 f k (x / 256)) / 256 = w8 f k (x / 256) by omega, w8_co hf]
theorem w8_ok {f : Nat → Nat} (hf : ∀ b, b < 256 → f b < 256 ∧ f b % 16 ≤ 4 ∧ f b / 16 ≤ 4) : ∀ k x, w_ok k (w8 f k x)
  | 0, _ => trivial
  | k + 1, x => by
    have h1 := hf (x % 256) (by omega)
    show (((f (x % 256) + 256 * w8 f k (x / 256)) % 256 % 16 ≤ 4 ∧ (f (x % 256) + 256 * w8 f k (x / 256)) % 256 / 16 ≤ 4) ∧ w_ok k ((f (x % 256) + 256 * w8 f k (x / 256)) / 256))
    rw [show (f (x % 256) + 256 * w8 f k (x / 256)) % 256 = f (x % 256) by omega, show (f (x % 256) + 256 * w8 f k (x / 256)) / 256 = w8 f k (x / 256) by omega]
    exact ⟨h1.2, w8_ok hf k _⟩
theorem w8_eq {f g : Nat → Nat} (h : ∀ b, b < 256 → f b = g b) : ∀ k x, w8 f k x = w8 g k x
  | 0, _ => rfl
  | k + 1, x => by
    show f (x % 256) + 256 * w8 f k (x / 256) = g (x % 256) + 256 * w8 g k (x / 256)
    rw [h _ (by omega), w8_eq h]
def w_bc (b : Nat) : Nat := cnt (fun i => b.testBit i) 8
set_option maxRecDepth 100000 in
theorem w_t4 : (List.range 256).all (fun b => decide (w_f1 b < 256) && decide (w_f2 (w_f1 b) < 256) && decide (w_f2 (w_f1 b) % 16 ≤ 4) && decide (w_f2 (w_f1 b) / 16 ≤ 4) && decide (w_f3 (w_f2 (w_f1 b)) = w_bc b)) = true := by decide +kernel
theorem w_t {b : Nat} (h : b < 256) : w_f1 b < 256 ∧ w_f2 (w_f1 b) < 256 ∧ w_f2 (w_f1 b) % 16 ≤ 4 ∧ w_f2 (w_f1 b) / 16 ≤ 4 ∧ w_f3 (w_f2 (w_f1 b)) = w_bc b := by
  have ht := List.all_eq_true.mp w_t4 b (List.mem_range.mpr h)
  rw [Bool.and_eq_true, Bool.and_eq_true, Bool.and_eq_true, Bool.and_eq_true, decide_eq_true_eq, decide_eq_true_eq, decide_eq_true_eq, decide_eq_true_eq, decide_eq_true_eq] at ht
  exact ⟨ht.1.1.1.1, ht.1.1.1.2, ht.1.1.2, ht.1.2, ht.2⟩
def w_sum : Nat → Nat → Nat
  | 0, _ => 0
  | k + 1, x => w_bc (x % 256) + w_sum k (x / 256)
theorem w_cnt : ∀ k x, cnt (fun i => x.testBit i) (8 * k) = w_sum k x
  | 0, _ => rfl
  | k + 1, x => by
    rw [show 8 * (k + 1) = 8 + 8 * k by omega, cnt_add]
    show _ = w_bc (x % 256) + w_sum k (x / 256)
    rw [← w_cnt k (x / 256)]
    have h1 : cnt (fun i => x.testBit i) 8 = w_bc (x % 256) := cnt_eq 8 (fun i hi => by
      show x.testBit i = (x % 2 ^ 8).testBit i
      rw [Nat.testBit_mod_two_pow, show decide (i < 8) = true from decide_eq_true hi, Bool.true_and])
    have h2 : cnt (fun i => x.testBit (8 + i)) (8 * k) = cnt (fun i => (x / 256).testBit i) (8 * k) := cnt_eq _ (fun i _ => by
      show x.testBit (8 + i) = (x / 2 ^ 8).testBit i
      rw [Nat.testBit_div_two_pow, Nat.add_comm])
    rw [h1]
    exact congrArg (fun z => w_bc (x % 256) + z) h2
/-- the last steps: bytes of at most 8 -/
theorem w_d1 {a b : Nat} (h : a < 256) : (a + 256 * b) / 256 = b := by omega
theorem w_d2 {a b : Nat} (h : a < 65536) : (a + 65536 * b) / 65536 = b := by omega
theorem w_d4 {a b : Nat} (h : a < 4294967296) : (a + 4294967296 * b) / 4294967296 = b := by omega
theorem w_dm {a b : Nat} (h : a < 128) : (a + 256 * b) % 128 = a := by omega
theorem w_z {d0 d1 d2 A1 A2 A3 : Nat} (h1 : A1 = d1 + 256 * A2) (h2 : A2 = d2 + 256 * A3) : d0 + 256 * A1 + A1 = (d0 + d1 + 256 * (d1 + d2)) + 65536 * (A2 + A3) := by omega
theorem w_s {d A B C D E a b c : Nat} (hA : A = d + 256 * B) (hB : B = a + 256 * C) (hC : C = b + 256 * D) (hD : D = c + 256 * E) : A + B + C + D = (d + a + b + c) + 256 * (B + C + D + E) := by omega
theorem w_w {s0 s1 s2 s3 S0 S1 S2 S3 S4 : Nat} (h0 : S0 = s0 + 256 * S1) (h1 : S1 = s1 + 256 * S2) (h2 : S2 = s2 + 256 * S3) (h3 : S3 = s3 + 256 * S4) : S0 = (s0 + 256 * s1 + 65536 * s2 + 16777216 * s3) + 4294967296 * S4 := by omega
theorem w_b8 {A d B c : Nat} (hA : A = d + 256 * B) (hd : d ≤ 8) (hB : B ≤ c) : A ≤ 8 + 256 * c := by omega
theorem w_last {d0 d1 d2 d3 d4 d5 d6 d7 : Nat} (h0 : d0 ≤ 8) (h1 : d1 ≤ 8) (h2 : d2 ≤ 8) (h3 : d3 ≤ 8) (h4 : d4 ≤ 8) (h5 : d5 ≤ 8) (h6 : d6 ≤ 8) (h7 : d7 ≤ 8) {y z w v : Nat} (hy : y = d0 + 256 * (d1 + 256 * (d2 + 256 * (d3 + 256 * (d4 + 256 * (d5 + 256 * (d6 + 256 * (d7 + 256 * 0)))))))) (hz : z = y + y / 256) (hw : w = z + z / 65536) (hv : v = w + w / 4294967296) : v % 128 = d0 + (d1 + (d2 + (d3 + (d4 + (d5 + (d6 + (d7 + 0))))))) ∧ y < 1000000000000000000 ∧ z < 1100000000000000000 ∧ w < 1200000000000000000 := by
  obtain ⟨A7, a7⟩ : ∃ A7, A7 = d7 + 256 * 0 := ⟨_, rfl⟩
  rw [← a7] at hy
  obtain ⟨A6, a6⟩ : ∃ A6, A6 = d6 + 256 * A7 := ⟨_, rfl⟩
  rw [← a6] at hy
  obtain ⟨A5, a5⟩ : ∃ A5, A5 = d5 + 256 * A6 := ⟨_, rfl⟩
  rw [← a5] at hy
  obtain ⟨A4, a4⟩ : ∃ A4, A4 = d4 + 256 * A5 := ⟨_, rfl⟩
  rw [← a4] at hy
  obtain ⟨A3, a3⟩ : ∃ A3, A3 = d3 + 256 * A4 := ⟨_, rfl⟩
  rw [← a3] at hy
  obtain ⟨A2, a2⟩ : ∃ A2, A2 = d2 + 256 * A3 := ⟨_, rfl⟩
  rw [← a2] at hy
  obtain ⟨A1, a1⟩ : ∃ A1, A1 = d1 + 256 * A2 := ⟨_, rfl⟩
  rw [← a1] at hy
  have b7 : A7 ≤ 8 := by rw [a7]; exact h7
  have b6 := w_b8 a6 h6 b7
  have b5 := w_b8 a5 h5 b6
  have b4 := w_b8 a4 h4 b5
  have b3 := w_b8 a3 h3 b4
  have b2 := w_b8 a2 h2 b3
  have b1 := w_b8 a1 h1 b2
  have b0 := w_b8 hy h0 b1
  have y1 : y / 256 = A1 := by rw [hy]; exact w_d1 (Nat.lt_of_le_of_lt h0 (by decide))
  have z1 : z = (d0 + d1 + 256 * (d1 + d2)) + 65536 * (A2 + A3) := by rw [hz, y1, hy]; exact w_z a1 a2
  have l1 : d0 + d1 + 256 * (d1 + d2) < 65536 := by clear z1 y1 hz hw hv hy a1 a2 a3 a4 a5 a6 a7 b0 b1 b2 b3 b4 b5 b6 b7; omega
  have z2 : z / 65536 = A2 + A3 := by rw [z1]; exact w_d2 l1
  have S0 : y + A1 + (A2 + A3) = (d0 + d1 + d2 + d3) + 256 * (A1 + A2 + A3 + A4) := by
    have h := w_s hy a1 a2 a3
    rw [← h]
    exact (Nat.add_assoc _ _ _).symm
  have S1 := w_s a1 a2 a3 a4
  have S2 := w_s a2 a3 a4 a5
  have S3 := w_s a3 a4 a5 a6
  have S4 := w_s a4 a5 a6 a7
  have w0 : w = y + A1 + (A2 + A3) := by rw [hw, z2, hz, y1]
  have w1 : w = ((d0 + d1 + d2 + d3) + 256 * (d1 + d2 + d3 + d4) + 65536 * (d2 + d3 + d4 + d5) + 16777216 * (d3 + d4 + d5 + d6)) + 4294967296 * (A4 + A5 + A6 + A7) := by
    rw [w0]
    exact w_w S0 S1 S2 S3
  have l2 : (d0 + d1 + d2 + d3) + 256 * (d1 + d2 + d3 + d4) + 65536 * (d2 + d3 + d4 + d5) + 16777216 * (d3 + d4 + d5 + d6) < 4294967296 := by
    clear w1 w0 S0 S1 S2 S3 S4 z1 z2 l1 y1 hz hw hv hy a1 a2 a3 a4 a5 a6 a7 b0 b1 b2 b3 b4 b5 b6 b7
    omega
  have w2 : w / 4294967296 = A4 + A5 + A6 + A7 := by rw [w1]; exact w_d4 l2
  refine ⟨?_, ?_, ?_, ?_⟩
  · have hv2 : v = (d0 + (d1 + (d2 + (d3 + (d4 + (d5 + (d6 + (d7 + 0)))))))) + 256 * ((A1 + A2 + A3 + A4) + (A5 + A6 + A7 + 0)) := by
      rw [hv, w2, S4, w0, S0]
      clear w1 w2 w0 S0 S1 S2 S3 S4 z1 z2 l1 l2 y1 hz hw hv hy a1 a2 a3 a4 a5 a6 a7 b0 b1 b2 b3 b4 b5 b6 b7 h0 h1 h2 h3 h4 h5 h6 h7
      generalize A1 + A2 + A3 + A4 = X
      generalize A5 + A6 + A7 + 0 = Y
      omega
    rw [hv2]
    refine w_dm ?_
    clear hv2 w1 w2 w0 S0 S1 S2 S3 S4 z1 z2 l1 l2 y1 hz hw hv hy a1 a2 a3 a4 a5 a6 a7 b0 b1 b2 b3 b4 b5 b6 b7
    omega
  · exact Nat.lt_of_le_of_lt b0 (by decide)
  · rw [hz, y1]
    exact Nat.lt_of_le_of_lt (Nat.add_le_add b0 b1) (by decide)
  · rw [w0]
    exact Nat.lt_of_le_of_lt (Nat.add_le_add (Nat.add_le_add b0 b1) (Nat.add_le_add b2 b3)) (by decide)
theorem w_b2 {a c k : Nat} (h : a < c) (hc : c + c ≤ 18446744073709551616) : a + a / k < 2 ^ 64 := by
  have h2 := Nat.div_le_self a k
  have e : (2 : Nat) ^ 64 = 18446744073709551616 := by decide
  rw [e]
  omega
/-- long -/
def b6 (x : Int64) (i : Nat) : Bool := x.toBitVec.getLsbD i
def n6 (x : Int64) : Nat := x.toBitVec.toNat
theorem n6_lt (x : Int64) : n6 x < 256 ^ 8 := x.toBitVec.isLt
theorem n6_b (x : Int64) (i : Nat) : (n6 x).testBit i = b6 x i := rfl
abbrev shr6 (x : Int64) (n : Int32) : Int64 := ((Int64.toUInt64 x) >>> ((Int64.toUInt64 (Int32.toInt64 n)) &&& Int64.toUInt64 63)).toInt64
theorem k6 : ∀ n, n < 64 → (((Int64.toUInt64 (Int32.toInt64 (Int32.ofNat n))) &&& Int64.toUInt64 63).toBitVec % 64).toNat = n := by decide +kernel
theorem n6_shr (x : Int64) {n : Nat} (hn : n < 64) : n6 (shr6 x (Int32.ofNat n)) = n6 x / 2 ^ n := by
  show ((Int64.toUInt64 x) >>> ((Int64.toUInt64 (Int32.toInt64 (Int32.ofNat n))) &&& Int64.toUInt64 63)).toBitVec.toNat = _
  rw [UInt64.toBitVec_shiftRight]
  show ((Int64.toUInt64 x).toBitVec >>> (((Int64.toUInt64 (Int32.toInt64 (Int32.ofNat n))) &&& Int64.toUInt64 63).toBitVec % 64).toNat).toNat = _
  rw [k6 n hn, BitVec.toNat_ushiftRight, Nat.shiftRight_eq_div_pow]
  rfl
theorem n6_and (x y : Int64) : n6 (x &&& y) = n6 x &&& n6 y := by
  unfold n6
  rw [Int64.toBitVec_and, BitVec.toNat_and]
theorem n6_add (x y : Int64) (h : n6 x + n6 y < 2 ^ 64) : n6 (x + y) = n6 x + n6 y := by
  unfold n6 at h ⊢
  rw [Int64.toBitVec_add, BitVec.toNat_add]
  exact Nat.mod_eq_of_lt h
theorem n6_sub (x y : Int64) (h : n6 y ≤ n6 x) : n6 (x - y) = n6 x - n6 y := by
  unfold n6 at h ⊢
  rw [Int64.toBitVec_sub]
  exact BitVec.toNat_sub_of_le (BitVec.le_def.mpr h)
def q1 (b : Int64) : Int64 := b - (shr6 b (1 : Int32) &&& (6148914691236517205 : Int64))
def q2 (b : Int64) : Int64 := (b &&& (3689348814741910323 : Int64)) + (shr6 b (2 : Int32) &&& (3689348814741910323 : Int64))
def q3 (b : Int64) : Int64 := (b + shr6 b (4 : Int32)) &&& (1085102592571150095 : Int64)
def q4 (b : Int64) : Int64 := b + shr6 b (8 : Int32)
def q5 (b : Int64) : Int64 := b + shr6 b (16 : Int32)
def q6 (b : Int64) : Int64 := b + shr6 b (32 : Int32)
theorem q_1 (b : Int64) : n6 (q1 b) = w8 w_f1 8 (n6 b) := by
  have e1 : n6 (shr6 b (1 : Int32)) = n6 b / 2 := n6_shr b (n := 1) (by decide)
  have e2 : n6 (6148914691236517205 : Int64) = wM 85 8 := by decide +kernel
  obtain ⟨h1, h2⟩ := w_1 8 (n6 b)
  have e3 : n6 (shr6 b (1 : Int32) &&& (6148914691236517205 : Int64)) = n6 b / 2 &&& wM 85 8 := by rw [n6_and, e1, e2]
  unfold q1
  rw [n6_sub _ _ (by rw [e3]; exact h1), e3]
  exact h2 (n6_lt b)
theorem w_half : ∀ a : Nat, (a &&& wM 51 8) ≤ wM 51 8 := fun a => Nat.and_le_right
theorem q_2 (b : Int64) : n6 (q2 b) = w8 w_f2 8 (n6 b) := by
  have e1 : n6 (shr6 b (2 : Int32)) = n6 b / 4 := n6_shr b (n := 2) (by decide)
  have e2 : n6 (3689348814741910323 : Int64) = wM 51 8 := by decide +kernel
  have e3 : n6 (b &&& (3689348814741910323 : Int64)) = n6 b &&& wM 51 8 := by rw [n6_and, e2]
  have e4 : n6 (shr6 b (2 : Int32) &&& (3689348814741910323 : Int64)) = n6 b / 4 &&& wM 51 8 := by rw [n6_and, e1, e2]
  have h1 := w_half (n6 b)
  have h2 := w_half (n6 b / 4)
  have h3 : wM 51 8 = 3689348814741910323 := by decide +kernel
  unfold q2
  rw [n6_add _ _ (by rw [e3, e4]; rw [h3] at h1 h2 ⊢; omega), e3, e4]
  exact w_2 8 (n6 b) (n6_lt b)
theorem q_3 (b : Int64) (hw : w_ok 8 (n6 b)) (hb : n6 b < 10000000000000000000) : n6 (q3 b) = w8 w_f3 8 (n6 b) := by
  have e1 : n6 (shr6 b (4 : Int32)) = n6 b / 16 := n6_shr b (n := 4) (by decide)
  have e2 : n6 (1085102592571150095 : Int64) = wM 15 8 := by decide +kernel
  unfold q3
  rw [n6_and, n6_add _ _ (by rw [e1]; have h2 : n6 b / 16 * 16 ≤ n6 b := Nat.div_mul_le_self _ _; have e : (2 : Nat) ^ 64 = 18446744073709551616 := (by decide); rw [e]; clear hw e1 e2; omega), e1, e2]
  exact w_3 8 (n6 b) (n6_lt b) hw
theorem w_le {f : Nat → Nat} {c : Nat} (hf : ∀ b, b < 256 → f b ≤ c) : ∀ k x, w8 f k x ≤ wM c k
  | 0, _ => Nat.le_refl _
  | k + 1, x => by
    have ih := w_le hf k (x / 256)
    have h1 := hf (x % 256) (by omega)
    show f (x % 256) + 256 * w8 f k (x / 256) ≤ c + 256 * wM c k
    omega
theorem w_bc8 (b : Nat) : w_bc b ≤ 8 := cnt_le 8
/-- Long.bitCount -/
theorem pop6 (b : Int64) (s : vS) : f_Lo_bitCount b s = some (Int32.ofNat (cnt (b6 b) 64), s) := by
  have e : f_Lo_bitCount b s = some (Int64.toInt32 (q6 (q5 (q4 (q3 (q2 (q1 b)))))) &&& (127 : Int32), s) := rfl
  rw [e]
  have a1 := q_1 b
  have a2 : n6 (q2 (q1 b)) = w8 (fun x => w_f2 (w_f1 x)) 8 (n6 b) := by rw [q_2, a1, w8_co (fun x hx => (w_t hx).1)]
  have a2k : w_ok 8 (n6 (q2 (q1 b))) := by rw [a2]; exact w8_ok (fun x hx => ⟨(w_t hx).2.1, (w_t hx).2.2.1, (w_t hx).2.2.2.1⟩) 8 _
  have a2l : n6 (q2 (q1 b)) < 10000000000000000000 := by
    have h1 := w_le (f := fun x => w_f2 (w_f1 x)) (c := 79) (fun x hx => by have := (w_t hx).2.2.1; have := (w_t hx).2.2.2.1; show w_f2 (w_f1 x) ≤ 79; omega) 8 (n6 b)
    have h2 : wM 79 8 = 5714873654208057167 := by decide +kernel
    rw [a2]
    omega
  have a3 : n6 (q3 (q2 (q1 b))) = w8 w_bc 8 (n6 b) := by
    rw [q_3 _ a2k a2l, a2, w8_co (fun x hx => (w_t hx).2.1)]
    exact w8_eq (fun x hx => (w_t hx).2.2.2.2) 8 _
  generalize q3 (q2 (q1 b)) = y at a3 ⊢
  have hL := w_last (w_bc8 (n6 b % 256)) (w_bc8 (n6 b / 256 % 256)) (w_bc8 (n6 b / 256 / 256 % 256)) (w_bc8 (n6 b / 256 / 256 / 256 % 256)) (w_bc8 (n6 b / 256 / 256 / 256 / 256 % 256)) (w_bc8 (n6 b / 256 / 256 / 256 / 256 / 256 % 256)) (w_bc8 (n6 b / 256 / 256 / 256 / 256 / 256 / 256 % 256)) (w_bc8 (n6 b / 256 / 256 / 256 / 256 / 256 / 256 / 256 % 256)) (y := n6 y) (z := n6 y + n6 y / 256) a3 rfl rfl rfl
  obtain ⟨l1, l2, l3, l4⟩ := hL
  have c4 : n6 (q4 y) = n6 y + n6 y / 256 := by
    have e1 : n6 (shr6 y (8 : Int32)) = n6 y / 256 := n6_shr y (n := 8) (by decide)
    unfold q4
    rw [n6_add _ _ (by rw [e1]; exact w_b2 l2 (by decide)), e1]
  rw [← c4] at l1 l3 l4
  have c5 : n6 (q5 (q4 y)) = n6 (q4 y) + n6 (q4 y) / 65536 := by
    have e1 : n6 (shr6 (q4 y) (16 : Int32)) = n6 (q4 y) / 65536 := n6_shr (q4 y) (n := 16) (by decide)
    unfold q5
    rw [n6_add _ _ (by rw [e1]; exact w_b2 l3 (by decide)), e1]
  rw [← c5] at l1 l4
  have c6 : n6 (q6 (q5 (q4 y))) = n6 (q5 (q4 y)) + n6 (q5 (q4 y)) / 4294967296 := by
    have e1 : n6 (shr6 (q5 (q4 y)) (32 : Int32)) = n6 (q5 (q4 y)) / 4294967296 := n6_shr (q5 (q4 y)) (n := 32) (by decide)
    unfold q6
    rw [n6_add _ _ (by rw [e1]; exact w_b2 l4 (by decide)), e1]
  rw [← c6] at l1
  have hs : n6 (q6 (q5 (q4 y))) % 128 = cnt (b6 b) 64 := l1.trans (w_cnt 8 (n6 b)).symm
  generalize q6 (q5 (q4 y)) = v at hs ⊢
  have hfin : Int64.toInt32 v &&& (127 : Int32) = Int32.ofNat (cnt (b6 b) 64) := by
    refine b_ext (fun i hi => ?_)
    rw [b_and, ← hs]
    have h1 : bt (Int64.toInt32 v) i = b6 v i := by
      show (v.toBitVec.signExtend 32).getLsbD i = v.toBitVec.getLsbD i
      rw [BitVec.getLsbD_signExtend, show decide (i < 32) = true from decide_eq_true hi, if_pos (show i < 64 by omega), Bool.true_and]
    have h2 : bt (127 : Int32) i = decide (i < 7) := (show ∀ i, i < 32 → bt (127 : Int32) i = decide (i < 7) by decide +kernel) i hi
    have h3 : bt (Int32.ofNat (n6 v % 128)) i = (n6 v % 2 ^ 7).testBit i := by
      show (BitVec.ofNat 32 (n6 v % 128)).getLsbD i = _
      rw [BitVec.getLsbD_ofNat, show decide (i < 32) = true from decide_eq_true hi, Bool.true_and]
    rw [h1, h2, h3, Nat.testBit_mod_two_pow, n6_b, Bool.and_comm]
  rw [hfin]
/-! a set of cases -/
def lb (s : vS) (a i : Nat) : Bool := if i < 64 then b6 (s.2 a 0) i else b6 (s.2 a 1) (i - 64)
theorem b6_and1 (x : Int64) : (lg_cmp (x &&& (1 : Int64)) (0 : Int64)).toInt = 0 ↔ b6 x 0 = false := by
  have e : (lg_cmp (x &&& (1 : Int64)) (0 : Int64)).toInt = 0 ↔ x &&& (1 : Int64) = 0 := ⟨fun h => (lg_cmp_eq _ _).mp (Int32.toInt_inj.mp h), fun h => by rw [(lg_cmp_eq _ _).mpr h]; rfl⟩
  rw [e]
  have h1 : ∀ i, i < 64 → (1 : Int64).toBitVec.getLsbD i = decide (i = 0) := by decide +kernel
  constructor
  · intro h
    have h2 : (x &&& (1 : Int64)).toBitVec.getLsbD 0 = false := by rw [h]; rfl
    rw [Int64.toBitVec_and, BitVec.getLsbD_and, h1 0 (by decide)] at h2
    have h3 : (x.toBitVec.getLsbD 0 && (1 : Int64).toBitVec.getLsbD 0) = false := h2
    rw [h1 0 (by decide), show decide ((0 : Nat) = 0) = true from rfl, Bool.and_true] at h3
    exact h3
  · intro h
    refine Int64.toBitVec_inj.mp (BitVec.eq_of_getLsbD_eq (fun i hi => ?_))
    rw [Int64.toBitVec_and, BitVec.getLsbD_and, h1 i hi]
    by_cases hz : i = 0
    · rw [hz, show x.toBitVec.getLsbD 0 = false from h]
      rfl
    · have e0 : (0 : Int64).toBitVec.getLsbD i = false := (show ∀ i, i < 64 → (0 : Int64).toBitVec.getLsbD i = false by decide +kernel) i hi
      rw [e0]
      simp [hz]
theorem b6_get (x : Int64) {n : Nat} (hn : n < 64) : (lg_cmp (shr6 x (Int32.ofNat n) &&& (1 : Int64)) (0 : Int64)).toInt = 0 ↔ b6 x n = false := by
  rw [b6_and1]
  have h : b6 (shr6 x (Int32.ofNat n)) 0 = b6 x n := by
    rw [← n6_b, ← n6_b, n6_shr x hn, Nat.testBit_div_two_pow, Nat.zero_add]
  rw [h]
theorem lb_has {a n : Nat} {b : Int32} {s : vS} (hb : b.toInt = n) (hn : n < 125) : f_Cs_has a b s = some (if lb s a n = true then 1 else 0, s) := by
  unfold f_Cs_has lb
  rw [if_neg (by omega), if_pos (by omega)]
  by_cases c : 64 ≤ b.toInt
  · have e : b - (64 : Int32) = Int32.ofNat (n - 64) := by
      apply Int32.toInt_inj.mp
      rw [v_sub (y := 64) (show -2147483648 ≤ b.toInt - 64 by omega) (show b.toInt - 64 < 2147483648 by omega), v_oi (by omega)]
      show b.toInt - 64 = _
      omega
    rw [if_pos c, e, if_neg (show ¬ n < 64 by omega)]
    have h := b6_get (s.2 a 1) (n := n - 64) (by omega)
    by_cases h1 : b6 (s.2 a 1) (n - 64) = true
    · rw [if_pos h1, if_neg (fun z => by rw [h.mp z] at h1; cases h1)]
    · rw [if_neg h1, if_pos (h.mpr (by simpa using h1))]
  · have e : b = Int32.ofNat n := by
      apply Int32.toInt_inj.mp
      rw [v_oi (by omega)]
      exact hb
    rw [if_neg c, if_pos (show n < 64 by omega)]
    have h := b6_get (s.2 a 0) (n := n) (by omega)
    rw [← e] at h
    by_cases h1 : b6 (s.2 a 0) n = true
    · rw [if_pos h1, if_neg (fun z => by rw [h.mp z] at h1; cases h1)]
    · rw [if_neg h1, if_pos (h.mpr (by simpa using h1))]
theorem k6l : ∀ n, n < 64 → ((Int32.toInt64 (Int32.ofNat n) &&& (63 : Int64)).toBitVec.smod 64).toNat = n := by decide +kernel
theorem b6_set (x : Int64) {n i : Nat} (hn : n < 64) (hi : i < 64) : b6 (x ||| ((1 : Int64) <<< (Int32.toInt64 (Int32.ofNat n) &&& (63 : Int64)))) i = (b6 x i || decide (i = n)) := by
  unfold b6
  rw [Int64.toBitVec_or, BitVec.getLsbD_or, Int64.toBitVec_shiftLeft]
  congr 1
  show ((1 : Int64).toBitVec <<< ((Int32.toInt64 (Int32.ofNat n) &&& (63 : Int64)).toBitVec.smod 64).toNat).getLsbD i = _
  rw [k6l n hn, BitVec.getLsbD_shiftLeft]
  have h1 : ∀ i, i < 64 → (1 : Int64).toBitVec.getLsbD i = decide (i = 0) := by decide +kernel
  rw [h1 (i - n) (by omega)]
  by_cases h : i < n
  · simp [h]
    omega
  · by_cases h2 : i = n
    · subst h2
      simp [hi]
    · simp [hi, h, h2]
      omega
/-- add -/
theorem lb_add {a n : Nat} {b : Int32} {s : vS} (hb : b.toInt = n) (hn : n < 125) : ∃ t, f_Cs_add a b s = some ((), t) ∧ t.1 = s.1 ∧ (∀ c j, ¬ c = a → t.2 c j = s.2 c j) ∧ ∀ i, i < 128 → lb t a i = (lb s a i || decide (i = n)) := by
  unfold f_Cs_add
  rw [if_neg (by omega)]
  by_cases c : 64 ≤ b.toInt
  · have e : b - (64 : Int32) = Int32.ofNat (n - 64) := by
      apply Int32.toInt_inj.mp
      rw [v_sub (y := 64) (show -2147483648 ≤ b.toInt - 64 by omega) (show b.toInt - 64 < 2147483648 by omega), v_oi (by omega)]
      show b.toInt - 64 = _
      omega
    rw [if_pos c, if_neg (by omega), if_neg (by omega), e]
    refine ⟨_, rfl, rfl, fun d j hd => ?_, fun i hi => ?_⟩
    · rw [v_w2_2, if_neg (fun z => hd z.1)]
    · unfold lb
      rw [v_w2_2, v_w2_2, if_neg (show ¬ (a = a ∧ 0 = 1) from fun z => absurd z.2 (by decide)), if_pos (show a = a ∧ 1 = 1 from ⟨rfl, rfl⟩)]
      by_cases h : i < 64
      · rw [if_pos h, if_pos h, show decide (i = n) = false from decide_eq_false (by omega), Bool.or_false]
      · rw [if_neg h, if_neg h, b6_set _ (by omega) (by omega)]
        congr 1
        by_cases h2 : i = n
        · rw [decide_eq_true h2, decide_eq_true (by omega)]
        · rw [decide_eq_false h2, decide_eq_false (by omega)]
  · have e : b = Int32.ofNat n := by
      apply Int32.toInt_inj.mp
      rw [v_oi (by omega)]
      exact hb
    rw [if_neg c, e]
    refine ⟨_, rfl, rfl, fun d j hd => ?_, fun i hi => ?_⟩
    · rw [v_w2_2, if_neg (fun z => hd z.1)]
    · unfold lb
      rw [v_w2_2, v_w2_2, if_pos (show a = a ∧ 0 = 0 from ⟨rfl, rfl⟩), if_neg (show ¬ (a = a ∧ 1 = 0) from fun z => absurd z.2 (by decide))]
      by_cases h : i < 64
      · rw [if_pos h, if_pos h, b6_set _ (by omega) h]
      · rw [if_neg h, if_neg h, show decide (i = n) = false from decide_eq_false (by omega), Bool.or_false]
/-- clear -/
theorem lb_clear {a : Nat} {s : vS} : ∃ t, f_Cs_clear a s = some ((), t) ∧ t.1 = s.1 ∧ (∀ c j, ¬ c = a → t.2 c j = s.2 c j) ∧ ∀ i, lb t a i = false := by
  unfold f_Cs_clear
  refine ⟨_, rfl, rfl, fun d j hd => ?_, fun i => ?_⟩
  · rw [v_w2_2, if_neg (fun z => hd z.1), v_w2_2, if_neg (fun z => hd z.1)]
  · unfold lb
    rw [v_w2_2, v_w2_2, if_neg (show ¬ (a = a ∧ 0 = 1) from fun z => absurd z.2 (by decide)), v_w2_2, if_pos (show a = a ∧ 0 = 0 from ⟨rfl, rfl⟩), if_pos (show a = a ∧ 1 = 1 from ⟨rfl, rfl⟩)]
    have h0 : ∀ j, b6 (0 : Int64) j = false := fun j => BitVec.getLsbD_zero
    rw [h0, h0]
    by_cases h : i < 64
    · rw [if_pos h]
    · rw [if_neg h]
/-- size -/
theorem lb_size {a : Nat} {s : vS} (h : ∀ i, 125 ≤ i → i < 128 → lb s a i = false) : f_Cs_size a s = some (Int32.ofNat (cnt (lb s a) 125), s) := by
  have h1 : cnt (lb s a) 128 = cnt (lb s a) 125 := by
    have h2 : cnt (fun i => lb s a (125 + i)) 3 = 0 := by
      show 0 + (if lb s a (125 + 0) = true then 1 else 0) + (if lb s a (125 + 1) = true then 1 else 0) + (if lb s a (125 + 2) = true then 1 else 0) = 0
      rw [h 125 (by decide) (by decide), h 126 (by decide) (by decide), h 127 (by decide) (by decide)]
      rfl
    have h3 := cnt_add (p := lb s a) (m := 125) 3
    rw [h2] at h3
    rw [show (128 : Nat) = 125 + 3 from rfl]
    exact h3.trans (Nat.add_zero _)
  have h4 : cnt (lb s a) 128 = cnt (b6 (s.2 a 0)) 64 + cnt (b6 (s.2 a 1)) 64 := by
    have h3 := cnt_add (p := lb s a) (m := 64) 64
    have e1 : cnt (lb s a) 64 = cnt (b6 (s.2 a 0)) 64 := cnt_eq 64 (fun i hi => by unfold lb; rw [if_pos hi])
    have e2 : cnt (fun i => lb s a (64 + i)) 64 = cnt (b6 (s.2 a 1)) 64 := cnt_eq 64 (fun i _ => by
      show lb s a (64 + i) = _
      unfold lb
      rw [if_neg (by omega), show 64 + i - 64 = i by omega])
    rw [e1, e2] at h3
    rw [show (128 : Nat) = 64 + 64 from rfl]
    exact h3
  unfold f_Cs_size
  rw [pop6, v_bi_some, pop6, v_bi_some, ← h1, h4, Int32.ofNat_add]
