/-! bits (the first rows begin as kit/laws/BITS.to-paste has them) -/
def bt (x : Int32) (i : Nat) : Bool := x.toBitVec.getLsbD i
theorem b_ext {x y : Int32} (h : ∀ i, i < 32 → bt x i = bt y i) : x = y := Int32.toBitVec_inj.mp (BitVec.eq_of_getLsbD_eq (fun i hi => h i hi))
theorem b_or (x y : Int32) (i : Nat) : bt (x ||| y) i = (bt x i || bt y i) := by unfold bt; rw [Int32.toBitVec_or, BitVec.getLsbD_or]
theorem b_and (x y : Int32) (i : Nat) : bt (x &&& y) i = (bt x i && bt y i) := by unfold bt; rw [Int32.toBitVec_and, BitVec.getLsbD_and]
theorem b_0 (i : Nat) : bt 0 i = false := BitVec.getLsbD_zero
theorem b_sl : ∀ n, n < 32 → ((nI n &&& 31).toBitVec.smod 32).toNat = n := by decide +kernel
theorem b_su : ∀ n, n < 32 → (((nI n).toUInt32 &&& Int32.toUInt32 31).toBitVec % 32).toNat = n := by decide +kernel
theorem b_shl (n : Nat) (hn : n < 32) (x : Int32) {i : Nat} (hi : i < 32) : bt (x <<< (nI n &&& 31)) i = (decide (n ≤ i) && bt x (i - n)) := by
  unfold bt
  rw [Int32.toBitVec_shiftLeft]
  show (x.toBitVec <<< ((nI n &&& 31).toBitVec.smod 32).toNat).getLsbD i = _
  rw [b_sl n hn, BitVec.getLsbD_shiftLeft]
  rcases Nat.lt_or_ge i n with h | h
  · simp [h, Nat.not_le.mpr h]
  · simp [hi, h, Nat.not_lt.mpr h]
theorem b_ushr (n : Nat) (hn : n < 32) (x : Int32) (i : Nat) : bt ((x.toUInt32 >>> ((nI n).toUInt32 &&& Int32.toUInt32 31)).toInt32) i = bt x (n + i) := by
  show (x.toUInt32 >>> ((nI n).toUInt32 &&& Int32.toUInt32 31)).toBitVec.getLsbD i = x.toUInt32.toBitVec.getLsbD (n + i)
  rw [UInt32.toBitVec_shiftRight]
  show (x.toUInt32.toBitVec >>> (((nI n).toUInt32 &&& Int32.toUInt32 31).toBitVec % 32).toNat).getLsbD i = _
  rw [b_su n hn, BitVec.getLsbD_ushiftRight]
theorem b_sshr (n : Nat) (hn : n < 32) (x : Int32) {i : Nat} (hi : i < 32) : bt (x >>> (nI n &&& 31)) i = if n + i < 32 then bt x (n + i) else bt x 31 := by
  unfold bt
  rw [Int32.toBitVec_shiftRight]
  show (x.toBitVec.sshiftRight ((nI n &&& 31).toBitVec.smod 32).toNat).getLsbD i = _
  rw [b_sl n hn, BitVec.getLsbD_sshiftRight, BitVec.msb_eq_getLsbD_last]
  simp [hi]
theorem b_1 : ∀ i, i < 32 → bt 1 i = decide (i = 0) := by decide +kernel
theorem b_and1 (y : Int32) : (y &&& 1).toInt = 0 ↔ bt y 0 = false := by
  have e : (y &&& 1).toInt = 0 ↔ (y &&& 1) = 0 := ⟨fun h => Int32.toInt_inj.mp h, fun h => by rw [h]; rfl⟩
  rw [e]
  constructor
  · intro h
    have h1 := b_and y 1 0
    rw [h, b_0, b_1 0 (by decide)] at h1
    simpa using h1.symm
  · intro h
    refine b_ext (fun i hi => ?_)
    rw [b_and, b_0, b_1 i hi]
    by_cases hz : i = 0
    · rw [hz, h]
      rfl
    · simp [hz]
/-- whether a number is in a set -/
theorem b_get {x : Int32} {n : Nat} (hn : n < 32) : ((x >>> (Int32.ofNat n &&& 31)) &&& (1 : Int32)).toInt = 0 ↔ bt x n = false := by
  rw [b_and1]
  have h := b_sshr n hn x (i := 0) (by decide)
  rw [show n + 0 = n from rfl, if_pos hn] at h
  rw [show Int32.ofNat n = nI n from rfl, h]
theorem b_set {x : Int32} {n i : Nat} (hn : n < 32) (hi : i < 32) : bt (x ||| ((1 : Int32) <<< (Int32.ofNat n &&& 31))) i = (bt x i || decide (i = n)) := by
  rw [b_or, show Int32.ofNat n = nI n from rfl, b_shl n hn 1 hi]
  congr 1
  by_cases h : n ≤ i
  · rw [b_1 _ (by omega)]
    by_cases h2 : i = n
    · subst h2
      simp
    · simp [h, h2]
      omega
  · simp [h]
    omega
/-- how many of the first n numbers are in a set -/
def b_cnt (x : Int32) : Nat → Nat
  | 0 => 0
  | n + 1 => b_cnt x n + (if bt x n = true then 1 else 0)
theorem b_cnt_le {x y : Int32} {k : Nat} : ∀ n, (∀ i, i < n → bt y i = (bt x i || decide (i = k))) → b_cnt y n ≤ b_cnt x n + (if k < n then 1 else 0)
  | 0, _ => Nat.zero_le _
  | n + 1, h => by
    have ih := b_cnt_le n (fun i hi => h i (by omega))
    have h1 := h n (by omega)
    show b_cnt y n + (if bt y n = true then 1 else 0) ≤ b_cnt x n + (if bt x n = true then 1 else 0) + (if k < n + 1 then 1 else 0)
    rw [h1]
    by_cases hk : n = k
    · subst hk
      rw [if_neg (by omega)] at ih
      rw [if_pos (show (bt x n || decide (n = n)) = true by simp), if_pos (show n < n + 1 by omega)]
      omega
    · have e : (bt x n || decide (n = k)) = bt x n := by simp [hk]
      rw [e]
      by_cases hkn : k < n
      · rw [if_pos hkn] at ih
        rw [if_pos (show k < n + 1 by omega)]
        omega
      · rw [if_neg hkn] at ih
        rw [if_neg (show ¬ k < n + 1 by omega)]
        omega
theorem b_cnt_all {x : Int32} : ∀ n, (∀ i, i < n → bt x i = true) → b_cnt x n = n
  | 0, _ => rfl
  | n + 1, h => by
    show b_cnt x n + (if bt x n = true then 1 else 0) = n + 1
    rw [b_cnt_all n (fun i hi => h i (by omega)), if_pos (h n (by omega))]
theorem b_cnt0 : ∀ n, b_cnt 0 n = 0
  | 0 => rfl
  | n + 1 => by
    show b_cnt 0 n + (if bt 0 n = true then 1 else 0) = 0
    rw [b_cnt0 n, b_0]
    rfl
