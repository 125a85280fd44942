/-! THE LAW in the small machine -/
def s_above : List Int32 := [-1, 0, 0, 2, 1, 3, 0, 6]
def s_own : List Int32 := [1, 10, 11, 2, 20, 0, 0, 0, 0, 30, 0, 0, 0, 41, 40, 0, 0, 0, 0, 50, 0, 0, 60, 61, 70, 0, 0, 0, 81, 80, 0, 0]
/-- the read-only rows: the two statics; the script of L ints xs; how many of them may be read -/
def s_rows (q L : Nat) (xs : Nat → Int32) : sE := fun j => bif Nat.beq j 0 then (8, fun i => s_above.getD i 0) else bif Nat.beq j 1 then (32, fun i => s_own.getD i 0) else bif Nat.beq j 2 then (L, xs) else (q, fun _ => 0)
def s_law : sMeth := (4, (some .boolean, (12, s_cd291)))
def s_chkR (lo n : Nat) : Bool := (List.range n).all (fun i => s_chk1 12 false code s_cd291 (lo + i))
theorem s_chkR_at {lo n pc : Nat} (h : s_chkR lo n = true) (h1 : lo ≤ pc) (h2 : pc < lo + n) : s_chk1 12 false code s_cd291 pc = true := by
  have h3 := List.all_eq_true.mp h (pc - lo) (List.mem_range.mpr (by omega))
  rwa [show lo + (pc - lo) = pc by omega] at h3
set_option maxRecDepth 100000 in
theorem s_law_r0 : s_chkR 0 64 = true := by decide +kernel
set_option maxRecDepth 100000 in
theorem s_law_r1 : s_chkR 64 64 = true := by decide +kernel
set_option maxRecDepth 100000 in
theorem s_law_r2 : s_chkR 128 64 = true := by decide +kernel
set_option maxRecDepth 100000 in
theorem s_law_r3 : s_chkR 192 64 = true := by decide +kernel
set_option maxRecDepth 100000 in
theorem s_law_r4 : s_chkR 256 64 = true := by decide +kernel
set_option maxRecDepth 100000 in
theorem s_law_r5 : s_chkR 320 64 = true := by decide +kernel
set_option maxRecDepth 100000 in
theorem s_law_r6 : s_chkR 384 64 = true := by decide +kernel
set_option maxRecDepth 100000 in
theorem s_law_r7 : s_chkR 448 64 = true := by decide +kernel
set_option maxRecDepth 100000 in
theorem s_law_r8 : s_chkR 512 64 = true := by decide +kernel
set_option maxRecDepth 100000 in
theorem s_law_r9 : s_chkR 576 64 = true := by decide +kernel
set_option maxRecDepth 100000 in
theorem s_law_r10 : s_chkR 640 64 = true := by decide +kernel
set_option maxRecDepth 100000 in
theorem s_law_r11 : s_chkR 704 64 = true := by decide +kernel
set_option maxRecDepth 100000 in
theorem s_law_r12 : s_chkR 768 64 = true := by decide +kernel
set_option maxRecDepth 100000 in
theorem s_law_r13 : s_chkR 832 64 = true := by decide +kernel
set_option maxRecDepth 100000 in
theorem s_law_r14 : s_chkR 896 64 = true := by decide +kernel
set_option maxRecDepth 100000 in
theorem s_law_r15 : s_chkR 960 64 = true := by decide +kernel
set_option maxRecDepth 100000 in
theorem s_law_r16 : s_chkR 1024 64 = true := by decide +kernel
set_option maxRecDepth 100000 in
theorem s_law_r17 : s_chkR 1088 64 = true := by decide +kernel
set_option maxRecDepth 100000 in
theorem s_law_r18 : s_chkR 1152 64 = true := by decide +kernel
theorem s_law_len : s_cd291.length = 75 := by decide +kernel
theorem s_law_cd : s_Cd 12 false code s_cd291 := by
  refine s_Cd_of (List.all_eq_true.mpr fun pc hpc => ?_)
  have h := List.mem_range.mp hpc
  rw [s_law_len] at h
  by_cases h0 : pc < 64
  · exact s_chkR_at s_law_r0 (by omega) (by omega)
  by_cases h1 : pc < 128
  · exact s_chkR_at s_law_r1 (by omega) (by omega)
  by_cases h2 : pc < 192
  · exact s_chkR_at s_law_r2 (by omega) (by omega)
  by_cases h3 : pc < 256
  · exact s_chkR_at s_law_r3 (by omega) (by omega)
  by_cases h4 : pc < 320
  · exact s_chkR_at s_law_r4 (by omega) (by omega)
  by_cases h5 : pc < 384
  · exact s_chkR_at s_law_r5 (by omega) (by omega)
  by_cases h6 : pc < 448
  · exact s_chkR_at s_law_r6 (by omega) (by omega)
  by_cases h7 : pc < 512
  · exact s_chkR_at s_law_r7 (by omega) (by omega)
  by_cases h8 : pc < 576
  · exact s_chkR_at s_law_r8 (by omega) (by omega)
  by_cases h9 : pc < 640
  · exact s_chkR_at s_law_r9 (by omega) (by omega)
  by_cases h10 : pc < 704
  · exact s_chkR_at s_law_r10 (by omega) (by omega)
  by_cases h11 : pc < 768
  · exact s_chkR_at s_law_r11 (by omega) (by omega)
  by_cases h12 : pc < 832
  · exact s_chkR_at s_law_r12 (by omega) (by omega)
  by_cases h13 : pc < 896
  · exact s_chkR_at s_law_r13 (by omega) (by omega)
  by_cases h14 : pc < 960
  · exact s_chkR_at s_law_r14 (by omega) (by omega)
  by_cases h15 : pc < 1024
  · exact s_chkR_at s_law_r15 (by omega) (by omega)
  by_cases h16 : pc < 1088
  · exact s_chkR_at s_law_r16 (by omega) (by omega)
  by_cases h17 : pc < 1152
  · exact s_chkR_at s_law_r17 (by omega) (by omega)
  by_cases h18 : pc < 1216
  · exact s_chkR_at s_law_r18 (by omega) (by omega)
  omega
set_option maxRecDepth 100000 in
theorem s_law_ln0 : s_lnC s_cd291 = true := by decide +kernel
theorem s_law_ld : s_Ld s_cd291 := s_Ld_of s_law_ln0
