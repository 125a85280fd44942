/-! THE LAW in the small machine -/
def s_above : List Int32 := [-1, 0, 0, 2, 1, 3, 0, 6]
def s_own : List Int32 := [1, 10, 11, 2, 20, 0, 0, 0, 0, 30, 0, 0, 0, 41, 40, 0, 0, 0, 0, 50, 0, 0, 60, 61, 70, 0, 0, 0, 81, 80, 0, 0]
/-- the read-only rows: the two statics; the script of L ints xs; how many of them may be read -/
def s_rows (q L : Nat) (xs : Nat → Int32) : sE := fun j => bif Nat.beq j 0 then (8, fun i => s_above.getD i 0) else bif Nat.beq j 1 then (32, fun i => s_own.getD i 0) else bif Nat.beq j 2 then (L, xs) else (q, fun _ => 0)
def s_law : sMeth := (4, (some .boolean, (12, s_cd291)))
set_option maxRecDepth 100000 in
theorem s_law_r0 : kw_wR 12 false code s_cd291 0 16 = true := by decide +kernel
set_option maxRecDepth 100000 in
theorem s_law_r1 : kw_wR 12 false code s_cd291 16 16 = true := by decide +kernel
set_option maxRecDepth 100000 in
theorem s_law_r2 : kw_wR 12 false code s_cd291 32 16 = true := by decide +kernel
set_option maxRecDepth 100000 in
theorem s_law_r3 : kw_wR 12 false code s_cd291 48 16 = true := by decide +kernel
set_option maxRecDepth 100000 in
theorem s_law_r4 : kw_wR 12 false code s_cd291 64 16 = true := by decide +kernel
theorem s_law_len : s_cd291.length = 75 := by decide +kernel
theorem s_law_cd : s_Cd 12 false code s_cd291 := by
  refine s_Cd_of (List.all_eq_true.mpr fun pc hpc => ?_)
  have h := List.mem_range.mp hpc
  rw [s_law_len] at h
  by_cases h0 : pc < 256
  · exact kw_wR_at s_law_r0 (by omega) (by omega)
  by_cases h1 : pc < 512
  · exact kw_wR_at s_law_r1 (by omega) (by omega)
  by_cases h2 : pc < 768
  · exact kw_wR_at s_law_r2 (by omega) (by omega)
  by_cases h3 : pc < 1024
  · exact kw_wR_at s_law_r3 (by omega) (by omega)
  by_cases h4 : pc < 1280
  · exact kw_wR_at s_law_r4 (by omega) (by omega)
  omega
set_option maxRecDepth 100000 in
theorem s_law_ln0 : s_lnC s_cd291 = true := by decide +kernel
theorem s_law_ld : s_Ld s_cd291 := s_Ld_of s_law_ln0
