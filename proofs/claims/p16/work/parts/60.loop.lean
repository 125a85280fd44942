/-! THE LAW's loop: a case each; the whole -/
def l_in (L : Nat) (v : Int32) : Prop := 0 ≤ v.toInt ∧ v.toInt + 6 ≤ (L : Int) ∧ (L : Int) ≤ 3072
theorem l_ix1 {L : Nat} {v : Int32} (h : l_in L v) : 0 ≤ (v + (1 : Int32)).toInt ∧ (v + (1 : Int32)).toInt < ((L : Nat) : Int) := by
  obtain ⟨h1, h2, h3⟩ := h
  rw [i32_add (y := 1) (show -2 ^ 31 ≤ v.toInt + 1 by omega) (show v.toInt + 1 < 2 ^ 31 by omega)]
  show 0 ≤ v.toInt + 1 ∧ v.toInt + 1 < (L : Int)
  omega
theorem l_ix2 {L : Nat} {v : Int32} (h : l_in L v) : 0 ≤ (v + (2 : Int32)).toInt ∧ (v + (2 : Int32)).toInt < ((L : Nat) : Int) := by
  obtain ⟨h1, h2, h3⟩ := h
  rw [i32_add (y := 2) (show -2 ^ 31 ≤ v.toInt + 2 by omega) (show v.toInt + 2 < 2 ^ 31 by omega)]
  show 0 ≤ v.toInt + 2 ∧ v.toInt + 2 < (L : Int)
  omega
theorem l_ix3 {L : Nat} {v : Int32} (h : l_in L v) : 0 ≤ (v + (3 : Int32)).toInt ∧ (v + (3 : Int32)).toInt < ((L : Nat) : Int) := by
  obtain ⟨h1, h2, h3⟩ := h
  rw [i32_add (y := 3) (show -2 ^ 31 ≤ v.toInt + 3 by omega) (show v.toInt + 3 < 2 ^ 31 by omega)]
  show 0 ≤ v.toInt + 3 ∧ v.toInt + 3 < (L : Int)
  omega
theorem l_ix4 {L : Nat} {v : Int32} (h : l_in L v) : 0 ≤ (v + (4 : Int32)).toInt ∧ (v + (4 : Int32)).toInt < ((L : Nat) : Int) := by
  obtain ⟨h1, h2, h3⟩ := h
  rw [i32_add (y := 4) (show -2 ^ 31 ≤ v.toInt + 4 by omega) (show v.toInt + 4 < 2 ^ 31 by omega)]
  show 0 ≤ v.toInt + 4 ∧ v.toInt + 4 < (L : Int)
  omega
theorem l_ix5 {L : Nat} {v : Int32} (h : l_in L v) : 0 ≤ (v + (5 : Int32)).toInt ∧ (v + (5 : Int32)).toInt < ((L : Nat) : Int) := by
  obtain ⟨h1, h2, h3⟩ := h
  rw [i32_add (y := 5) (show -2 ^ 31 ≤ v.toInt + 5 by omega) (show v.toInt + 5 < 2 ^ 31 by omega)]
  show 0 ≤ v.toInt + 5 ∧ v.toInt + 5 < (L : Int)
  omega
set_option maxRecDepth 100000 in
set_option maxHeartbeats 4000000 in
theorem l_c0 {L : Nat} {xs : Nat → Int32} {I : vS → Prop} {Q : Option Value → sM → Prop} {v : Int32} {s : vS} (hv : l_in L v) (h : v_T (f_Ol_feed ((xs (Int32.toNatClampNeg (v + (1 : Int32))))) s) (fun r1 s1 => v_T (f_Md_feed ((xs (Int32.toNatClampNeg (v + (1 : Int32))))) s1) (fun r2 s2 => I s2))) (kk : ∀ t, I t → s_Ek (s_rows 3 L xs) 1300 s_law 18 [(3, .int (v + 6)), (2, .ref 151), (1, .ref 0), (0, .retAddr 2)] [] (v_mk t) Q) : s_Ek (s_rows 3 L xs) 1300 s_law 33 [(3, .int v), (2, .ref 151), (1, .ref 0), (0, .retAddr 2)] [.int 0] (v_mk s) Q := by
  refine s_ek_bk 1 (P := 176) (ls' := [(3, .int v), (2, .ref 151), (1, .ref 0), (0, .retAddr 2)]) (st' := []) (M' := v_mk s) rfl ?_
  refine s_ek_bk 5 (P := 181) (ls' := [(3, .int v), (2, .ref 151), (1, .ref 0), (0, .retAddr 2)]) (st' := [.int (v + (1 : Int32)), .retAddr 2, .ref 0]) (M' := v_mk s) rfl ?_
  refine v_ias (j := 2) rfl (l_ix1 hv) rfl ?_
  show s_Ek (s_rows 3 L xs) 1300 s_law 182 [(3, .int v), (2, .ref 151), (1, .ref 0), (0, .retAddr 2)] [.int (xs (Int32.toNatClampNeg (v + (1 : Int32)))), .ref 0] (v_mk s) _
  obtain ⟨r1, s1, e1, h⟩ := h
  refine v_cV (ν := s_e134.1) (w := 1073) (a := 0) (as' := [.int (xs (Int32.toNatClampNeg (v + (1 : Int32))))]) (r := []) (o := some (.int r1)) (by omega) rfl rfl rfl (v_mk_kd (k := 10) (rfl : v_kd 0 = 10) (by decide)) rfl (t_Ol_feed e1 (by omega)) ?_
  show s_Ek (s_rows 3 L xs) 1300 s_law 185 [(3, .int v), (2, .ref 151), (1, .ref 0), (0, .retAddr 2)] [.int r1] (v_mk s1) _
  refine s_ek_bk 6 (P := 191) (ls' := [(3, .int v), (2, .ref 151), (1, .ref 0), (0, .retAddr 2)]) (st' := [.int (v + (1 : Int32)), .retAddr 2, .ref 151]) (M' := v_mk s1) rfl ?_
  refine v_ias (j := 2) rfl (l_ix1 hv) rfl ?_
  show s_Ek (s_rows 3 L xs) 1300 s_law 192 [(3, .int v), (2, .ref 151), (1, .ref 0), (0, .retAddr 2)] [.int (xs (Int32.toNatClampNeg (v + (1 : Int32)))), .ref 151] (v_mk s1) _
  obtain ⟨r2, s2, e2, h⟩ := h
  refine v_cV (ν := s_e183.1) (w := 1465) (a := 151) (as' := [.int (xs (Int32.toNatClampNeg (v + (1 : Int32))))]) (r := []) (o := some (.int r2)) (by omega) rfl rfl rfl (v_mk_kd (k := 11) (rfl : v_kd 151 = 11) (by decide)) rfl (t_Md_feed e2 (by omega)) ?_
  show s_Ek (s_rows 3 L xs) 1300 s_law 195 [(3, .int v), (2, .ref 151), (1, .ref 0), (0, .retAddr 2)] [.int r2] (v_mk s2) _
  refine s_ek_bk 4 (P := 18) (ls' := [(3, .int (v + 6)), (2, .ref 151), (1, .ref 0), (0, .retAddr 2)]) (st' := []) (M' := v_mk s2) rfl ?_
  exact kk _ h
set_option maxRecDepth 100000 in
set_option maxHeartbeats 4000000 in
theorem l_c1 {L : Nat} {xs : Nat → Int32} {I : vS → Prop} {Q : Option Value → sM → Prop} {v : Int32} {s : vS} (hv : l_in L v) (h : v_T (f_Ol_law ((xs (Int32.toNatClampNeg (v + (1 : Int32))))) ((xs (Int32.toNatClampNeg (v + (2 : Int32))))) s) (fun r1 s1 => v_T (f_Md_law ((xs (Int32.toNatClampNeg (v + (1 : Int32))))) ((xs (Int32.toNatClampNeg (v + (2 : Int32))))) s1) (fun r2 s2 => I s2))) (kk : ∀ t, I t → s_Ek (s_rows 3 L xs) 1300 s_law 18 [(3, .int (v + 6)), (2, .ref 151), (1, .ref 0), (0, .retAddr 2)] [] (v_mk t) Q) : s_Ek (s_rows 3 L xs) 1300 s_law 33 [(3, .int v), (2, .ref 151), (1, .ref 0), (0, .retAddr 2)] [.int 1] (v_mk s) Q := by
  refine s_ek_bk 1 (P := 199) (ls' := [(3, .int v), (2, .ref 151), (1, .ref 0), (0, .retAddr 2)]) (st' := []) (M' := v_mk s) rfl ?_
  refine s_ek_bk 5 (P := 204) (ls' := [(3, .int v), (2, .ref 151), (1, .ref 0), (0, .retAddr 2)]) (st' := [.int (v + (1 : Int32)), .retAddr 2, .ref 0]) (M' := v_mk s) rfl ?_
  refine v_ias (j := 2) rfl (l_ix1 hv) rfl ?_
  show s_Ek (s_rows 3 L xs) 1300 s_law 205 [(3, .int v), (2, .ref 151), (1, .ref 0), (0, .retAddr 2)] [.int (xs (Int32.toNatClampNeg (v + (1 : Int32)))), .ref 0] (v_mk s) _
  refine s_ek_bk 4 (P := 209) (ls' := [(3, .int v), (2, .ref 151), (1, .ref 0), (0, .retAddr 2)]) (st' := [.int (v + (2 : Int32)), .retAddr 2, .int (xs (Int32.toNatClampNeg (v + (1 : Int32)))), .ref 0]) (M' := v_mk s) rfl ?_
  refine v_ias (j := 2) rfl (l_ix2 hv) rfl ?_
  show s_Ek (s_rows 3 L xs) 1300 s_law 210 [(3, .int v), (2, .ref 151), (1, .ref 0), (0, .retAddr 2)] [.int (xs (Int32.toNatClampNeg (v + (2 : Int32)))), .int (xs (Int32.toNatClampNeg (v + (1 : Int32)))), .ref 0] (v_mk s) _
  obtain ⟨r1, s1, e1, h⟩ := h
  refine v_cV (ν := s_e135.1) (w := 1082) (a := 0) (as' := [.int (xs (Int32.toNatClampNeg (v + (1 : Int32)))), .int (xs (Int32.toNatClampNeg (v + (2 : Int32))))]) (r := []) (o := some (.int r1)) (by omega) rfl rfl rfl (v_mk_kd (k := 10) (rfl : v_kd 0 = 10) (by decide)) rfl (t_Ol_law e1 (by omega)) ?_
  show s_Ek (s_rows 3 L xs) 1300 s_law 213 [(3, .int v), (2, .ref 151), (1, .ref 0), (0, .retAddr 2)] [.int r1] (v_mk s1) _
  refine s_ek_bk 6 (P := 219) (ls' := [(3, .int v), (2, .ref 151), (1, .ref 0), (0, .retAddr 2)]) (st' := [.int (v + (1 : Int32)), .retAddr 2, .ref 151]) (M' := v_mk s1) rfl ?_
  refine v_ias (j := 2) rfl (l_ix1 hv) rfl ?_
  show s_Ek (s_rows 3 L xs) 1300 s_law 220 [(3, .int v), (2, .ref 151), (1, .ref 0), (0, .retAddr 2)] [.int (xs (Int32.toNatClampNeg (v + (1 : Int32)))), .ref 151] (v_mk s1) _
  refine s_ek_bk 4 (P := 224) (ls' := [(3, .int v), (2, .ref 151), (1, .ref 0), (0, .retAddr 2)]) (st' := [.int (v + (2 : Int32)), .retAddr 2, .int (xs (Int32.toNatClampNeg (v + (1 : Int32)))), .ref 151]) (M' := v_mk s1) rfl ?_
  refine v_ias (j := 2) rfl (l_ix2 hv) rfl ?_
  show s_Ek (s_rows 3 L xs) 1300 s_law 225 [(3, .int v), (2, .ref 151), (1, .ref 0), (0, .retAddr 2)] [.int (xs (Int32.toNatClampNeg (v + (2 : Int32)))), .int (xs (Int32.toNatClampNeg (v + (1 : Int32)))), .ref 151] (v_mk s1) _
  obtain ⟨r2, s2, e2, h⟩ := h
  refine v_cV (ν := s_e204.1) (w := 1634) (a := 151) (as' := [.int (xs (Int32.toNatClampNeg (v + (1 : Int32)))), .int (xs (Int32.toNatClampNeg (v + (2 : Int32))))]) (r := []) (o := some (.int r2)) (by omega) rfl rfl rfl (v_mk_kd (k := 11) (rfl : v_kd 151 = 11) (by decide)) rfl (t_Md_law e2 (by omega)) ?_
  show s_Ek (s_rows 3 L xs) 1300 s_law 228 [(3, .int v), (2, .ref 151), (1, .ref 0), (0, .retAddr 2)] [.int r2] (v_mk s2) _
  refine s_ek_bk 4 (P := 18) (ls' := [(3, .int (v + 6)), (2, .ref 151), (1, .ref 0), (0, .retAddr 2)]) (st' := []) (M' := v_mk s2) rfl ?_
  exact kk _ h
set_option maxRecDepth 100000 in
set_option maxHeartbeats 4000000 in
theorem l_c2 {L : Nat} {xs : Nat → Int32} {I : vS → Prop} {Q : Option Value → sM → Prop} {v : Int32} {s : vS} (hv : l_in L v) (h : v_T (f_Ol_laws ((xs (Int32.toNatClampNeg (v + (1 : Int32))))) ((xs (Int32.toNatClampNeg (v + (2 : Int32))))) ((xs (Int32.toNatClampNeg (v + (3 : Int32))))) s) (fun r1 s1 => v_T (f_Md_laws ((xs (Int32.toNatClampNeg (v + (1 : Int32))))) ((xs (Int32.toNatClampNeg (v + (2 : Int32))))) ((xs (Int32.toNatClampNeg (v + (3 : Int32))))) s1) (fun r2 s2 => I s2))) (kk : ∀ t, I t → s_Ek (s_rows 3 L xs) 1300 s_law 18 [(3, .int (v + 6)), (2, .ref 151), (1, .ref 0), (0, .retAddr 2)] [] (v_mk t) Q) : s_Ek (s_rows 3 L xs) 1300 s_law 33 [(3, .int v), (2, .ref 151), (1, .ref 0), (0, .retAddr 2)] [.int 2] (v_mk s) Q := by
  refine s_ek_bk 1 (P := 232) (ls' := [(3, .int v), (2, .ref 151), (1, .ref 0), (0, .retAddr 2)]) (st' := []) (M' := v_mk s) rfl ?_
  refine s_ek_bk 5 (P := 237) (ls' := [(3, .int v), (2, .ref 151), (1, .ref 0), (0, .retAddr 2)]) (st' := [.int (v + (1 : Int32)), .retAddr 2, .ref 0]) (M' := v_mk s) rfl ?_
  refine v_ias (j := 2) rfl (l_ix1 hv) rfl ?_
  show s_Ek (s_rows 3 L xs) 1300 s_law 238 [(3, .int v), (2, .ref 151), (1, .ref 0), (0, .retAddr 2)] [.int (xs (Int32.toNatClampNeg (v + (1 : Int32)))), .ref 0] (v_mk s) _
  refine s_ek_bk 4 (P := 242) (ls' := [(3, .int v), (2, .ref 151), (1, .ref 0), (0, .retAddr 2)]) (st' := [.int (v + (2 : Int32)), .retAddr 2, .int (xs (Int32.toNatClampNeg (v + (1 : Int32)))), .ref 0]) (M' := v_mk s) rfl ?_
  refine v_ias (j := 2) rfl (l_ix2 hv) rfl ?_
  show s_Ek (s_rows 3 L xs) 1300 s_law 243 [(3, .int v), (2, .ref 151), (1, .ref 0), (0, .retAddr 2)] [.int (xs (Int32.toNatClampNeg (v + (2 : Int32)))), .int (xs (Int32.toNatClampNeg (v + (1 : Int32)))), .ref 0] (v_mk s) _
  refine s_ek_bk 4 (P := 247) (ls' := [(3, .int v), (2, .ref 151), (1, .ref 0), (0, .retAddr 2)]) (st' := [.int (v + (3 : Int32)), .retAddr 2, .int (xs (Int32.toNatClampNeg (v + (2 : Int32)))), .int (xs (Int32.toNatClampNeg (v + (1 : Int32)))), .ref 0]) (M' := v_mk s) rfl ?_
  refine v_ias (j := 2) rfl (l_ix3 hv) rfl ?_
  show s_Ek (s_rows 3 L xs) 1300 s_law 248 [(3, .int v), (2, .ref 151), (1, .ref 0), (0, .retAddr 2)] [.int (xs (Int32.toNatClampNeg (v + (3 : Int32)))), .int (xs (Int32.toNatClampNeg (v + (2 : Int32)))), .int (xs (Int32.toNatClampNeg (v + (1 : Int32)))), .ref 0] (v_mk s) _
  obtain ⟨r1, s1, e1, h⟩ := h
  refine v_cV (ν := s_e136.1) (w := 1091) (a := 0) (as' := [.int (xs (Int32.toNatClampNeg (v + (1 : Int32)))), .int (xs (Int32.toNatClampNeg (v + (2 : Int32)))), .int (xs (Int32.toNatClampNeg (v + (3 : Int32))))]) (r := []) (o := some (.int r1)) (by omega) rfl rfl rfl (v_mk_kd (k := 10) (rfl : v_kd 0 = 10) (by decide)) rfl (t_Ol_laws e1 (by omega)) ?_
  show s_Ek (s_rows 3 L xs) 1300 s_law 251 [(3, .int v), (2, .ref 151), (1, .ref 0), (0, .retAddr 2)] [.int r1] (v_mk s1) _
  refine s_ek_bk 6 (P := 257) (ls' := [(3, .int v), (2, .ref 151), (1, .ref 0), (0, .retAddr 2)]) (st' := [.int (v + (1 : Int32)), .retAddr 2, .ref 151]) (M' := v_mk s1) rfl ?_
  refine v_ias (j := 2) rfl (l_ix1 hv) rfl ?_
  show s_Ek (s_rows 3 L xs) 1300 s_law 258 [(3, .int v), (2, .ref 151), (1, .ref 0), (0, .retAddr 2)] [.int (xs (Int32.toNatClampNeg (v + (1 : Int32)))), .ref 151] (v_mk s1) _
  refine s_ek_bk 4 (P := 262) (ls' := [(3, .int v), (2, .ref 151), (1, .ref 0), (0, .retAddr 2)]) (st' := [.int (v + (2 : Int32)), .retAddr 2, .int (xs (Int32.toNatClampNeg (v + (1 : Int32)))), .ref 151]) (M' := v_mk s1) rfl ?_
  refine v_ias (j := 2) rfl (l_ix2 hv) rfl ?_
  show s_Ek (s_rows 3 L xs) 1300 s_law 263 [(3, .int v), (2, .ref 151), (1, .ref 0), (0, .retAddr 2)] [.int (xs (Int32.toNatClampNeg (v + (2 : Int32)))), .int (xs (Int32.toNatClampNeg (v + (1 : Int32)))), .ref 151] (v_mk s1) _
  refine s_ek_bk 4 (P := 267) (ls' := [(3, .int v), (2, .ref 151), (1, .ref 0), (0, .retAddr 2)]) (st' := [.int (v + (3 : Int32)), .retAddr 2, .int (xs (Int32.toNatClampNeg (v + (2 : Int32)))), .int (xs (Int32.toNatClampNeg (v + (1 : Int32)))), .ref 151]) (M' := v_mk s1) rfl ?_
  refine v_ias (j := 2) rfl (l_ix3 hv) rfl ?_
  show s_Ek (s_rows 3 L xs) 1300 s_law 268 [(3, .int v), (2, .ref 151), (1, .ref 0), (0, .retAddr 2)] [.int (xs (Int32.toNatClampNeg (v + (3 : Int32)))), .int (xs (Int32.toNatClampNeg (v + (2 : Int32)))), .int (xs (Int32.toNatClampNeg (v + (1 : Int32)))), .ref 151] (v_mk s1) _
  obtain ⟨r2, s2, e2, h⟩ := h
  refine v_cV (ν := s_e207.1) (w := 1659) (a := 151) (as' := [.int (xs (Int32.toNatClampNeg (v + (1 : Int32)))), .int (xs (Int32.toNatClampNeg (v + (2 : Int32)))), .int (xs (Int32.toNatClampNeg (v + (3 : Int32))))]) (r := []) (o := some (.int r2)) (by omega) rfl rfl rfl (v_mk_kd (k := 11) (rfl : v_kd 151 = 11) (by decide)) rfl (t_Md_laws e2 (by omega)) ?_
  show s_Ek (s_rows 3 L xs) 1300 s_law 271 [(3, .int v), (2, .ref 151), (1, .ref 0), (0, .retAddr 2)] [.int r2] (v_mk s2) _
  refine s_ek_bk 4 (P := 18) (ls' := [(3, .int (v + 6)), (2, .ref 151), (1, .ref 0), (0, .retAddr 2)]) (st' := []) (M' := v_mk s2) rfl ?_
  exact kk _ h
set_option maxRecDepth 100000 in
set_option maxHeartbeats 4000000 in
theorem l_c3 {L : Nat} {xs : Nat → Int32} {I : vS → Prop} {Q : Option Value → sM → Prop} {v : Int32} {s : vS} (hv : l_in L v) (h : v_T (f_Ol_mend ((xs (Int32.toNatClampNeg (v + (1 : Int32))))) ((xs (Int32.toNatClampNeg (v + (2 : Int32))))) ((xs (Int32.toNatClampNeg (v + (3 : Int32))))) s) (fun r1 s1 => v_T (f_Md_mend ((xs (Int32.toNatClampNeg (v + (1 : Int32))))) ((xs (Int32.toNatClampNeg (v + (2 : Int32))))) ((xs (Int32.toNatClampNeg (v + (3 : Int32))))) s1) (fun r2 s2 => I s2))) (kk : ∀ t, I t → s_Ek (s_rows 3 L xs) 1300 s_law 18 [(3, .int (v + 6)), (2, .ref 151), (1, .ref 0), (0, .retAddr 2)] [] (v_mk t) Q) : s_Ek (s_rows 3 L xs) 1300 s_law 33 [(3, .int v), (2, .ref 151), (1, .ref 0), (0, .retAddr 2)] [.int 3] (v_mk s) Q := by
  refine s_ek_bk 1 (P := 275) (ls' := [(3, .int v), (2, .ref 151), (1, .ref 0), (0, .retAddr 2)]) (st' := []) (M' := v_mk s) rfl ?_
  refine s_ek_bk 5 (P := 280) (ls' := [(3, .int v), (2, .ref 151), (1, .ref 0), (0, .retAddr 2)]) (st' := [.int (v + (1 : Int32)), .retAddr 2, .ref 0]) (M' := v_mk s) rfl ?_
  refine v_ias (j := 2) rfl (l_ix1 hv) rfl ?_
  show s_Ek (s_rows 3 L xs) 1300 s_law 281 [(3, .int v), (2, .ref 151), (1, .ref 0), (0, .retAddr 2)] [.int (xs (Int32.toNatClampNeg (v + (1 : Int32)))), .ref 0] (v_mk s) _
  refine s_ek_bk 4 (P := 285) (ls' := [(3, .int v), (2, .ref 151), (1, .ref 0), (0, .retAddr 2)]) (st' := [.int (v + (2 : Int32)), .retAddr 2, .int (xs (Int32.toNatClampNeg (v + (1 : Int32)))), .ref 0]) (M' := v_mk s) rfl ?_
  refine v_ias (j := 2) rfl (l_ix2 hv) rfl ?_
  show s_Ek (s_rows 3 L xs) 1300 s_law 286 [(3, .int v), (2, .ref 151), (1, .ref 0), (0, .retAddr 2)] [.int (xs (Int32.toNatClampNeg (v + (2 : Int32)))), .int (xs (Int32.toNatClampNeg (v + (1 : Int32)))), .ref 0] (v_mk s) _
  refine s_ek_bk 4 (P := 290) (ls' := [(3, .int v), (2, .ref 151), (1, .ref 0), (0, .retAddr 2)]) (st' := [.int (v + (3 : Int32)), .retAddr 2, .int (xs (Int32.toNatClampNeg (v + (2 : Int32)))), .int (xs (Int32.toNatClampNeg (v + (1 : Int32)))), .ref 0]) (M' := v_mk s) rfl ?_
  refine v_ias (j := 2) rfl (l_ix3 hv) rfl ?_
  show s_Ek (s_rows 3 L xs) 1300 s_law 291 [(3, .int v), (2, .ref 151), (1, .ref 0), (0, .retAddr 2)] [.int (xs (Int32.toNatClampNeg (v + (3 : Int32)))), .int (xs (Int32.toNatClampNeg (v + (2 : Int32)))), .int (xs (Int32.toNatClampNeg (v + (1 : Int32)))), .ref 0] (v_mk s) _
  obtain ⟨r1, s1, e1, h⟩ := h
  refine v_cV (ν := s_e138.1) (w := 1107) (a := 0) (as' := [.int (xs (Int32.toNatClampNeg (v + (1 : Int32)))), .int (xs (Int32.toNatClampNeg (v + (2 : Int32)))), .int (xs (Int32.toNatClampNeg (v + (3 : Int32))))]) (r := []) (o := some (.int r1)) (by omega) rfl rfl rfl (v_mk_kd (k := 10) (rfl : v_kd 0 = 10) (by decide)) rfl (t_Ol_mend e1 (by omega)) ?_
  show s_Ek (s_rows 3 L xs) 1300 s_law 294 [(3, .int v), (2, .ref 151), (1, .ref 0), (0, .retAddr 2)] [.int r1] (v_mk s1) _
  refine s_ek_bk 6 (P := 300) (ls' := [(3, .int v), (2, .ref 151), (1, .ref 0), (0, .retAddr 2)]) (st' := [.int (v + (1 : Int32)), .retAddr 2, .ref 151]) (M' := v_mk s1) rfl ?_
  refine v_ias (j := 2) rfl (l_ix1 hv) rfl ?_
  show s_Ek (s_rows 3 L xs) 1300 s_law 301 [(3, .int v), (2, .ref 151), (1, .ref 0), (0, .retAddr 2)] [.int (xs (Int32.toNatClampNeg (v + (1 : Int32)))), .ref 151] (v_mk s1) _
  refine s_ek_bk 4 (P := 305) (ls' := [(3, .int v), (2, .ref 151), (1, .ref 0), (0, .retAddr 2)]) (st' := [.int (v + (2 : Int32)), .retAddr 2, .int (xs (Int32.toNatClampNeg (v + (1 : Int32)))), .ref 151]) (M' := v_mk s1) rfl ?_
  refine v_ias (j := 2) rfl (l_ix2 hv) rfl ?_
  show s_Ek (s_rows 3 L xs) 1300 s_law 306 [(3, .int v), (2, .ref 151), (1, .ref 0), (0, .retAddr 2)] [.int (xs (Int32.toNatClampNeg (v + (2 : Int32)))), .int (xs (Int32.toNatClampNeg (v + (1 : Int32)))), .ref 151] (v_mk s1) _
  refine s_ek_bk 4 (P := 310) (ls' := [(3, .int v), (2, .ref 151), (1, .ref 0), (0, .retAddr 2)]) (st' := [.int (v + (3 : Int32)), .retAddr 2, .int (xs (Int32.toNatClampNeg (v + (2 : Int32)))), .int (xs (Int32.toNatClampNeg (v + (1 : Int32)))), .ref 151]) (M' := v_mk s1) rfl ?_
  refine v_ias (j := 2) rfl (l_ix3 hv) rfl ?_
  show s_Ek (s_rows 3 L xs) 1300 s_law 311 [(3, .int v), (2, .ref 151), (1, .ref 0), (0, .retAddr 2)] [.int (xs (Int32.toNatClampNeg (v + (3 : Int32)))), .int (xs (Int32.toNatClampNeg (v + (2 : Int32)))), .int (xs (Int32.toNatClampNeg (v + (1 : Int32)))), .ref 151] (v_mk s1) _
  obtain ⟨r2, s2, e2, h⟩ := h
  refine v_cV (ν := s_e213.1) (w := 1707) (a := 151) (as' := [.int (xs (Int32.toNatClampNeg (v + (1 : Int32)))), .int (xs (Int32.toNatClampNeg (v + (2 : Int32)))), .int (xs (Int32.toNatClampNeg (v + (3 : Int32))))]) (r := []) (o := some (.int r2)) (by omega) rfl rfl rfl (v_mk_kd (k := 11) (rfl : v_kd 151 = 11) (by decide)) rfl (t_Md_mend e2 (by omega)) ?_
  show s_Ek (s_rows 3 L xs) 1300 s_law 314 [(3, .int v), (2, .ref 151), (1, .ref 0), (0, .retAddr 2)] [.int r2] (v_mk s2) _
  refine s_ek_bk 4 (P := 18) (ls' := [(3, .int (v + 6)), (2, .ref 151), (1, .ref 0), (0, .retAddr 2)]) (st' := []) (M' := v_mk s2) rfl ?_
  exact kk _ h
set_option maxRecDepth 100000 in
set_option maxHeartbeats 4000000 in
theorem l_c4 {L : Nat} {xs : Nat → Int32} {I : vS → Prop} {Q : Option Value → sM → Prop} {v : Int32} {s : vS} (hv : l_in L v) (h : v_T (f_Ol_moved ((xs (Int32.toNatClampNeg (v + (1 : Int32))))) ((xs (Int32.toNatClampNeg (v + (2 : Int32))))) ((xs (Int32.toNatClampNeg (v + (3 : Int32))))) s) (fun r1 s1 => v_T (f_Md_moved ((xs (Int32.toNatClampNeg (v + (1 : Int32))))) ((xs (Int32.toNatClampNeg (v + (2 : Int32))))) ((xs (Int32.toNatClampNeg (v + (3 : Int32))))) s1) (fun r2 s2 => I s2))) (kk : ∀ t, I t → s_Ek (s_rows 3 L xs) 1300 s_law 18 [(3, .int (v + 6)), (2, .ref 151), (1, .ref 0), (0, .retAddr 2)] [] (v_mk t) Q) : s_Ek (s_rows 3 L xs) 1300 s_law 33 [(3, .int v), (2, .ref 151), (1, .ref 0), (0, .retAddr 2)] [.int 4] (v_mk s) Q := by
  refine s_ek_bk 1 (P := 318) (ls' := [(3, .int v), (2, .ref 151), (1, .ref 0), (0, .retAddr 2)]) (st' := []) (M' := v_mk s) rfl ?_
  refine s_ek_bk 5 (P := 323) (ls' := [(3, .int v), (2, .ref 151), (1, .ref 0), (0, .retAddr 2)]) (st' := [.int (v + (1 : Int32)), .retAddr 2, .ref 0]) (M' := v_mk s) rfl ?_
  refine v_ias (j := 2) rfl (l_ix1 hv) rfl ?_
  show s_Ek (s_rows 3 L xs) 1300 s_law 324 [(3, .int v), (2, .ref 151), (1, .ref 0), (0, .retAddr 2)] [.int (xs (Int32.toNatClampNeg (v + (1 : Int32)))), .ref 0] (v_mk s) _
  refine s_ek_bk 4 (P := 328) (ls' := [(3, .int v), (2, .ref 151), (1, .ref 0), (0, .retAddr 2)]) (st' := [.int (v + (2 : Int32)), .retAddr 2, .int (xs (Int32.toNatClampNeg (v + (1 : Int32)))), .ref 0]) (M' := v_mk s) rfl ?_
  refine v_ias (j := 2) rfl (l_ix2 hv) rfl ?_
  show s_Ek (s_rows 3 L xs) 1300 s_law 329 [(3, .int v), (2, .ref 151), (1, .ref 0), (0, .retAddr 2)] [.int (xs (Int32.toNatClampNeg (v + (2 : Int32)))), .int (xs (Int32.toNatClampNeg (v + (1 : Int32)))), .ref 0] (v_mk s) _
  refine s_ek_bk 4 (P := 333) (ls' := [(3, .int v), (2, .ref 151), (1, .ref 0), (0, .retAddr 2)]) (st' := [.int (v + (3 : Int32)), .retAddr 2, .int (xs (Int32.toNatClampNeg (v + (2 : Int32)))), .int (xs (Int32.toNatClampNeg (v + (1 : Int32)))), .ref 0]) (M' := v_mk s) rfl ?_
  refine v_ias (j := 2) rfl (l_ix3 hv) rfl ?_
  show s_Ek (s_rows 3 L xs) 1300 s_law 334 [(3, .int v), (2, .ref 151), (1, .ref 0), (0, .retAddr 2)] [.int (xs (Int32.toNatClampNeg (v + (3 : Int32)))), .int (xs (Int32.toNatClampNeg (v + (2 : Int32)))), .int (xs (Int32.toNatClampNeg (v + (1 : Int32)))), .ref 0] (v_mk s) _
  obtain ⟨r1, s1, e1, h⟩ := h
  refine v_cV (ν := s_e140.1) (w := 1123) (a := 0) (as' := [.int (xs (Int32.toNatClampNeg (v + (1 : Int32)))), .int (xs (Int32.toNatClampNeg (v + (2 : Int32)))), .int (xs (Int32.toNatClampNeg (v + (3 : Int32))))]) (r := []) (o := some (.int r1)) (by omega) rfl rfl rfl (v_mk_kd (k := 10) (rfl : v_kd 0 = 10) (by decide)) rfl (t_Ol_moved e1 (by omega)) ?_
  show s_Ek (s_rows 3 L xs) 1300 s_law 337 [(3, .int v), (2, .ref 151), (1, .ref 0), (0, .retAddr 2)] [.int r1] (v_mk s1) _
  refine s_ek_bk 6 (P := 343) (ls' := [(3, .int v), (2, .ref 151), (1, .ref 0), (0, .retAddr 2)]) (st' := [.int (v + (1 : Int32)), .retAddr 2, .ref 151]) (M' := v_mk s1) rfl ?_
  refine v_ias (j := 2) rfl (l_ix1 hv) rfl ?_
  show s_Ek (s_rows 3 L xs) 1300 s_law 344 [(3, .int v), (2, .ref 151), (1, .ref 0), (0, .retAddr 2)] [.int (xs (Int32.toNatClampNeg (v + (1 : Int32)))), .ref 151] (v_mk s1) _
  refine s_ek_bk 4 (P := 348) (ls' := [(3, .int v), (2, .ref 151), (1, .ref 0), (0, .retAddr 2)]) (st' := [.int (v + (2 : Int32)), .retAddr 2, .int (xs (Int32.toNatClampNeg (v + (1 : Int32)))), .ref 151]) (M' := v_mk s1) rfl ?_
  refine v_ias (j := 2) rfl (l_ix2 hv) rfl ?_
  show s_Ek (s_rows 3 L xs) 1300 s_law 349 [(3, .int v), (2, .ref 151), (1, .ref 0), (0, .retAddr 2)] [.int (xs (Int32.toNatClampNeg (v + (2 : Int32)))), .int (xs (Int32.toNatClampNeg (v + (1 : Int32)))), .ref 151] (v_mk s1) _
  refine s_ek_bk 4 (P := 353) (ls' := [(3, .int v), (2, .ref 151), (1, .ref 0), (0, .retAddr 2)]) (st' := [.int (v + (3 : Int32)), .retAddr 2, .int (xs (Int32.toNatClampNeg (v + (2 : Int32)))), .int (xs (Int32.toNatClampNeg (v + (1 : Int32)))), .ref 151]) (M' := v_mk s1) rfl ?_
  refine v_ias (j := 2) rfl (l_ix3 hv) rfl ?_
  show s_Ek (s_rows 3 L xs) 1300 s_law 354 [(3, .int v), (2, .ref 151), (1, .ref 0), (0, .retAddr 2)] [.int (xs (Int32.toNatClampNeg (v + (3 : Int32)))), .int (xs (Int32.toNatClampNeg (v + (2 : Int32)))), .int (xs (Int32.toNatClampNeg (v + (1 : Int32)))), .ref 151] (v_mk s1) _
  obtain ⟨r2, s2, e2, h⟩ := h
  refine v_cV (ν := s_e214.1) (w := 1715) (a := 151) (as' := [.int (xs (Int32.toNatClampNeg (v + (1 : Int32)))), .int (xs (Int32.toNatClampNeg (v + (2 : Int32)))), .int (xs (Int32.toNatClampNeg (v + (3 : Int32))))]) (r := []) (o := some (.int r2)) (by omega) rfl rfl rfl (v_mk_kd (k := 11) (rfl : v_kd 151 = 11) (by decide)) rfl (t_Md_moved e2 (by omega)) ?_
  show s_Ek (s_rows 3 L xs) 1300 s_law 357 [(3, .int v), (2, .ref 151), (1, .ref 0), (0, .retAddr 2)] [.int r2] (v_mk s2) _
  refine s_ek_bk 4 (P := 18) (ls' := [(3, .int (v + 6)), (2, .ref 151), (1, .ref 0), (0, .retAddr 2)]) (st' := []) (M' := v_mk s2) rfl ?_
  exact kk _ h
set_option maxRecDepth 100000 in
set_option maxHeartbeats 4000000 in
theorem l_c5 {L : Nat} {xs : Nat → Int32} {I : vS → Prop} {Q : Option Value → sM → Prop} {v : Int32} {s : vS} (hv : l_in L v) (h : v_T (f_Ol_of ((xs (Int32.toNatClampNeg (v + (1 : Int32))))) ((xs (Int32.toNatClampNeg (v + (2 : Int32))))) s) (fun r1 s1 => v_T (f_Md_of ((xs (Int32.toNatClampNeg (v + (1 : Int32))))) ((xs (Int32.toNatClampNeg (v + (2 : Int32))))) s1) (fun r2 s2 => I s2))) (kk : ∀ t, I t → s_Ek (s_rows 3 L xs) 1300 s_law 18 [(3, .int (v + 6)), (2, .ref 151), (1, .ref 0), (0, .retAddr 2)] [] (v_mk t) Q) : s_Ek (s_rows 3 L xs) 1300 s_law 33 [(3, .int v), (2, .ref 151), (1, .ref 0), (0, .retAddr 2)] [.int 5] (v_mk s) Q := by
  refine s_ek_bk 1 (P := 361) (ls' := [(3, .int v), (2, .ref 151), (1, .ref 0), (0, .retAddr 2)]) (st' := []) (M' := v_mk s) rfl ?_
  refine s_ek_bk 5 (P := 366) (ls' := [(3, .int v), (2, .ref 151), (1, .ref 0), (0, .retAddr 2)]) (st' := [.int (v + (1 : Int32)), .retAddr 2, .ref 0]) (M' := v_mk s) rfl ?_
  refine v_ias (j := 2) rfl (l_ix1 hv) rfl ?_
  show s_Ek (s_rows 3 L xs) 1300 s_law 367 [(3, .int v), (2, .ref 151), (1, .ref 0), (0, .retAddr 2)] [.int (xs (Int32.toNatClampNeg (v + (1 : Int32)))), .ref 0] (v_mk s) _
  refine s_ek_bk 4 (P := 371) (ls' := [(3, .int v), (2, .ref 151), (1, .ref 0), (0, .retAddr 2)]) (st' := [.int (v + (2 : Int32)), .retAddr 2, .int (xs (Int32.toNatClampNeg (v + (1 : Int32)))), .ref 0]) (M' := v_mk s) rfl ?_
  refine v_ias (j := 2) rfl (l_ix2 hv) rfl ?_
  show s_Ek (s_rows 3 L xs) 1300 s_law 372 [(3, .int v), (2, .ref 151), (1, .ref 0), (0, .retAddr 2)] [.int (xs (Int32.toNatClampNeg (v + (2 : Int32)))), .int (xs (Int32.toNatClampNeg (v + (1 : Int32)))), .ref 0] (v_mk s) _
  obtain ⟨r1, s1, e1, h⟩ := h
  refine v_cV (ν := s_e141.1) (w := 1130) (a := 0) (as' := [.int (xs (Int32.toNatClampNeg (v + (1 : Int32)))), .int (xs (Int32.toNatClampNeg (v + (2 : Int32))))]) (r := []) (o := some (.int r1)) (by omega) rfl rfl rfl (v_mk_kd (k := 10) (rfl : v_kd 0 = 10) (by decide)) rfl (t_Ol_of e1 (by omega)) ?_
  show s_Ek (s_rows 3 L xs) 1300 s_law 375 [(3, .int v), (2, .ref 151), (1, .ref 0), (0, .retAddr 2)] [.int r1] (v_mk s1) _
  refine s_ek_bk 6 (P := 381) (ls' := [(3, .int v), (2, .ref 151), (1, .ref 0), (0, .retAddr 2)]) (st' := [.int (v + (1 : Int32)), .retAddr 2, .ref 151]) (M' := v_mk s1) rfl ?_
  refine v_ias (j := 2) rfl (l_ix1 hv) rfl ?_
  show s_Ek (s_rows 3 L xs) 1300 s_law 382 [(3, .int v), (2, .ref 151), (1, .ref 0), (0, .retAddr 2)] [.int (xs (Int32.toNatClampNeg (v + (1 : Int32)))), .ref 151] (v_mk s1) _
  refine s_ek_bk 4 (P := 386) (ls' := [(3, .int v), (2, .ref 151), (1, .ref 0), (0, .retAddr 2)]) (st' := [.int (v + (2 : Int32)), .retAddr 2, .int (xs (Int32.toNatClampNeg (v + (1 : Int32)))), .ref 151]) (M' := v_mk s1) rfl ?_
  refine v_ias (j := 2) rfl (l_ix2 hv) rfl ?_
  show s_Ek (s_rows 3 L xs) 1300 s_law 387 [(3, .int v), (2, .ref 151), (1, .ref 0), (0, .retAddr 2)] [.int (xs (Int32.toNatClampNeg (v + (2 : Int32)))), .int (xs (Int32.toNatClampNeg (v + (1 : Int32)))), .ref 151] (v_mk s1) _
  obtain ⟨r2, s2, e2, h⟩ := h
  refine v_cV (ν := s_e229.1) (w := 1834) (a := 151) (as' := [.int (xs (Int32.toNatClampNeg (v + (1 : Int32)))), .int (xs (Int32.toNatClampNeg (v + (2 : Int32))))]) (r := []) (o := some (.int r2)) (by omega) rfl rfl rfl (v_mk_kd (k := 11) (rfl : v_kd 151 = 11) (by decide)) rfl (t_Md_of e2 (by omega)) ?_
  show s_Ek (s_rows 3 L xs) 1300 s_law 390 [(3, .int v), (2, .ref 151), (1, .ref 0), (0, .retAddr 2)] [.int r2] (v_mk s2) _
  refine s_ek_bk 4 (P := 18) (ls' := [(3, .int (v + 6)), (2, .ref 151), (1, .ref 0), (0, .retAddr 2)]) (st' := []) (M' := v_mk s2) rfl ?_
  exact kk _ h
set_option maxRecDepth 100000 in
set_option maxHeartbeats 4000000 in
theorem l_c6 {L : Nat} {xs : Nat → Int32} {I : vS → Prop} {Q : Option Value → sM → Prop} {v : Int32} {s : vS} (hv : l_in L v) (h : v_T (f_Ol_speaks ((xs (Int32.toNatClampNeg (v + (1 : Int32))))) ((xs (Int32.toNatClampNeg (v + (2 : Int32))))) s) (fun r1 s1 => v_T (f_Md_speaks ((xs (Int32.toNatClampNeg (v + (1 : Int32))))) ((xs (Int32.toNatClampNeg (v + (2 : Int32))))) s1) (fun r2 s2 => I s2))) (kk : ∀ t, I t → s_Ek (s_rows 3 L xs) 1300 s_law 18 [(3, .int (v + 6)), (2, .ref 151), (1, .ref 0), (0, .retAddr 2)] [] (v_mk t) Q) : s_Ek (s_rows 3 L xs) 1300 s_law 33 [(3, .int v), (2, .ref 151), (1, .ref 0), (0, .retAddr 2)] [.int 6] (v_mk s) Q := by
  refine s_ek_bk 1 (P := 394) (ls' := [(3, .int v), (2, .ref 151), (1, .ref 0), (0, .retAddr 2)]) (st' := []) (M' := v_mk s) rfl ?_
  refine s_ek_bk 5 (P := 399) (ls' := [(3, .int v), (2, .ref 151), (1, .ref 0), (0, .retAddr 2)]) (st' := [.int (v + (1 : Int32)), .retAddr 2, .ref 0]) (M' := v_mk s) rfl ?_
  refine v_ias (j := 2) rfl (l_ix1 hv) rfl ?_
  show s_Ek (s_rows 3 L xs) 1300 s_law 400 [(3, .int v), (2, .ref 151), (1, .ref 0), (0, .retAddr 2)] [.int (xs (Int32.toNatClampNeg (v + (1 : Int32)))), .ref 0] (v_mk s) _
  refine s_ek_bk 4 (P := 404) (ls' := [(3, .int v), (2, .ref 151), (1, .ref 0), (0, .retAddr 2)]) (st' := [.int (v + (2 : Int32)), .retAddr 2, .int (xs (Int32.toNatClampNeg (v + (1 : Int32)))), .ref 0]) (M' := v_mk s) rfl ?_
  refine v_ias (j := 2) rfl (l_ix2 hv) rfl ?_
  show s_Ek (s_rows 3 L xs) 1300 s_law 405 [(3, .int v), (2, .ref 151), (1, .ref 0), (0, .retAddr 2)] [.int (xs (Int32.toNatClampNeg (v + (2 : Int32)))), .int (xs (Int32.toNatClampNeg (v + (1 : Int32)))), .ref 0] (v_mk s) _
  obtain ⟨r1, s1, e1, h⟩ := h
  refine v_cV (ν := s_e143.1) (w := 1146) (a := 0) (as' := [.int (xs (Int32.toNatClampNeg (v + (1 : Int32)))), .int (xs (Int32.toNatClampNeg (v + (2 : Int32))))]) (r := []) (o := some (.int r1)) (by omega) rfl rfl rfl (v_mk_kd (k := 10) (rfl : v_kd 0 = 10) (by decide)) rfl (t_Ol_speaks e1 (by omega)) ?_
  show s_Ek (s_rows 3 L xs) 1300 s_law 408 [(3, .int v), (2, .ref 151), (1, .ref 0), (0, .retAddr 2)] [.int r1] (v_mk s1) _
  refine s_ek_bk 6 (P := 414) (ls' := [(3, .int v), (2, .ref 151), (1, .ref 0), (0, .retAddr 2)]) (st' := [.int (v + (1 : Int32)), .retAddr 2, .ref 151]) (M' := v_mk s1) rfl ?_
  refine v_ias (j := 2) rfl (l_ix1 hv) rfl ?_
  show s_Ek (s_rows 3 L xs) 1300 s_law 415 [(3, .int v), (2, .ref 151), (1, .ref 0), (0, .retAddr 2)] [.int (xs (Int32.toNatClampNeg (v + (1 : Int32)))), .ref 151] (v_mk s1) _
  refine s_ek_bk 4 (P := 419) (ls' := [(3, .int v), (2, .ref 151), (1, .ref 0), (0, .retAddr 2)]) (st' := [.int (v + (2 : Int32)), .retAddr 2, .int (xs (Int32.toNatClampNeg (v + (1 : Int32)))), .ref 151]) (M' := v_mk s1) rfl ?_
  refine v_ias (j := 2) rfl (l_ix2 hv) rfl ?_
  show s_Ek (s_rows 3 L xs) 1300 s_law 420 [(3, .int v), (2, .ref 151), (1, .ref 0), (0, .retAddr 2)] [.int (xs (Int32.toNatClampNeg (v + (2 : Int32)))), .int (xs (Int32.toNatClampNeg (v + (1 : Int32)))), .ref 151] (v_mk s1) _
  obtain ⟨r2, s2, e2, h⟩ := h
  refine v_cV (ν := s_e234.1) (w := 1874) (a := 151) (as' := [.int (xs (Int32.toNatClampNeg (v + (1 : Int32)))), .int (xs (Int32.toNatClampNeg (v + (2 : Int32))))]) (r := []) (o := some (.int r2)) (by omega) rfl rfl rfl (v_mk_kd (k := 11) (rfl : v_kd 151 = 11) (by decide)) rfl (t_Md_speaks e2 (by omega)) ?_
  show s_Ek (s_rows 3 L xs) 1300 s_law 423 [(3, .int v), (2, .ref 151), (1, .ref 0), (0, .retAddr 2)] [.int r2] (v_mk s2) _
  refine s_ek_bk 4 (P := 18) (ls' := [(3, .int (v + 6)), (2, .ref 151), (1, .ref 0), (0, .retAddr 2)]) (st' := []) (M' := v_mk s2) rfl ?_
  exact kk _ h
set_option maxRecDepth 100000 in
set_option maxHeartbeats 4000000 in
theorem l_c7 {L : Nat} {xs : Nat → Int32} {I : vS → Prop} {Q : Option Value → sM → Prop} {v : Int32} {s : vS} (hv : l_in L v) (h : v_T (f_Ol_verdict ((xs (Int32.toNatClampNeg (v + (1 : Int32))))) ((xs (Int32.toNatClampNeg (v + (2 : Int32))))) s) (fun r1 s1 => v_T (f_Md_verdict ((xs (Int32.toNatClampNeg (v + (1 : Int32))))) ((xs (Int32.toNatClampNeg (v + (2 : Int32))))) s1) (fun r2 s2 => I s2))) (kk : ∀ t, I t → s_Ek (s_rows 3 L xs) 1300 s_law 18 [(3, .int (v + 6)), (2, .ref 151), (1, .ref 0), (0, .retAddr 2)] [] (v_mk t) Q) : s_Ek (s_rows 3 L xs) 1300 s_law 33 [(3, .int v), (2, .ref 151), (1, .ref 0), (0, .retAddr 2)] [.int 7] (v_mk s) Q := by
  refine s_ek_bk 1 (P := 427) (ls' := [(3, .int v), (2, .ref 151), (1, .ref 0), (0, .retAddr 2)]) (st' := []) (M' := v_mk s) rfl ?_
  refine s_ek_bk 5 (P := 432) (ls' := [(3, .int v), (2, .ref 151), (1, .ref 0), (0, .retAddr 2)]) (st' := [.int (v + (1 : Int32)), .retAddr 2, .ref 0]) (M' := v_mk s) rfl ?_
  refine v_ias (j := 2) rfl (l_ix1 hv) rfl ?_
  show s_Ek (s_rows 3 L xs) 1300 s_law 433 [(3, .int v), (2, .ref 151), (1, .ref 0), (0, .retAddr 2)] [.int (xs (Int32.toNatClampNeg (v + (1 : Int32)))), .ref 0] (v_mk s) _
  refine s_ek_bk 4 (P := 437) (ls' := [(3, .int v), (2, .ref 151), (1, .ref 0), (0, .retAddr 2)]) (st' := [.int (v + (2 : Int32)), .retAddr 2, .int (xs (Int32.toNatClampNeg (v + (1 : Int32)))), .ref 0]) (M' := v_mk s) rfl ?_
  refine v_ias (j := 2) rfl (l_ix2 hv) rfl ?_
  show s_Ek (s_rows 3 L xs) 1300 s_law 438 [(3, .int v), (2, .ref 151), (1, .ref 0), (0, .retAddr 2)] [.int (xs (Int32.toNatClampNeg (v + (2 : Int32)))), .int (xs (Int32.toNatClampNeg (v + (1 : Int32)))), .ref 0] (v_mk s) _
  obtain ⟨r1, s1, e1, h⟩ := h
  refine v_cV (ν := s_e144.1) (w := 1154) (a := 0) (as' := [.int (xs (Int32.toNatClampNeg (v + (1 : Int32)))), .int (xs (Int32.toNatClampNeg (v + (2 : Int32))))]) (r := []) (o := some (.int r1)) (by omega) rfl rfl rfl (v_mk_kd (k := 10) (rfl : v_kd 0 = 10) (by decide)) rfl (t_Ol_verdict e1 (by omega)) ?_
  show s_Ek (s_rows 3 L xs) 1300 s_law 441 [(3, .int v), (2, .ref 151), (1, .ref 0), (0, .retAddr 2)] [.int r1] (v_mk s1) _
  refine s_ek_bk 6 (P := 447) (ls' := [(3, .int v), (2, .ref 151), (1, .ref 0), (0, .retAddr 2)]) (st' := [.int (v + (1 : Int32)), .retAddr 2, .ref 151]) (M' := v_mk s1) rfl ?_
  refine v_ias (j := 2) rfl (l_ix1 hv) rfl ?_
  show s_Ek (s_rows 3 L xs) 1300 s_law 448 [(3, .int v), (2, .ref 151), (1, .ref 0), (0, .retAddr 2)] [.int (xs (Int32.toNatClampNeg (v + (1 : Int32)))), .ref 151] (v_mk s1) _
  refine s_ek_bk 4 (P := 452) (ls' := [(3, .int v), (2, .ref 151), (1, .ref 0), (0, .retAddr 2)]) (st' := [.int (v + (2 : Int32)), .retAddr 2, .int (xs (Int32.toNatClampNeg (v + (1 : Int32)))), .ref 151]) (M' := v_mk s1) rfl ?_
  refine v_ias (j := 2) rfl (l_ix2 hv) rfl ?_
  show s_Ek (s_rows 3 L xs) 1300 s_law 453 [(3, .int v), (2, .ref 151), (1, .ref 0), (0, .retAddr 2)] [.int (xs (Int32.toNatClampNeg (v + (2 : Int32)))), .int (xs (Int32.toNatClampNeg (v + (1 : Int32)))), .ref 151] (v_mk s1) _
  obtain ⟨r2, s2, e2, h⟩ := h
  refine v_cV (ν := s_e235.1) (w := 1882) (a := 151) (as' := [.int (xs (Int32.toNatClampNeg (v + (1 : Int32)))), .int (xs (Int32.toNatClampNeg (v + (2 : Int32))))]) (r := []) (o := some (.int r2)) (by omega) rfl rfl rfl (v_mk_kd (k := 11) (rfl : v_kd 151 = 11) (by decide)) rfl (t_Md_verdict e2 (by omega)) ?_
  show s_Ek (s_rows 3 L xs) 1300 s_law 456 [(3, .int v), (2, .ref 151), (1, .ref 0), (0, .retAddr 2)] [.int r2] (v_mk s2) _
  refine s_ek_bk 4 (P := 18) (ls' := [(3, .int (v + 6)), (2, .ref 151), (1, .ref 0), (0, .retAddr 2)]) (st' := []) (M' := v_mk s2) rfl ?_
  exact kk _ h
set_option maxRecDepth 100000 in
set_option maxHeartbeats 4000000 in
theorem l_c8 {L : Nat} {xs : Nat → Int32} {I : vS → Prop} {Q : Option Value → sM → Prop} {v : Int32} {s : vS} (hv : l_in L v) (h : v_T (f_Ol_judge ((xs (Int32.toNatClampNeg (v + (1 : Int32))))) s) (fun r1 s1 => v_T (f_Md_judge ((xs (Int32.toNatClampNeg (v + (1 : Int32))))) s1) (fun r2 s2 => I s2))) (kk : ∀ t, I t → s_Ek (s_rows 3 L xs) 1300 s_law 18 [(3, .int (v + 6)), (2, .ref 151), (1, .ref 0), (0, .retAddr 2)] [] (v_mk t) Q) : s_Ek (s_rows 3 L xs) 1300 s_law 33 [(3, .int v), (2, .ref 151), (1, .ref 0), (0, .retAddr 2)] [.int 8] (v_mk s) Q := by
  refine s_ek_bk 1 (P := 460) (ls' := [(3, .int v), (2, .ref 151), (1, .ref 0), (0, .retAddr 2)]) (st' := []) (M' := v_mk s) rfl ?_
  refine s_ek_bk 5 (P := 465) (ls' := [(3, .int v), (2, .ref 151), (1, .ref 0), (0, .retAddr 2)]) (st' := [.int (v + (1 : Int32)), .retAddr 2, .ref 0]) (M' := v_mk s) rfl ?_
  refine v_ias (j := 2) rfl (l_ix1 hv) rfl ?_
  show s_Ek (s_rows 3 L xs) 1300 s_law 466 [(3, .int v), (2, .ref 151), (1, .ref 0), (0, .retAddr 2)] [.int (xs (Int32.toNatClampNeg (v + (1 : Int32)))), .ref 0] (v_mk s) _
  obtain ⟨r1, s1, e1, h⟩ := h
  refine v_cV (ν := s_e145.1) (w := 1161) (a := 0) (as' := [.int (xs (Int32.toNatClampNeg (v + (1 : Int32))))]) (r := []) (o := some (.int r1)) (by omega) rfl rfl rfl (v_mk_kd (k := 10) (rfl : v_kd 0 = 10) (by decide)) rfl (t_Ol_judge e1 (by omega)) ?_
  show s_Ek (s_rows 3 L xs) 1300 s_law 469 [(3, .int v), (2, .ref 151), (1, .ref 0), (0, .retAddr 2)] [.int r1] (v_mk s1) _
  refine s_ek_bk 6 (P := 475) (ls' := [(3, .int v), (2, .ref 151), (1, .ref 0), (0, .retAddr 2)]) (st' := [.int (v + (1 : Int32)), .retAddr 2, .ref 151]) (M' := v_mk s1) rfl ?_
  refine v_ias (j := 2) rfl (l_ix1 hv) rfl ?_
  show s_Ek (s_rows 3 L xs) 1300 s_law 476 [(3, .int v), (2, .ref 151), (1, .ref 0), (0, .retAddr 2)] [.int (xs (Int32.toNatClampNeg (v + (1 : Int32)))), .ref 151] (v_mk s1) _
  obtain ⟨r2, s2, e2, h⟩ := h
  refine v_cV (ν := s_e241.1) (w := 1929) (a := 151) (as' := [.int (xs (Int32.toNatClampNeg (v + (1 : Int32))))]) (r := []) (o := some (.int r2)) (by omega) rfl rfl rfl (v_mk_kd (k := 11) (rfl : v_kd 151 = 11) (by decide)) rfl (t_Md_judge e2 (by omega)) ?_
  show s_Ek (s_rows 3 L xs) 1300 s_law 479 [(3, .int v), (2, .ref 151), (1, .ref 0), (0, .retAddr 2)] [.int r2] (v_mk s2) _
  refine s_ek_bk 4 (P := 18) (ls' := [(3, .int (v + 6)), (2, .ref 151), (1, .ref 0), (0, .retAddr 2)]) (st' := []) (M' := v_mk s2) rfl ?_
  exact kk _ h
set_option maxRecDepth 100000 in
set_option maxHeartbeats 4000000 in
theorem l_c9 {L : Nat} {xs : Nat → Int32} {I : vS → Prop} {Q : Option Value → sM → Prop} {v : Int32} {s : vS} (hv : l_in L v) (h : v_T (f_Ol_never  s) (fun r1 s1 => v_T (f_Md_never  s1) (fun r2 s2 => I s2))) (kk : ∀ t, I t → s_Ek (s_rows 3 L xs) 1300 s_law 18 [(3, .int (v + 6)), (2, .ref 151), (1, .ref 0), (0, .retAddr 2)] [] (v_mk t) Q) : s_Ek (s_rows 3 L xs) 1300 s_law 33 [(3, .int v), (2, .ref 151), (1, .ref 0), (0, .retAddr 2)] [.int 9] (v_mk s) Q := by
  refine s_ek_bk 1 (P := 483) (ls' := [(3, .int v), (2, .ref 151), (1, .ref 0), (0, .retAddr 2)]) (st' := []) (M' := v_mk s) rfl ?_
  refine s_ek_bk 1 (P := 484) (ls' := [(3, .int v), (2, .ref 151), (1, .ref 0), (0, .retAddr 2)]) (st' := [.ref 0]) (M' := v_mk s) rfl ?_
  obtain ⟨r1, s1, e1, h⟩ := h
  refine v_cV (ν := s_e146.1) (w := 1168) (a := 0) (as' := []) (r := []) (o := some (.int r1)) (by omega) rfl rfl rfl (v_mk_kd (k := 10) (rfl : v_kd 0 = 10) (by decide)) rfl (t_Ol_never e1 (by omega)) ?_
  show s_Ek (s_rows 3 L xs) 1300 s_law 487 [(3, .int v), (2, .ref 151), (1, .ref 0), (0, .retAddr 2)] [.int r1] (v_mk s1) _
  refine s_ek_bk 2 (P := 489) (ls' := [(3, .int v), (2, .ref 151), (1, .ref 0), (0, .retAddr 2)]) (st' := [.ref 151]) (M' := v_mk s1) rfl ?_
  obtain ⟨r2, s2, e2, h⟩ := h
  refine v_cV (ν := s_e242.1) (w := 1936) (a := 151) (as' := []) (r := []) (o := some (.int r2)) (by omega) rfl rfl rfl (v_mk_kd (k := 11) (rfl : v_kd 151 = 11) (by decide)) rfl (t_Md_never e2 (by omega)) ?_
  show s_Ek (s_rows 3 L xs) 1300 s_law 492 [(3, .int v), (2, .ref 151), (1, .ref 0), (0, .retAddr 2)] [.int r2] (v_mk s2) _
  refine s_ek_bk 4 (P := 18) (ls' := [(3, .int (v + 6)), (2, .ref 151), (1, .ref 0), (0, .retAddr 2)]) (st' := []) (M' := v_mk s2) rfl ?_
  exact kk _ h
set_option maxRecDepth 100000 in
set_option maxHeartbeats 4000000 in
theorem l_c10 {L : Nat} {xs : Nat → Int32} {I : vS → Prop} {Q : Option Value → sM → Prop} {v : Int32} {s : vS} (hv : l_in L v) (h : v_T (f_Ol_clash ((xs (Int32.toNatClampNeg (v + (1 : Int32))))) ((xs (Int32.toNatClampNeg (v + (2 : Int32))))) s) (fun r1 s1 => v_T (f_Md_clash ((xs (Int32.toNatClampNeg (v + (1 : Int32))))) ((xs (Int32.toNatClampNeg (v + (2 : Int32))))) s1) (fun r2 s2 => I s2))) (kk : ∀ t, I t → s_Ek (s_rows 3 L xs) 1300 s_law 18 [(3, .int (v + 6)), (2, .ref 151), (1, .ref 0), (0, .retAddr 2)] [] (v_mk t) Q) : s_Ek (s_rows 3 L xs) 1300 s_law 33 [(3, .int v), (2, .ref 151), (1, .ref 0), (0, .retAddr 2)] [.int 10] (v_mk s) Q := by
  refine s_ek_bk 1 (P := 496) (ls' := [(3, .int v), (2, .ref 151), (1, .ref 0), (0, .retAddr 2)]) (st' := []) (M' := v_mk s) rfl ?_
  refine s_ek_bk 5 (P := 501) (ls' := [(3, .int v), (2, .ref 151), (1, .ref 0), (0, .retAddr 2)]) (st' := [.int (v + (1 : Int32)), .retAddr 2, .ref 0]) (M' := v_mk s) rfl ?_
  refine v_ias (j := 2) rfl (l_ix1 hv) rfl ?_
  show s_Ek (s_rows 3 L xs) 1300 s_law 502 [(3, .int v), (2, .ref 151), (1, .ref 0), (0, .retAddr 2)] [.int (xs (Int32.toNatClampNeg (v + (1 : Int32)))), .ref 0] (v_mk s) _
  refine s_ek_bk 4 (P := 506) (ls' := [(3, .int v), (2, .ref 151), (1, .ref 0), (0, .retAddr 2)]) (st' := [.int (v + (2 : Int32)), .retAddr 2, .int (xs (Int32.toNatClampNeg (v + (1 : Int32)))), .ref 0]) (M' := v_mk s) rfl ?_
  refine v_ias (j := 2) rfl (l_ix2 hv) rfl ?_
  show s_Ek (s_rows 3 L xs) 1300 s_law 507 [(3, .int v), (2, .ref 151), (1, .ref 0), (0, .retAddr 2)] [.int (xs (Int32.toNatClampNeg (v + (2 : Int32)))), .int (xs (Int32.toNatClampNeg (v + (1 : Int32)))), .ref 0] (v_mk s) _
  obtain ⟨r1, s1, e1, h⟩ := h
  refine v_cV (ν := s_e147.1) (w := 1178) (a := 0) (as' := [.int (xs (Int32.toNatClampNeg (v + (1 : Int32)))), .int (xs (Int32.toNatClampNeg (v + (2 : Int32))))]) (r := []) (o := some (.int r1)) (by omega) rfl rfl rfl (v_mk_kd (k := 10) (rfl : v_kd 0 = 10) (by decide)) rfl (t_Ol_clash e1 (by omega)) ?_
  show s_Ek (s_rows 3 L xs) 1300 s_law 510 [(3, .int v), (2, .ref 151), (1, .ref 0), (0, .retAddr 2)] [.int r1] (v_mk s1) _
  refine s_ek_bk 6 (P := 516) (ls' := [(3, .int v), (2, .ref 151), (1, .ref 0), (0, .retAddr 2)]) (st' := [.int (v + (1 : Int32)), .retAddr 2, .ref 151]) (M' := v_mk s1) rfl ?_
  refine v_ias (j := 2) rfl (l_ix1 hv) rfl ?_
  show s_Ek (s_rows 3 L xs) 1300 s_law 517 [(3, .int v), (2, .ref 151), (1, .ref 0), (0, .retAddr 2)] [.int (xs (Int32.toNatClampNeg (v + (1 : Int32)))), .ref 151] (v_mk s1) _
  refine s_ek_bk 4 (P := 521) (ls' := [(3, .int v), (2, .ref 151), (1, .ref 0), (0, .retAddr 2)]) (st' := [.int (v + (2 : Int32)), .retAddr 2, .int (xs (Int32.toNatClampNeg (v + (1 : Int32)))), .ref 151]) (M' := v_mk s1) rfl ?_
  refine v_ias (j := 2) rfl (l_ix2 hv) rfl ?_
  show s_Ek (s_rows 3 L xs) 1300 s_law 522 [(3, .int v), (2, .ref 151), (1, .ref 0), (0, .retAddr 2)] [.int (xs (Int32.toNatClampNeg (v + (2 : Int32)))), .int (xs (Int32.toNatClampNeg (v + (1 : Int32)))), .ref 151] (v_mk s1) _
  obtain ⟨r2, s2, e2, h⟩ := h
  refine v_cV (ν := s_e243.1) (w := 1946) (a := 151) (as' := [.int (xs (Int32.toNatClampNeg (v + (1 : Int32)))), .int (xs (Int32.toNatClampNeg (v + (2 : Int32))))]) (r := []) (o := some (.int r2)) (by omega) rfl rfl rfl (v_mk_kd (k := 11) (rfl : v_kd 151 = 11) (by decide)) rfl (t_Md_clash e2 (by omega)) ?_
  show s_Ek (s_rows 3 L xs) 1300 s_law 525 [(3, .int v), (2, .ref 151), (1, .ref 0), (0, .retAddr 2)] [.int r2] (v_mk s2) _
  refine s_ek_bk 4 (P := 18) (ls' := [(3, .int (v + 6)), (2, .ref 151), (1, .ref 0), (0, .retAddr 2)]) (st' := []) (M' := v_mk s2) rfl ?_
  exact kk _ h
set_option maxRecDepth 100000 in
set_option maxHeartbeats 4000000 in
theorem l_c11 {L : Nat} {xs : Nat → Int32} {I : vS → Prop} {Q : Option Value → sM → Prop} {v : Int32} {s : vS} (hv : l_in L v) (h : v_T (f_Ol_write ((xs (Int32.toNatClampNeg (v + (1 : Int32))))) ((xs (Int32.toNatClampNeg (v + (2 : Int32))))) ((xs (Int32.toNatClampNeg (v + (3 : Int32))))) s) (fun r1 s1 => v_T (f_Md_write ((xs (Int32.toNatClampNeg (v + (1 : Int32))))) ((xs (Int32.toNatClampNeg (v + (2 : Int32))))) ((xs (Int32.toNatClampNeg (v + (3 : Int32))))) s1) (fun r2 s2 => I s2))) (kk : ∀ t, I t → s_Ek (s_rows 3 L xs) 1300 s_law 18 [(3, .int (v + 6)), (2, .ref 151), (1, .ref 0), (0, .retAddr 2)] [] (v_mk t) Q) : s_Ek (s_rows 3 L xs) 1300 s_law 33 [(3, .int v), (2, .ref 151), (1, .ref 0), (0, .retAddr 2)] [.int 11] (v_mk s) Q := by
  refine s_ek_bk 1 (P := 529) (ls' := [(3, .int v), (2, .ref 151), (1, .ref 0), (0, .retAddr 2)]) (st' := []) (M' := v_mk s) rfl ?_
  refine s_ek_bk 5 (P := 534) (ls' := [(3, .int v), (2, .ref 151), (1, .ref 0), (0, .retAddr 2)]) (st' := [.int (v + (1 : Int32)), .retAddr 2, .ref 0]) (M' := v_mk s) rfl ?_
  refine v_ias (j := 2) rfl (l_ix1 hv) rfl ?_
  show s_Ek (s_rows 3 L xs) 1300 s_law 535 [(3, .int v), (2, .ref 151), (1, .ref 0), (0, .retAddr 2)] [.int (xs (Int32.toNatClampNeg (v + (1 : Int32)))), .ref 0] (v_mk s) _
  refine s_ek_bk 4 (P := 539) (ls' := [(3, .int v), (2, .ref 151), (1, .ref 0), (0, .retAddr 2)]) (st' := [.int (v + (2 : Int32)), .retAddr 2, .int (xs (Int32.toNatClampNeg (v + (1 : Int32)))), .ref 0]) (M' := v_mk s) rfl ?_
  refine v_ias (j := 2) rfl (l_ix2 hv) rfl ?_
  show s_Ek (s_rows 3 L xs) 1300 s_law 540 [(3, .int v), (2, .ref 151), (1, .ref 0), (0, .retAddr 2)] [.int (xs (Int32.toNatClampNeg (v + (2 : Int32)))), .int (xs (Int32.toNatClampNeg (v + (1 : Int32)))), .ref 0] (v_mk s) _
  refine s_ek_bk 4 (P := 544) (ls' := [(3, .int v), (2, .ref 151), (1, .ref 0), (0, .retAddr 2)]) (st' := [.int (v + (3 : Int32)), .retAddr 2, .int (xs (Int32.toNatClampNeg (v + (2 : Int32)))), .int (xs (Int32.toNatClampNeg (v + (1 : Int32)))), .ref 0]) (M' := v_mk s) rfl ?_
  refine v_ias (j := 2) rfl (l_ix3 hv) rfl ?_
  show s_Ek (s_rows 3 L xs) 1300 s_law 545 [(3, .int v), (2, .ref 151), (1, .ref 0), (0, .retAddr 2)] [.int (xs (Int32.toNatClampNeg (v + (3 : Int32)))), .int (xs (Int32.toNatClampNeg (v + (2 : Int32)))), .int (xs (Int32.toNatClampNeg (v + (1 : Int32)))), .ref 0] (v_mk s) _
  obtain ⟨r1, s1, e1, h⟩ := h
  refine v_cV (ν := s_e148.1) (w := 1187) (a := 0) (as' := [.int (xs (Int32.toNatClampNeg (v + (1 : Int32)))), .int (xs (Int32.toNatClampNeg (v + (2 : Int32)))), .int (xs (Int32.toNatClampNeg (v + (3 : Int32))))]) (r := []) (o := some (.int r1)) (by omega) rfl rfl rfl (v_mk_kd (k := 10) (rfl : v_kd 0 = 10) (by decide)) rfl (t_Ol_write e1 (by omega)) ?_
  show s_Ek (s_rows 3 L xs) 1300 s_law 548 [(3, .int v), (2, .ref 151), (1, .ref 0), (0, .retAddr 2)] [.int r1] (v_mk s1) _
  refine s_ek_bk 6 (P := 554) (ls' := [(3, .int v), (2, .ref 151), (1, .ref 0), (0, .retAddr 2)]) (st' := [.int (v + (1 : Int32)), .retAddr 2, .ref 151]) (M' := v_mk s1) rfl ?_
  refine v_ias (j := 2) rfl (l_ix1 hv) rfl ?_
  show s_Ek (s_rows 3 L xs) 1300 s_law 555 [(3, .int v), (2, .ref 151), (1, .ref 0), (0, .retAddr 2)] [.int (xs (Int32.toNatClampNeg (v + (1 : Int32)))), .ref 151] (v_mk s1) _
  refine s_ek_bk 4 (P := 559) (ls' := [(3, .int v), (2, .ref 151), (1, .ref 0), (0, .retAddr 2)]) (st' := [.int (v + (2 : Int32)), .retAddr 2, .int (xs (Int32.toNatClampNeg (v + (1 : Int32)))), .ref 151]) (M' := v_mk s1) rfl ?_
  refine v_ias (j := 2) rfl (l_ix2 hv) rfl ?_
  show s_Ek (s_rows 3 L xs) 1300 s_law 560 [(3, .int v), (2, .ref 151), (1, .ref 0), (0, .retAddr 2)] [.int (xs (Int32.toNatClampNeg (v + (2 : Int32)))), .int (xs (Int32.toNatClampNeg (v + (1 : Int32)))), .ref 151] (v_mk s1) _
  refine s_ek_bk 4 (P := 564) (ls' := [(3, .int v), (2, .ref 151), (1, .ref 0), (0, .retAddr 2)]) (st' := [.int (v + (3 : Int32)), .retAddr 2, .int (xs (Int32.toNatClampNeg (v + (2 : Int32)))), .int (xs (Int32.toNatClampNeg (v + (1 : Int32)))), .ref 151]) (M' := v_mk s1) rfl ?_
  refine v_ias (j := 2) rfl (l_ix3 hv) rfl ?_
  show s_Ek (s_rows 3 L xs) 1300 s_law 565 [(3, .int v), (2, .ref 151), (1, .ref 0), (0, .retAddr 2)] [.int (xs (Int32.toNatClampNeg (v + (3 : Int32)))), .int (xs (Int32.toNatClampNeg (v + (2 : Int32)))), .int (xs (Int32.toNatClampNeg (v + (1 : Int32)))), .ref 151] (v_mk s1) _
  obtain ⟨r2, s2, e2, h⟩ := h
  refine v_cV (ν := s_e249.1) (w := 1995) (a := 151) (as' := [.int (xs (Int32.toNatClampNeg (v + (1 : Int32)))), .int (xs (Int32.toNatClampNeg (v + (2 : Int32)))), .int (xs (Int32.toNatClampNeg (v + (3 : Int32))))]) (r := []) (o := some (.int r2)) (by omega) rfl rfl rfl (v_mk_kd (k := 11) (rfl : v_kd 151 = 11) (by decide)) rfl (t_Md_write e2 (by omega)) ?_
  show s_Ek (s_rows 3 L xs) 1300 s_law 568 [(3, .int v), (2, .ref 151), (1, .ref 0), (0, .retAddr 2)] [.int r2] (v_mk s2) _
  refine s_ek_bk 4 (P := 18) (ls' := [(3, .int (v + 6)), (2, .ref 151), (1, .ref 0), (0, .retAddr 2)]) (st' := []) (M' := v_mk s2) rfl ?_
  exact kk _ h
set_option maxRecDepth 100000 in
set_option maxHeartbeats 4000000 in
theorem l_c12 {L : Nat} {xs : Nat → Int32} {I : vS → Prop} {Q : Option Value → sM → Prop} {v : Int32} {s : vS} (hv : l_in L v) (h : v_T (f_Ol_bars ((xs (Int32.toNatClampNeg (v + (1 : Int32))))) ((xs (Int32.toNatClampNeg (v + (2 : Int32))))) ((xs (Int32.toNatClampNeg (v + (3 : Int32))))) s) (fun r1 s1 => v_T (f_Md_bars ((xs (Int32.toNatClampNeg (v + (1 : Int32))))) ((xs (Int32.toNatClampNeg (v + (2 : Int32))))) ((xs (Int32.toNatClampNeg (v + (3 : Int32))))) s1) (fun r2 s2 => I s2))) (kk : ∀ t, I t → s_Ek (s_rows 3 L xs) 1300 s_law 18 [(3, .int (v + 6)), (2, .ref 151), (1, .ref 0), (0, .retAddr 2)] [] (v_mk t) Q) : s_Ek (s_rows 3 L xs) 1300 s_law 33 [(3, .int v), (2, .ref 151), (1, .ref 0), (0, .retAddr 2)] [.int 12] (v_mk s) Q := by
  refine s_ek_bk 1 (P := 572) (ls' := [(3, .int v), (2, .ref 151), (1, .ref 0), (0, .retAddr 2)]) (st' := []) (M' := v_mk s) rfl ?_
  refine s_ek_bk 5 (P := 577) (ls' := [(3, .int v), (2, .ref 151), (1, .ref 0), (0, .retAddr 2)]) (st' := [.int (v + (1 : Int32)), .retAddr 2, .ref 0]) (M' := v_mk s) rfl ?_
  refine v_ias (j := 2) rfl (l_ix1 hv) rfl ?_
  show s_Ek (s_rows 3 L xs) 1300 s_law 578 [(3, .int v), (2, .ref 151), (1, .ref 0), (0, .retAddr 2)] [.int (xs (Int32.toNatClampNeg (v + (1 : Int32)))), .ref 0] (v_mk s) _
  refine s_ek_bk 4 (P := 582) (ls' := [(3, .int v), (2, .ref 151), (1, .ref 0), (0, .retAddr 2)]) (st' := [.int (v + (2 : Int32)), .retAddr 2, .int (xs (Int32.toNatClampNeg (v + (1 : Int32)))), .ref 0]) (M' := v_mk s) rfl ?_
  refine v_ias (j := 2) rfl (l_ix2 hv) rfl ?_
  show s_Ek (s_rows 3 L xs) 1300 s_law 583 [(3, .int v), (2, .ref 151), (1, .ref 0), (0, .retAddr 2)] [.int (xs (Int32.toNatClampNeg (v + (2 : Int32)))), .int (xs (Int32.toNatClampNeg (v + (1 : Int32)))), .ref 0] (v_mk s) _
  refine s_ek_bk 4 (P := 587) (ls' := [(3, .int v), (2, .ref 151), (1, .ref 0), (0, .retAddr 2)]) (st' := [.int (v + (3 : Int32)), .retAddr 2, .int (xs (Int32.toNatClampNeg (v + (2 : Int32)))), .int (xs (Int32.toNatClampNeg (v + (1 : Int32)))), .ref 0]) (M' := v_mk s) rfl ?_
  refine v_ias (j := 2) rfl (l_ix3 hv) rfl ?_
  show s_Ek (s_rows 3 L xs) 1300 s_law 588 [(3, .int v), (2, .ref 151), (1, .ref 0), (0, .retAddr 2)] [.int (xs (Int32.toNatClampNeg (v + (3 : Int32)))), .int (xs (Int32.toNatClampNeg (v + (2 : Int32)))), .int (xs (Int32.toNatClampNeg (v + (1 : Int32)))), .ref 0] (v_mk s) _
  obtain ⟨r1, s1, e1, h⟩ := h
  refine v_cV (ν := s_e149.1) (w := 1195) (a := 0) (as' := [.int (xs (Int32.toNatClampNeg (v + (1 : Int32)))), .int (xs (Int32.toNatClampNeg (v + (2 : Int32)))), .int (xs (Int32.toNatClampNeg (v + (3 : Int32))))]) (r := []) (o := some (.int r1)) (by omega) rfl rfl rfl (v_mk_kd (k := 10) (rfl : v_kd 0 = 10) (by decide)) rfl (t_Ol_bars e1 (by omega)) ?_
  show s_Ek (s_rows 3 L xs) 1300 s_law 591 [(3, .int v), (2, .ref 151), (1, .ref 0), (0, .retAddr 2)] [.int r1] (v_mk s1) _
  refine s_ek_bk 6 (P := 597) (ls' := [(3, .int v), (2, .ref 151), (1, .ref 0), (0, .retAddr 2)]) (st' := [.int (v + (1 : Int32)), .retAddr 2, .ref 151]) (M' := v_mk s1) rfl ?_
  refine v_ias (j := 2) rfl (l_ix1 hv) rfl ?_
  show s_Ek (s_rows 3 L xs) 1300 s_law 598 [(3, .int v), (2, .ref 151), (1, .ref 0), (0, .retAddr 2)] [.int (xs (Int32.toNatClampNeg (v + (1 : Int32)))), .ref 151] (v_mk s1) _
  refine s_ek_bk 4 (P := 602) (ls' := [(3, .int v), (2, .ref 151), (1, .ref 0), (0, .retAddr 2)]) (st' := [.int (v + (2 : Int32)), .retAddr 2, .int (xs (Int32.toNatClampNeg (v + (1 : Int32)))), .ref 151]) (M' := v_mk s1) rfl ?_
  refine v_ias (j := 2) rfl (l_ix2 hv) rfl ?_
  show s_Ek (s_rows 3 L xs) 1300 s_law 603 [(3, .int v), (2, .ref 151), (1, .ref 0), (0, .retAddr 2)] [.int (xs (Int32.toNatClampNeg (v + (2 : Int32)))), .int (xs (Int32.toNatClampNeg (v + (1 : Int32)))), .ref 151] (v_mk s1) _
  refine s_ek_bk 4 (P := 607) (ls' := [(3, .int v), (2, .ref 151), (1, .ref 0), (0, .retAddr 2)]) (st' := [.int (v + (3 : Int32)), .retAddr 2, .int (xs (Int32.toNatClampNeg (v + (2 : Int32)))), .int (xs (Int32.toNatClampNeg (v + (1 : Int32)))), .ref 151]) (M' := v_mk s1) rfl ?_
  refine v_ias (j := 2) rfl (l_ix3 hv) rfl ?_
  show s_Ek (s_rows 3 L xs) 1300 s_law 608 [(3, .int v), (2, .ref 151), (1, .ref 0), (0, .retAddr 2)] [.int (xs (Int32.toNatClampNeg (v + (3 : Int32)))), .int (xs (Int32.toNatClampNeg (v + (2 : Int32)))), .int (xs (Int32.toNatClampNeg (v + (1 : Int32)))), .ref 151] (v_mk s1) _
  obtain ⟨r2, s2, e2, h⟩ := h
  refine v_cV (ν := s_e251.1) (w := 2011) (a := 151) (as' := [.int (xs (Int32.toNatClampNeg (v + (1 : Int32)))), .int (xs (Int32.toNatClampNeg (v + (2 : Int32)))), .int (xs (Int32.toNatClampNeg (v + (3 : Int32))))]) (r := []) (o := some (.int r2)) (by omega) rfl rfl rfl (v_mk_kd (k := 11) (rfl : v_kd 151 = 11) (by decide)) rfl (t_Md_bars e2 (by omega)) ?_
  show s_Ek (s_rows 3 L xs) 1300 s_law 611 [(3, .int v), (2, .ref 151), (1, .ref 0), (0, .retAddr 2)] [.int r2] (v_mk s2) _
  refine s_ek_bk 4 (P := 18) (ls' := [(3, .int (v + 6)), (2, .ref 151), (1, .ref 0), (0, .retAddr 2)]) (st' := []) (M' := v_mk s2) rfl ?_
  exact kk _ h
set_option maxRecDepth 100000 in
set_option maxHeartbeats 4000000 in
theorem l_c13 {L : Nat} {xs : Nat → Int32} {I : vS → Prop} {Q : Option Value → sM → Prop} {v : Int32} {s : vS} (hv : l_in L v) (h : v_T (f_Ol_meant ((xs (Int32.toNatClampNeg (v + (1 : Int32))))) ((xs (Int32.toNatClampNeg (v + (2 : Int32))))) s) (fun r1 s1 => v_T (f_Md_meant ((xs (Int32.toNatClampNeg (v + (1 : Int32))))) ((xs (Int32.toNatClampNeg (v + (2 : Int32))))) s1) (fun r2 s2 => I s2))) (kk : ∀ t, I t → s_Ek (s_rows 3 L xs) 1300 s_law 18 [(3, .int (v + 6)), (2, .ref 151), (1, .ref 0), (0, .retAddr 2)] [] (v_mk t) Q) : s_Ek (s_rows 3 L xs) 1300 s_law 33 [(3, .int v), (2, .ref 151), (1, .ref 0), (0, .retAddr 2)] [.int 13] (v_mk s) Q := by
  refine s_ek_bk 1 (P := 615) (ls' := [(3, .int v), (2, .ref 151), (1, .ref 0), (0, .retAddr 2)]) (st' := []) (M' := v_mk s) rfl ?_
  refine s_ek_bk 5 (P := 620) (ls' := [(3, .int v), (2, .ref 151), (1, .ref 0), (0, .retAddr 2)]) (st' := [.int (v + (1 : Int32)), .retAddr 2, .ref 0]) (M' := v_mk s) rfl ?_
  refine v_ias (j := 2) rfl (l_ix1 hv) rfl ?_
  show s_Ek (s_rows 3 L xs) 1300 s_law 621 [(3, .int v), (2, .ref 151), (1, .ref 0), (0, .retAddr 2)] [.int (xs (Int32.toNatClampNeg (v + (1 : Int32)))), .ref 0] (v_mk s) _
  refine s_ek_bk 4 (P := 625) (ls' := [(3, .int v), (2, .ref 151), (1, .ref 0), (0, .retAddr 2)]) (st' := [.int (v + (2 : Int32)), .retAddr 2, .int (xs (Int32.toNatClampNeg (v + (1 : Int32)))), .ref 0]) (M' := v_mk s) rfl ?_
  refine v_ias (j := 2) rfl (l_ix2 hv) rfl ?_
  show s_Ek (s_rows 3 L xs) 1300 s_law 626 [(3, .int v), (2, .ref 151), (1, .ref 0), (0, .retAddr 2)] [.int (xs (Int32.toNatClampNeg (v + (2 : Int32)))), .int (xs (Int32.toNatClampNeg (v + (1 : Int32)))), .ref 0] (v_mk s) _
  obtain ⟨r1, s1, e1, h⟩ := h
  refine v_cV (ν := s_e150.1) (w := 1202) (a := 0) (as' := [.int (xs (Int32.toNatClampNeg (v + (1 : Int32)))), .int (xs (Int32.toNatClampNeg (v + (2 : Int32))))]) (r := []) (o := some (.int r1)) (by omega) rfl rfl rfl (v_mk_kd (k := 10) (rfl : v_kd 0 = 10) (by decide)) rfl (t_Ol_meant e1 (by omega)) ?_
  show s_Ek (s_rows 3 L xs) 1300 s_law 629 [(3, .int v), (2, .ref 151), (1, .ref 0), (0, .retAddr 2)] [.int r1] (v_mk s1) _
  refine s_ek_bk 6 (P := 635) (ls' := [(3, .int v), (2, .ref 151), (1, .ref 0), (0, .retAddr 2)]) (st' := [.int (v + (1 : Int32)), .retAddr 2, .ref 151]) (M' := v_mk s1) rfl ?_
  refine v_ias (j := 2) rfl (l_ix1 hv) rfl ?_
  show s_Ek (s_rows 3 L xs) 1300 s_law 636 [(3, .int v), (2, .ref 151), (1, .ref 0), (0, .retAddr 2)] [.int (xs (Int32.toNatClampNeg (v + (1 : Int32)))), .ref 151] (v_mk s1) _
  refine s_ek_bk 4 (P := 640) (ls' := [(3, .int v), (2, .ref 151), (1, .ref 0), (0, .retAddr 2)]) (st' := [.int (v + (2 : Int32)), .retAddr 2, .int (xs (Int32.toNatClampNeg (v + (1 : Int32)))), .ref 151]) (M' := v_mk s1) rfl ?_
  refine v_ias (j := 2) rfl (l_ix2 hv) rfl ?_
  show s_Ek (s_rows 3 L xs) 1300 s_law 641 [(3, .int v), (2, .ref 151), (1, .ref 0), (0, .retAddr 2)] [.int (xs (Int32.toNatClampNeg (v + (2 : Int32)))), .int (xs (Int32.toNatClampNeg (v + (1 : Int32)))), .ref 151] (v_mk s1) _
  obtain ⟨r2, s2, e2, h⟩ := h
  refine v_cV (ν := s_e254.1) (w := 2034) (a := 151) (as' := [.int (xs (Int32.toNatClampNeg (v + (1 : Int32)))), .int (xs (Int32.toNatClampNeg (v + (2 : Int32))))]) (r := []) (o := some (.int r2)) (by omega) rfl rfl rfl (v_mk_kd (k := 11) (rfl : v_kd 151 = 11) (by decide)) rfl (t_Md_meant e2 (by omega)) ?_
  show s_Ek (s_rows 3 L xs) 1300 s_law 644 [(3, .int v), (2, .ref 151), (1, .ref 0), (0, .retAddr 2)] [.int r2] (v_mk s2) _
  refine s_ek_bk 4 (P := 18) (ls' := [(3, .int (v + 6)), (2, .ref 151), (1, .ref 0), (0, .retAddr 2)]) (st' := []) (M' := v_mk s2) rfl ?_
  exact kk _ h
set_option maxRecDepth 100000 in
set_option maxHeartbeats 4000000 in
theorem l_c14 {L : Nat} {xs : Nat → Int32} {I : vS → Prop} {Q : Option Value → sM → Prop} {v : Int32} {s : vS} (hv : l_in L v) (h : v_T (f_Ol_falseOnes ((xs (Int32.toNatClampNeg (v + (1 : Int32))))) s) (fun r1 s1 => v_T (f_Md_falseOnes ((xs (Int32.toNatClampNeg (v + (1 : Int32))))) s1) (fun r2 s2 => I s2 ∧ r1 = r2))) (kk : ∀ t, I t → s_Ek (s_rows 3 L xs) 1300 s_law 18 [(3, .int (v + 6)), (2, .ref 151), (1, .ref 0), (0, .retAddr 2)] [] (v_mk t) Q) : s_Ek (s_rows 3 L xs) 1300 s_law 33 [(3, .int v), (2, .ref 151), (1, .ref 0), (0, .retAddr 2)] [.int 14] (v_mk s) Q := by
  refine s_ek_bk 1 (P := 648) (ls' := [(3, .int v), (2, .ref 151), (1, .ref 0), (0, .retAddr 2)]) (st' := []) (M' := v_mk s) rfl ?_
  refine s_ek_bk 5 (P := 653) (ls' := [(3, .int v), (2, .ref 151), (1, .ref 0), (0, .retAddr 2)]) (st' := [.int (v + (1 : Int32)), .retAddr 2, .ref 0]) (M' := v_mk s) rfl ?_
  refine v_ias (j := 2) rfl (l_ix1 hv) rfl ?_
  show s_Ek (s_rows 3 L xs) 1300 s_law 654 [(3, .int v), (2, .ref 151), (1, .ref 0), (0, .retAddr 2)] [.int (xs (Int32.toNatClampNeg (v + (1 : Int32)))), .ref 0] (v_mk s) _
  obtain ⟨r1, s1, e1, h⟩ := h
  refine v_cV (ν := s_e151.1) (w := 1209) (a := 0) (as' := [.int (xs (Int32.toNatClampNeg (v + (1 : Int32))))]) (r := []) (o := some (.int r1)) (by omega) rfl rfl rfl (v_mk_kd (k := 10) (rfl : v_kd 0 = 10) (by decide)) rfl (t_Ol_falseOnes e1 (by omega)) ?_
  show s_Ek (s_rows 3 L xs) 1300 s_law 657 [(3, .int v), (2, .ref 151), (1, .ref 0), (0, .retAddr 2)] [.int r1] (v_mk s1) _
  refine s_ek_bk 5 (P := 662) (ls' := [(3, .int v), (2, .ref 151), (1, .ref 0), (0, .retAddr 2)]) (st' := [.int (v + (1 : Int32)), .retAddr 2, .ref 151, .int r1]) (M' := v_mk s1) rfl ?_
  refine v_ias (j := 2) rfl (l_ix1 hv) rfl ?_
  show s_Ek (s_rows 3 L xs) 1300 s_law 663 [(3, .int v), (2, .ref 151), (1, .ref 0), (0, .retAddr 2)] [.int (xs (Int32.toNatClampNeg (v + (1 : Int32)))), .ref 151, .int r1] (v_mk s1) _
  obtain ⟨r2, s2, e2, h⟩ := h
  refine v_cV (ν := s_e255.1) (w := 2041) (a := 151) (as' := [.int (xs (Int32.toNatClampNeg (v + (1 : Int32))))]) (r := [.int r1]) (o := some (.int r2)) (by omega) rfl rfl rfl (v_mk_kd (k := 11) (rfl : v_kd 151 = 11) (by decide)) rfl (t_Md_falseOnes e2 (by omega)) ?_
  show s_Ek (s_rows 3 L xs) 1300 s_law 666 [(3, .int v), (2, .ref 151), (1, .ref 0), (0, .retAddr 2)] [.int r2, .int r1] (v_mk s2) _
  refine v_i2t (T := 1192) rfl rfl (congrArg Int32.toInt h.2) ?_
  refine s_ek_bk 2 (P := 18) (ls' := [(3, .int (v + 6)), (2, .ref 151), (1, .ref 0), (0, .retAddr 2)]) (st' := []) (M' := v_mk s2) rfl ?_
  exact kk _ h.1
set_option maxRecDepth 100000 in
set_option maxHeartbeats 4000000 in
theorem l_c15 {L : Nat} {xs : Nat → Int32} {I : vS → Prop} {Q : Option Value → sM → Prop} {v : Int32} {s : vS} (hv : l_in L v) (h : v_T (f_Ol_under ((xs (Int32.toNatClampNeg (v + (1 : Int32))))) ((xs (Int32.toNatClampNeg (v + (2 : Int32))))) s) (fun r1 s1 => v_T (f_Md_under ((xs (Int32.toNatClampNeg (v + (1 : Int32))))) ((xs (Int32.toNatClampNeg (v + (2 : Int32))))) s1) (fun r2 s2 => I s2))) (kk : ∀ t, I t → s_Ek (s_rows 3 L xs) 1300 s_law 18 [(3, .int (v + 6)), (2, .ref 151), (1, .ref 0), (0, .retAddr 2)] [] (v_mk t) Q) : s_Ek (s_rows 3 L xs) 1300 s_law 33 [(3, .int v), (2, .ref 151), (1, .ref 0), (0, .retAddr 2)] [.int 15] (v_mk s) Q := by
  refine s_ek_bk 1 (P := 671) (ls' := [(3, .int v), (2, .ref 151), (1, .ref 0), (0, .retAddr 2)]) (st' := []) (M' := v_mk s) rfl ?_
  refine s_ek_bk 5 (P := 676) (ls' := [(3, .int v), (2, .ref 151), (1, .ref 0), (0, .retAddr 2)]) (st' := [.int (v + (1 : Int32)), .retAddr 2, .ref 0]) (M' := v_mk s) rfl ?_
  refine v_ias (j := 2) rfl (l_ix1 hv) rfl ?_
  show s_Ek (s_rows 3 L xs) 1300 s_law 677 [(3, .int v), (2, .ref 151), (1, .ref 0), (0, .retAddr 2)] [.int (xs (Int32.toNatClampNeg (v + (1 : Int32)))), .ref 0] (v_mk s) _
  refine s_ek_bk 4 (P := 681) (ls' := [(3, .int v), (2, .ref 151), (1, .ref 0), (0, .retAddr 2)]) (st' := [.int (v + (2 : Int32)), .retAddr 2, .int (xs (Int32.toNatClampNeg (v + (1 : Int32)))), .ref 0]) (M' := v_mk s) rfl ?_
  refine v_ias (j := 2) rfl (l_ix2 hv) rfl ?_
  show s_Ek (s_rows 3 L xs) 1300 s_law 682 [(3, .int v), (2, .ref 151), (1, .ref 0), (0, .retAddr 2)] [.int (xs (Int32.toNatClampNeg (v + (2 : Int32)))), .int (xs (Int32.toNatClampNeg (v + (1 : Int32)))), .ref 0] (v_mk s) _
  obtain ⟨r1, s1, e1, h⟩ := h
  refine v_cV (ν := s_e152.1) (w := 1218) (a := 0) (as' := [.int (xs (Int32.toNatClampNeg (v + (1 : Int32)))), .int (xs (Int32.toNatClampNeg (v + (2 : Int32))))]) (r := []) (o := some (.int r1)) (by omega) rfl rfl rfl (v_mk_kd (k := 10) (rfl : v_kd 0 = 10) (by decide)) rfl (t_Ol_under e1 (by omega)) ?_
  show s_Ek (s_rows 3 L xs) 1300 s_law 685 [(3, .int v), (2, .ref 151), (1, .ref 0), (0, .retAddr 2)] [.int r1] (v_mk s1) _
  refine s_ek_bk 6 (P := 691) (ls' := [(3, .int v), (2, .ref 151), (1, .ref 0), (0, .retAddr 2)]) (st' := [.int (v + (1 : Int32)), .retAddr 2, .ref 151]) (M' := v_mk s1) rfl ?_
  refine v_ias (j := 2) rfl (l_ix1 hv) rfl ?_
  show s_Ek (s_rows 3 L xs) 1300 s_law 692 [(3, .int v), (2, .ref 151), (1, .ref 0), (0, .retAddr 2)] [.int (xs (Int32.toNatClampNeg (v + (1 : Int32)))), .ref 151] (v_mk s1) _
  refine s_ek_bk 4 (P := 696) (ls' := [(3, .int v), (2, .ref 151), (1, .ref 0), (0, .retAddr 2)]) (st' := [.int (v + (2 : Int32)), .retAddr 2, .int (xs (Int32.toNatClampNeg (v + (1 : Int32)))), .ref 151]) (M' := v_mk s1) rfl ?_
  refine v_ias (j := 2) rfl (l_ix2 hv) rfl ?_
  show s_Ek (s_rows 3 L xs) 1300 s_law 697 [(3, .int v), (2, .ref 151), (1, .ref 0), (0, .retAddr 2)] [.int (xs (Int32.toNatClampNeg (v + (2 : Int32)))), .int (xs (Int32.toNatClampNeg (v + (1 : Int32)))), .ref 151] (v_mk s1) _
  obtain ⟨r2, s2, e2, h⟩ := h
  refine v_cV (ν := s_e256.1) (w := 2050) (a := 151) (as' := [.int (xs (Int32.toNatClampNeg (v + (1 : Int32)))), .int (xs (Int32.toNatClampNeg (v + (2 : Int32))))]) (r := []) (o := some (.int r2)) (by omega) rfl rfl rfl (v_mk_kd (k := 11) (rfl : v_kd 151 = 11) (by decide)) rfl (t_Md_under e2 (by omega)) ?_
  show s_Ek (s_rows 3 L xs) 1300 s_law 700 [(3, .int v), (2, .ref 151), (1, .ref 0), (0, .retAddr 2)] [.int r2] (v_mk s2) _
  refine s_ek_bk 4 (P := 18) (ls' := [(3, .int (v + 6)), (2, .ref 151), (1, .ref 0), (0, .retAddr 2)]) (st' := []) (M' := v_mk s2) rfl ?_
  exact kk _ h
set_option maxRecDepth 100000 in
set_option maxHeartbeats 4000000 in
theorem l_c16 {L : Nat} {xs : Nat → Int32} {I : vS → Prop} {Q : Option Value → sM → Prop} {v : Int32} {s : vS} (hv : l_in L v) (h : v_T (f_Ol_unlike ((xs (Int32.toNatClampNeg (v + (1 : Int32))))) ((xs (Int32.toNatClampNeg (v + (2 : Int32))))) s) (fun r1 s1 => v_T (f_Md_unlike ((xs (Int32.toNatClampNeg (v + (1 : Int32))))) ((xs (Int32.toNatClampNeg (v + (2 : Int32))))) s1) (fun r2 s2 => I s2))) (kk : ∀ t, I t → s_Ek (s_rows 3 L xs) 1300 s_law 18 [(3, .int (v + 6)), (2, .ref 151), (1, .ref 0), (0, .retAddr 2)] [] (v_mk t) Q) : s_Ek (s_rows 3 L xs) 1300 s_law 33 [(3, .int v), (2, .ref 151), (1, .ref 0), (0, .retAddr 2)] [.int 16] (v_mk s) Q := by
  refine s_ek_bk 1 (P := 704) (ls' := [(3, .int v), (2, .ref 151), (1, .ref 0), (0, .retAddr 2)]) (st' := []) (M' := v_mk s) rfl ?_
  refine s_ek_bk 5 (P := 709) (ls' := [(3, .int v), (2, .ref 151), (1, .ref 0), (0, .retAddr 2)]) (st' := [.int (v + (1 : Int32)), .retAddr 2, .ref 0]) (M' := v_mk s) rfl ?_
  refine v_ias (j := 2) rfl (l_ix1 hv) rfl ?_
  show s_Ek (s_rows 3 L xs) 1300 s_law 710 [(3, .int v), (2, .ref 151), (1, .ref 0), (0, .retAddr 2)] [.int (xs (Int32.toNatClampNeg (v + (1 : Int32)))), .ref 0] (v_mk s) _
  refine s_ek_bk 4 (P := 714) (ls' := [(3, .int v), (2, .ref 151), (1, .ref 0), (0, .retAddr 2)]) (st' := [.int (v + (2 : Int32)), .retAddr 2, .int (xs (Int32.toNatClampNeg (v + (1 : Int32)))), .ref 0]) (M' := v_mk s) rfl ?_
  refine v_ias (j := 2) rfl (l_ix2 hv) rfl ?_
  show s_Ek (s_rows 3 L xs) 1300 s_law 715 [(3, .int v), (2, .ref 151), (1, .ref 0), (0, .retAddr 2)] [.int (xs (Int32.toNatClampNeg (v + (2 : Int32)))), .int (xs (Int32.toNatClampNeg (v + (1 : Int32)))), .ref 0] (v_mk s) _
  obtain ⟨r1, s1, e1, h⟩ := h
  refine v_cV (ν := s_e153.1) (w := 1226) (a := 0) (as' := [.int (xs (Int32.toNatClampNeg (v + (1 : Int32)))), .int (xs (Int32.toNatClampNeg (v + (2 : Int32))))]) (r := []) (o := some (.int r1)) (by omega) rfl rfl rfl (v_mk_kd (k := 10) (rfl : v_kd 0 = 10) (by decide)) rfl (t_Ol_unlike e1 (by omega)) ?_
  show s_Ek (s_rows 3 L xs) 1300 s_law 718 [(3, .int v), (2, .ref 151), (1, .ref 0), (0, .retAddr 2)] [.int r1] (v_mk s1) _
  refine s_ek_bk 6 (P := 724) (ls' := [(3, .int v), (2, .ref 151), (1, .ref 0), (0, .retAddr 2)]) (st' := [.int (v + (1 : Int32)), .retAddr 2, .ref 151]) (M' := v_mk s1) rfl ?_
  refine v_ias (j := 2) rfl (l_ix1 hv) rfl ?_
  show s_Ek (s_rows 3 L xs) 1300 s_law 725 [(3, .int v), (2, .ref 151), (1, .ref 0), (0, .retAddr 2)] [.int (xs (Int32.toNatClampNeg (v + (1 : Int32)))), .ref 151] (v_mk s1) _
  refine s_ek_bk 4 (P := 729) (ls' := [(3, .int v), (2, .ref 151), (1, .ref 0), (0, .retAddr 2)]) (st' := [.int (v + (2 : Int32)), .retAddr 2, .int (xs (Int32.toNatClampNeg (v + (1 : Int32)))), .ref 151]) (M' := v_mk s1) rfl ?_
  refine v_ias (j := 2) rfl (l_ix2 hv) rfl ?_
  show s_Ek (s_rows 3 L xs) 1300 s_law 730 [(3, .int v), (2, .ref 151), (1, .ref 0), (0, .retAddr 2)] [.int (xs (Int32.toNatClampNeg (v + (2 : Int32)))), .int (xs (Int32.toNatClampNeg (v + (1 : Int32)))), .ref 151] (v_mk s1) _
  obtain ⟨r2, s2, e2, h⟩ := h
  refine v_cV (ν := s_e257.1) (w := 2058) (a := 151) (as' := [.int (xs (Int32.toNatClampNeg (v + (1 : Int32)))), .int (xs (Int32.toNatClampNeg (v + (2 : Int32))))]) (r := []) (o := some (.int r2)) (by omega) rfl rfl rfl (v_mk_kd (k := 11) (rfl : v_kd 151 = 11) (by decide)) rfl (t_Md_unlike e2 (by omega)) ?_
  show s_Ek (s_rows 3 L xs) 1300 s_law 733 [(3, .int v), (2, .ref 151), (1, .ref 0), (0, .retAddr 2)] [.int r2] (v_mk s2) _
  refine s_ek_bk 4 (P := 18) (ls' := [(3, .int (v + 6)), (2, .ref 151), (1, .ref 0), (0, .retAddr 2)]) (st' := []) (M' := v_mk s2) rfl ?_
  exact kk _ h
set_option maxRecDepth 100000 in
set_option maxHeartbeats 4000000 in
theorem l_c17 {L : Nat} {xs : Nat → Int32} {I : vS → Prop} {Q : Option Value → sM → Prop} {v : Int32} {s : vS} (hv : l_in L v) (h : v_T (f_Ol_rings  s) (fun r1 s1 => v_T (f_Md_rings  s1) (fun r2 s2 => I s2))) (kk : ∀ t, I t → s_Ek (s_rows 3 L xs) 1300 s_law 18 [(3, .int (v + 6)), (2, .ref 151), (1, .ref 0), (0, .retAddr 2)] [] (v_mk t) Q) : s_Ek (s_rows 3 L xs) 1300 s_law 33 [(3, .int v), (2, .ref 151), (1, .ref 0), (0, .retAddr 2)] [.int 17] (v_mk s) Q := by
  refine s_ek_bk 1 (P := 737) (ls' := [(3, .int v), (2, .ref 151), (1, .ref 0), (0, .retAddr 2)]) (st' := []) (M' := v_mk s) rfl ?_
  refine s_ek_bk 1 (P := 738) (ls' := [(3, .int v), (2, .ref 151), (1, .ref 0), (0, .retAddr 2)]) (st' := [.ref 0]) (M' := v_mk s) rfl ?_
  obtain ⟨r1, s1, e1, h⟩ := h
  refine v_cV (ν := s_e154.1) (w := 1232) (a := 0) (as' := []) (r := []) (o := some (.int r1)) (by omega) rfl rfl rfl (v_mk_kd (k := 10) (rfl : v_kd 0 = 10) (by decide)) rfl (t_Ol_rings e1 (by omega)) ?_
  show s_Ek (s_rows 3 L xs) 1300 s_law 741 [(3, .int v), (2, .ref 151), (1, .ref 0), (0, .retAddr 2)] [.int r1] (v_mk s1) _
  refine s_ek_bk 2 (P := 743) (ls' := [(3, .int v), (2, .ref 151), (1, .ref 0), (0, .retAddr 2)]) (st' := [.ref 151]) (M' := v_mk s1) rfl ?_
  obtain ⟨r2, s2, e2, h⟩ := h
  refine v_cV (ν := s_e259.1) (w := 2072) (a := 151) (as' := []) (r := []) (o := some (.int r2)) (by omega) rfl rfl rfl (v_mk_kd (k := 11) (rfl : v_kd 151 = 11) (by decide)) rfl (t_Md_rings e2 (by omega)) ?_
  show s_Ek (s_rows 3 L xs) 1300 s_law 746 [(3, .int v), (2, .ref 151), (1, .ref 0), (0, .retAddr 2)] [.int r2] (v_mk s2) _
  refine s_ek_bk 4 (P := 18) (ls' := [(3, .int (v + 6)), (2, .ref 151), (1, .ref 0), (0, .retAddr 2)]) (st' := []) (M' := v_mk s2) rfl ?_
  exact kk _ h
set_option maxRecDepth 100000 in
set_option maxHeartbeats 4000000 in
theorem l_c18 {L : Nat} {xs : Nat → Int32} {I : vS → Prop} {Q : Option Value → sM → Prop} {v : Int32} {s : vS} (hv : l_in L v) (h : v_T (f_Ol_image  s) (fun r1 s1 => v_T (f_Md_image  s1) (fun r2 s2 => I s2))) (kk : ∀ t, I t → s_Ek (s_rows 3 L xs) 1300 s_law 18 [(3, .int (v + 6)), (2, .ref 151), (1, .ref 0), (0, .retAddr 2)] [] (v_mk t) Q) : s_Ek (s_rows 3 L xs) 1300 s_law 33 [(3, .int v), (2, .ref 151), (1, .ref 0), (0, .retAddr 2)] [.int 18] (v_mk s) Q := by
  refine s_ek_bk 1 (P := 750) (ls' := [(3, .int v), (2, .ref 151), (1, .ref 0), (0, .retAddr 2)]) (st' := []) (M' := v_mk s) rfl ?_
  refine s_ek_bk 1 (P := 751) (ls' := [(3, .int v), (2, .ref 151), (1, .ref 0), (0, .retAddr 2)]) (st' := [.ref 0]) (M' := v_mk s) rfl ?_
  obtain ⟨r1, s1, e1, h⟩ := h
  refine v_cV (ν := s_e155.1) (w := 1240) (a := 0) (as' := []) (r := []) (o := some (.int r1)) (by omega) rfl rfl rfl (v_mk_kd (k := 10) (rfl : v_kd 0 = 10) (by decide)) rfl (t_Ol_image e1 (by omega)) ?_
  show s_Ek (s_rows 3 L xs) 1300 s_law 754 [(3, .int v), (2, .ref 151), (1, .ref 0), (0, .retAddr 2)] [.int r1] (v_mk s1) _
  refine s_ek_bk 2 (P := 756) (ls' := [(3, .int v), (2, .ref 151), (1, .ref 0), (0, .retAddr 2)]) (st' := [.ref 151]) (M' := v_mk s1) rfl ?_
  obtain ⟨r2, s2, e2, h⟩ := h
  refine v_cV (ν := s_e260.1) (w := 2080) (a := 151) (as' := []) (r := []) (o := some (.int r2)) (by omega) rfl rfl rfl (v_mk_kd (k := 11) (rfl : v_kd 151 = 11) (by decide)) rfl (t_Md_image e2 (by omega)) ?_
  show s_Ek (s_rows 3 L xs) 1300 s_law 759 [(3, .int v), (2, .ref 151), (1, .ref 0), (0, .retAddr 2)] [.int r2] (v_mk s2) _
  refine s_ek_bk 4 (P := 18) (ls' := [(3, .int (v + 6)), (2, .ref 151), (1, .ref 0), (0, .retAddr 2)]) (st' := []) (M' := v_mk s2) rfl ?_
  exact kk _ h
set_option maxRecDepth 100000 in
set_option maxHeartbeats 4000000 in
theorem l_c19 {L : Nat} {xs : Nat → Int32} {I : vS → Prop} {Q : Option Value → sM → Prop} {v : Int32} {s : vS} (hv : l_in L v) (h : v_T (f_Ol_back  s) (fun r1 s1 => v_T (f_Md_back  s1) (fun r2 s2 => I s2))) (kk : ∀ t, I t → s_Ek (s_rows 3 L xs) 1300 s_law 18 [(3, .int (v + 6)), (2, .ref 151), (1, .ref 0), (0, .retAddr 2)] [] (v_mk t) Q) : s_Ek (s_rows 3 L xs) 1300 s_law 33 [(3, .int v), (2, .ref 151), (1, .ref 0), (0, .retAddr 2)] [.int 19] (v_mk s) Q := by
  refine s_ek_bk 1 (P := 763) (ls' := [(3, .int v), (2, .ref 151), (1, .ref 0), (0, .retAddr 2)]) (st' := []) (M' := v_mk s) rfl ?_
  refine s_ek_bk 1 (P := 764) (ls' := [(3, .int v), (2, .ref 151), (1, .ref 0), (0, .retAddr 2)]) (st' := [.ref 0]) (M' := v_mk s) rfl ?_
  obtain ⟨r1, s1, e1, h⟩ := h
  refine v_cV (ν := s_e156.1) (w := 1248) (a := 0) (as' := []) (r := []) (o := some (.int r1)) (by omega) rfl rfl rfl (v_mk_kd (k := 10) (rfl : v_kd 0 = 10) (by decide)) rfl (t_Ol_back e1 (by omega)) ?_
  show s_Ek (s_rows 3 L xs) 1300 s_law 767 [(3, .int v), (2, .ref 151), (1, .ref 0), (0, .retAddr 2)] [.int r1] (v_mk s1) _
  refine s_ek_bk 2 (P := 769) (ls' := [(3, .int v), (2, .ref 151), (1, .ref 0), (0, .retAddr 2)]) (st' := [.ref 151]) (M' := v_mk s1) rfl ?_
  obtain ⟨r2, s2, e2, h⟩ := h
  refine v_cV (ν := s_e261.1) (w := 2088) (a := 151) (as' := []) (r := []) (o := some (.int r2)) (by omega) rfl rfl rfl (v_mk_kd (k := 11) (rfl : v_kd 151 = 11) (by decide)) rfl (t_Md_back e2 (by omega)) ?_
  show s_Ek (s_rows 3 L xs) 1300 s_law 772 [(3, .int v), (2, .ref 151), (1, .ref 0), (0, .retAddr 2)] [.int r2] (v_mk s2) _
  refine s_ek_bk 4 (P := 18) (ls' := [(3, .int (v + 6)), (2, .ref 151), (1, .ref 0), (0, .retAddr 2)]) (st' := []) (M' := v_mk s2) rfl ?_
  exact kk _ h
set_option maxRecDepth 100000 in
set_option maxHeartbeats 4000000 in
theorem l_c20 {L : Nat} {xs : Nat → Int32} {I : vS → Prop} {Q : Option Value → sM → Prop} {v : Int32} {s : vS} (hv : l_in L v) (h : v_T (f_Ol_undo  s) (fun r1 s1 => v_T (f_Md_undo  s1) (fun r2 s2 => I s2))) (kk : ∀ t, I t → s_Ek (s_rows 3 L xs) 1300 s_law 18 [(3, .int (v + 6)), (2, .ref 151), (1, .ref 0), (0, .retAddr 2)] [] (v_mk t) Q) : s_Ek (s_rows 3 L xs) 1300 s_law 33 [(3, .int v), (2, .ref 151), (1, .ref 0), (0, .retAddr 2)] [.int 20] (v_mk s) Q := by
  refine s_ek_bk 1 (P := 776) (ls' := [(3, .int v), (2, .ref 151), (1, .ref 0), (0, .retAddr 2)]) (st' := []) (M' := v_mk s) rfl ?_
  refine s_ek_bk 1 (P := 777) (ls' := [(3, .int v), (2, .ref 151), (1, .ref 0), (0, .retAddr 2)]) (st' := [.ref 0]) (M' := v_mk s) rfl ?_
  obtain ⟨r1, s1, e1, h⟩ := h
  refine v_cV (ν := s_e157.1) (w := 1256) (a := 0) (as' := []) (r := []) (o := some (.int r1)) (by omega) rfl rfl rfl (v_mk_kd (k := 10) (rfl : v_kd 0 = 10) (by decide)) rfl (t_Ol_undo e1 (by omega)) ?_
  show s_Ek (s_rows 3 L xs) 1300 s_law 780 [(3, .int v), (2, .ref 151), (1, .ref 0), (0, .retAddr 2)] [.int r1] (v_mk s1) _
  refine s_ek_bk 2 (P := 782) (ls' := [(3, .int v), (2, .ref 151), (1, .ref 0), (0, .retAddr 2)]) (st' := [.ref 151]) (M' := v_mk s1) rfl ?_
  obtain ⟨r2, s2, e2, h⟩ := h
  refine v_cV (ν := s_e211.1) (w := 1688) (a := 151) (as' := []) (r := []) (o := some (.int r2)) (by omega) rfl rfl rfl (v_mk_kd (k := 11) (rfl : v_kd 151 = 11) (by decide)) rfl (t_Md_undo e2 (by omega)) ?_
  show s_Ek (s_rows 3 L xs) 1300 s_law 785 [(3, .int v), (2, .ref 151), (1, .ref 0), (0, .retAddr 2)] [.int r2] (v_mk s2) _
  refine s_ek_bk 4 (P := 18) (ls' := [(3, .int (v + 6)), (2, .ref 151), (1, .ref 0), (0, .retAddr 2)]) (st' := []) (M' := v_mk s2) rfl ?_
  exact kk _ h
set_option maxRecDepth 100000 in
set_option maxHeartbeats 4000000 in
theorem l_c21 {L : Nat} {xs : Nat → Int32} {I : vS → Prop} {Q : Option Value → sM → Prop} {v : Int32} {s : vS} (hv : l_in L v) (h : v_T (f_Ol_redo  s) (fun r1 s1 => v_T (f_Md_redo  s1) (fun r2 s2 => I s2))) (kk : ∀ t, I t → s_Ek (s_rows 3 L xs) 1300 s_law 18 [(3, .int (v + 6)), (2, .ref 151), (1, .ref 0), (0, .retAddr 2)] [] (v_mk t) Q) : s_Ek (s_rows 3 L xs) 1300 s_law 33 [(3, .int v), (2, .ref 151), (1, .ref 0), (0, .retAddr 2)] [.int 21] (v_mk s) Q := by
  refine s_ek_bk 1 (P := 789) (ls' := [(3, .int v), (2, .ref 151), (1, .ref 0), (0, .retAddr 2)]) (st' := []) (M' := v_mk s) rfl ?_
  refine s_ek_bk 1 (P := 790) (ls' := [(3, .int v), (2, .ref 151), (1, .ref 0), (0, .retAddr 2)]) (st' := [.ref 0]) (M' := v_mk s) rfl ?_
  obtain ⟨r1, s1, e1, h⟩ := h
  refine v_cV (ν := s_e158.1) (w := 1264) (a := 0) (as' := []) (r := []) (o := some (.int r1)) (by omega) rfl rfl rfl (v_mk_kd (k := 10) (rfl : v_kd 0 = 10) (by decide)) rfl (t_Ol_redo e1 (by omega)) ?_
  show s_Ek (s_rows 3 L xs) 1300 s_law 793 [(3, .int v), (2, .ref 151), (1, .ref 0), (0, .retAddr 2)] [.int r1] (v_mk s1) _
  refine s_ek_bk 2 (P := 795) (ls' := [(3, .int v), (2, .ref 151), (1, .ref 0), (0, .retAddr 2)]) (st' := [.ref 151]) (M' := v_mk s1) rfl ?_
  obtain ⟨r2, s2, e2, h⟩ := h
  refine v_cV (ν := s_e212.1) (w := 1696) (a := 151) (as' := []) (r := []) (o := some (.int r2)) (by omega) rfl rfl rfl (v_mk_kd (k := 11) (rfl : v_kd 151 = 11) (by decide)) rfl (t_Md_redo e2 (by omega)) ?_
  show s_Ek (s_rows 3 L xs) 1300 s_law 798 [(3, .int v), (2, .ref 151), (1, .ref 0), (0, .retAddr 2)] [.int r2] (v_mk s2) _
  refine s_ek_bk 4 (P := 18) (ls' := [(3, .int (v + 6)), (2, .ref 151), (1, .ref 0), (0, .retAddr 2)]) (st' := []) (M' := v_mk s2) rfl ?_
  exact kk _ h
set_option maxRecDepth 100000 in
set_option maxHeartbeats 4000000 in
theorem l_c22 {L : Nat} {xs : Nat → Int32} {I : vS → Prop} {Q : Option Value → sM → Prop} {v : Int32} {s : vS} (hv : l_in L v) (h : v_T (f_Ol_body ((xs (Int32.toNatClampNeg (v + (1 : Int32))))) s) (fun r1 s1 => v_T (f_Md_body ((xs (Int32.toNatClampNeg (v + (1 : Int32))))) s1) (fun r2 s2 => I s2))) (kk : ∀ t, I t → s_Ek (s_rows 3 L xs) 1300 s_law 18 [(3, .int (v + 6)), (2, .ref 151), (1, .ref 0), (0, .retAddr 2)] [] (v_mk t) Q) : s_Ek (s_rows 3 L xs) 1300 s_law 33 [(3, .int v), (2, .ref 151), (1, .ref 0), (0, .retAddr 2)] [.int 22] (v_mk s) Q := by
  refine s_ek_bk 1 (P := 802) (ls' := [(3, .int v), (2, .ref 151), (1, .ref 0), (0, .retAddr 2)]) (st' := []) (M' := v_mk s) rfl ?_
  refine s_ek_bk 5 (P := 807) (ls' := [(3, .int v), (2, .ref 151), (1, .ref 0), (0, .retAddr 2)]) (st' := [.int (v + (1 : Int32)), .retAddr 2, .ref 0]) (M' := v_mk s) rfl ?_
  refine v_ias (j := 2) rfl (l_ix1 hv) rfl ?_
  show s_Ek (s_rows 3 L xs) 1300 s_law 808 [(3, .int v), (2, .ref 151), (1, .ref 0), (0, .retAddr 2)] [.int (xs (Int32.toNatClampNeg (v + (1 : Int32)))), .ref 0] (v_mk s) _
  obtain ⟨r1, s1, e1, h⟩ := h
  refine v_cV (ν := s_e159.1) (w := 1273) (a := 0) (as' := [.int (xs (Int32.toNatClampNeg (v + (1 : Int32))))]) (r := []) (o := some (.int r1)) (by omega) rfl rfl rfl (v_mk_kd (k := 10) (rfl : v_kd 0 = 10) (by decide)) rfl (t_Ol_body e1 (by omega)) ?_
  show s_Ek (s_rows 3 L xs) 1300 s_law 811 [(3, .int v), (2, .ref 151), (1, .ref 0), (0, .retAddr 2)] [.int r1] (v_mk s1) _
  refine s_ek_bk 6 (P := 817) (ls' := [(3, .int v), (2, .ref 151), (1, .ref 0), (0, .retAddr 2)]) (st' := [.int (v + (1 : Int32)), .retAddr 2, .ref 151]) (M' := v_mk s1) rfl ?_
  refine v_ias (j := 2) rfl (l_ix1 hv) rfl ?_
  show s_Ek (s_rows 3 L xs) 1300 s_law 818 [(3, .int v), (2, .ref 151), (1, .ref 0), (0, .retAddr 2)] [.int (xs (Int32.toNatClampNeg (v + (1 : Int32)))), .ref 151] (v_mk s1) _
  obtain ⟨r2, s2, e2, h⟩ := h
  refine v_cV (ν := s_e265.1) (w := 2121) (a := 151) (as' := [.int (xs (Int32.toNatClampNeg (v + (1 : Int32))))]) (r := []) (o := some (.int r2)) (by omega) rfl rfl rfl (v_mk_kd (k := 11) (rfl : v_kd 151 = 11) (by decide)) rfl (t_Md_body e2 (by omega)) ?_
  show s_Ek (s_rows 3 L xs) 1300 s_law 821 [(3, .int v), (2, .ref 151), (1, .ref 0), (0, .retAddr 2)] [.int r2] (v_mk s2) _
  refine s_ek_bk 4 (P := 18) (ls' := [(3, .int (v + 6)), (2, .ref 151), (1, .ref 0), (0, .retAddr 2)]) (st' := []) (M' := v_mk s2) rfl ?_
  exact kk _ h
set_option maxRecDepth 100000 in
set_option maxHeartbeats 4000000 in
theorem l_c23 {L : Nat} {xs : Nat → Int32} {I : vS → Prop} {Q : Option Value → sM → Prop} {v : Int32} {s : vS} (hv : l_in L v) (h : v_T (f_Ol_act ((xs (Int32.toNatClampNeg (v + (1 : Int32))))) ((xs (Int32.toNatClampNeg (v + (2 : Int32))))) ((xs (Int32.toNatClampNeg (v + (3 : Int32))))) s) (fun r1 s1 => v_T (f_Md_act ((xs (Int32.toNatClampNeg (v + (1 : Int32))))) ((xs (Int32.toNatClampNeg (v + (2 : Int32))))) ((xs (Int32.toNatClampNeg (v + (3 : Int32))))) s1) (fun r2 s2 => I s2))) (kk : ∀ t, I t → s_Ek (s_rows 3 L xs) 1300 s_law 18 [(3, .int (v + 6)), (2, .ref 151), (1, .ref 0), (0, .retAddr 2)] [] (v_mk t) Q) : s_Ek (s_rows 3 L xs) 1300 s_law 33 [(3, .int v), (2, .ref 151), (1, .ref 0), (0, .retAddr 2)] [.int 23] (v_mk s) Q := by
  refine s_ek_bk 1 (P := 825) (ls' := [(3, .int v), (2, .ref 151), (1, .ref 0), (0, .retAddr 2)]) (st' := []) (M' := v_mk s) rfl ?_
  refine s_ek_bk 5 (P := 830) (ls' := [(3, .int v), (2, .ref 151), (1, .ref 0), (0, .retAddr 2)]) (st' := [.int (v + (1 : Int32)), .retAddr 2, .ref 0]) (M' := v_mk s) rfl ?_
  refine v_ias (j := 2) rfl (l_ix1 hv) rfl ?_
  show s_Ek (s_rows 3 L xs) 1300 s_law 831 [(3, .int v), (2, .ref 151), (1, .ref 0), (0, .retAddr 2)] [.int (xs (Int32.toNatClampNeg (v + (1 : Int32)))), .ref 0] (v_mk s) _
  refine s_ek_bk 4 (P := 835) (ls' := [(3, .int v), (2, .ref 151), (1, .ref 0), (0, .retAddr 2)]) (st' := [.int (v + (2 : Int32)), .retAddr 2, .int (xs (Int32.toNatClampNeg (v + (1 : Int32)))), .ref 0]) (M' := v_mk s) rfl ?_
  refine v_ias (j := 2) rfl (l_ix2 hv) rfl ?_
  show s_Ek (s_rows 3 L xs) 1300 s_law 836 [(3, .int v), (2, .ref 151), (1, .ref 0), (0, .retAddr 2)] [.int (xs (Int32.toNatClampNeg (v + (2 : Int32)))), .int (xs (Int32.toNatClampNeg (v + (1 : Int32)))), .ref 0] (v_mk s) _
  refine s_ek_bk 4 (P := 840) (ls' := [(3, .int v), (2, .ref 151), (1, .ref 0), (0, .retAddr 2)]) (st' := [.int (v + (3 : Int32)), .retAddr 2, .int (xs (Int32.toNatClampNeg (v + (2 : Int32)))), .int (xs (Int32.toNatClampNeg (v + (1 : Int32)))), .ref 0]) (M' := v_mk s) rfl ?_
  refine v_ias (j := 2) rfl (l_ix3 hv) rfl ?_
  show s_Ek (s_rows 3 L xs) 1300 s_law 841 [(3, .int v), (2, .ref 151), (1, .ref 0), (0, .retAddr 2)] [.int (xs (Int32.toNatClampNeg (v + (3 : Int32)))), .int (xs (Int32.toNatClampNeg (v + (2 : Int32)))), .int (xs (Int32.toNatClampNeg (v + (1 : Int32)))), .ref 0] (v_mk s) _
  obtain ⟨r1, s1, e1, h⟩ := h
  refine v_cV (ν := s_e160.1) (w := 1283) (a := 0) (as' := [.int (xs (Int32.toNatClampNeg (v + (1 : Int32)))), .int (xs (Int32.toNatClampNeg (v + (2 : Int32)))), .int (xs (Int32.toNatClampNeg (v + (3 : Int32))))]) (r := []) (o := some (.int r1)) (by omega) rfl rfl rfl (v_mk_kd (k := 10) (rfl : v_kd 0 = 10) (by decide)) rfl (t_Ol_act e1 (by omega)) ?_
  show s_Ek (s_rows 3 L xs) 1300 s_law 844 [(3, .int v), (2, .ref 151), (1, .ref 0), (0, .retAddr 2)] [.int r1] (v_mk s1) _
  refine s_ek_bk 6 (P := 850) (ls' := [(3, .int v), (2, .ref 151), (1, .ref 0), (0, .retAddr 2)]) (st' := [.int (v + (1 : Int32)), .retAddr 2, .ref 151]) (M' := v_mk s1) rfl ?_
  refine v_ias (j := 2) rfl (l_ix1 hv) rfl ?_
  show s_Ek (s_rows 3 L xs) 1300 s_law 851 [(3, .int v), (2, .ref 151), (1, .ref 0), (0, .retAddr 2)] [.int (xs (Int32.toNatClampNeg (v + (1 : Int32)))), .ref 151] (v_mk s1) _
  refine s_ek_bk 4 (P := 855) (ls' := [(3, .int v), (2, .ref 151), (1, .ref 0), (0, .retAddr 2)]) (st' := [.int (v + (2 : Int32)), .retAddr 2, .int (xs (Int32.toNatClampNeg (v + (1 : Int32)))), .ref 151]) (M' := v_mk s1) rfl ?_
  refine v_ias (j := 2) rfl (l_ix2 hv) rfl ?_
  show s_Ek (s_rows 3 L xs) 1300 s_law 856 [(3, .int v), (2, .ref 151), (1, .ref 0), (0, .retAddr 2)] [.int (xs (Int32.toNatClampNeg (v + (2 : Int32)))), .int (xs (Int32.toNatClampNeg (v + (1 : Int32)))), .ref 151] (v_mk s1) _
  refine s_ek_bk 4 (P := 860) (ls' := [(3, .int v), (2, .ref 151), (1, .ref 0), (0, .retAddr 2)]) (st' := [.int (v + (3 : Int32)), .retAddr 2, .int (xs (Int32.toNatClampNeg (v + (2 : Int32)))), .int (xs (Int32.toNatClampNeg (v + (1 : Int32)))), .ref 151]) (M' := v_mk s1) rfl ?_
  refine v_ias (j := 2) rfl (l_ix3 hv) rfl ?_
  show s_Ek (s_rows 3 L xs) 1300 s_law 861 [(3, .int v), (2, .ref 151), (1, .ref 0), (0, .retAddr 2)] [.int (xs (Int32.toNatClampNeg (v + (3 : Int32)))), .int (xs (Int32.toNatClampNeg (v + (2 : Int32)))), .int (xs (Int32.toNatClampNeg (v + (1 : Int32)))), .ref 151] (v_mk s1) _
  obtain ⟨r2, s2, e2, h⟩ := h
  refine v_cV (ν := s_e278.1) (w := 2227) (a := 151) (as' := [.int (xs (Int32.toNatClampNeg (v + (1 : Int32)))), .int (xs (Int32.toNatClampNeg (v + (2 : Int32)))), .int (xs (Int32.toNatClampNeg (v + (3 : Int32))))]) (r := []) (o := some (.int r2)) (by omega) rfl rfl rfl (v_mk_kd (k := 11) (rfl : v_kd 151 = 11) (by decide)) rfl (t_Md_act e2 (by omega)) ?_
  show s_Ek (s_rows 3 L xs) 1300 s_law 864 [(3, .int v), (2, .ref 151), (1, .ref 0), (0, .retAddr 2)] [.int r2] (v_mk s2) _
  refine s_ek_bk 4 (P := 18) (ls' := [(3, .int (v + 6)), (2, .ref 151), (1, .ref 0), (0, .retAddr 2)]) (st' := []) (M' := v_mk s2) rfl ?_
  exact kk _ h
set_option maxRecDepth 100000 in
set_option maxHeartbeats 4000000 in
theorem l_c24 {L : Nat} {xs : Nat → Int32} {I : vS → Prop} {Q : Option Value → sM → Prop} {v : Int32} {s : vS} (hv : l_in L v) (h : v_T (f_Ol_trace ((xs (Int32.toNatClampNeg (v + (1 : Int32))))) s) (fun r1 s1 => v_T (f_Md_trace ((xs (Int32.toNatClampNeg (v + (1 : Int32))))) s1) (fun r2 s2 => I s2))) (kk : ∀ t, I t → s_Ek (s_rows 3 L xs) 1300 s_law 18 [(3, .int (v + 6)), (2, .ref 151), (1, .ref 0), (0, .retAddr 2)] [] (v_mk t) Q) : s_Ek (s_rows 3 L xs) 1300 s_law 33 [(3, .int v), (2, .ref 151), (1, .ref 0), (0, .retAddr 2)] [.int 24] (v_mk s) Q := by
  refine s_ek_bk 1 (P := 868) (ls' := [(3, .int v), (2, .ref 151), (1, .ref 0), (0, .retAddr 2)]) (st' := []) (M' := v_mk s) rfl ?_
  refine s_ek_bk 5 (P := 873) (ls' := [(3, .int v), (2, .ref 151), (1, .ref 0), (0, .retAddr 2)]) (st' := [.int (v + (1 : Int32)), .retAddr 2, .ref 0]) (M' := v_mk s) rfl ?_
  refine v_ias (j := 2) rfl (l_ix1 hv) rfl ?_
  show s_Ek (s_rows 3 L xs) 1300 s_law 874 [(3, .int v), (2, .ref 151), (1, .ref 0), (0, .retAddr 2)] [.int (xs (Int32.toNatClampNeg (v + (1 : Int32)))), .ref 0] (v_mk s) _
  obtain ⟨r1, s1, e1, h⟩ := h
  refine v_cV (ν := s_e161.1) (w := 1289) (a := 0) (as' := [.int (xs (Int32.toNatClampNeg (v + (1 : Int32))))]) (r := []) (o := some (.int r1)) (by omega) rfl rfl rfl (v_mk_kd (k := 10) (rfl : v_kd 0 = 10) (by decide)) rfl (t_Ol_trace e1 (by omega)) ?_
  show s_Ek (s_rows 3 L xs) 1300 s_law 877 [(3, .int v), (2, .ref 151), (1, .ref 0), (0, .retAddr 2)] [.int r1] (v_mk s1) _
  refine s_ek_bk 6 (P := 883) (ls' := [(3, .int v), (2, .ref 151), (1, .ref 0), (0, .retAddr 2)]) (st' := [.int (v + (1 : Int32)), .retAddr 2, .ref 151]) (M' := v_mk s1) rfl ?_
  refine v_ias (j := 2) rfl (l_ix1 hv) rfl ?_
  show s_Ek (s_rows 3 L xs) 1300 s_law 884 [(3, .int v), (2, .ref 151), (1, .ref 0), (0, .retAddr 2)] [.int (xs (Int32.toNatClampNeg (v + (1 : Int32)))), .ref 151] (v_mk s1) _
  obtain ⟨r2, s2, e2, h⟩ := h
  refine v_cV (ν := s_e264.1) (w := 2113) (a := 151) (as' := [.int (xs (Int32.toNatClampNeg (v + (1 : Int32))))]) (r := []) (o := some (.int r2)) (by omega) rfl rfl rfl (v_mk_kd (k := 11) (rfl : v_kd 151 = 11) (by decide)) rfl (t_Md_trace e2 (by omega)) ?_
  show s_Ek (s_rows 3 L xs) 1300 s_law 887 [(3, .int v), (2, .ref 151), (1, .ref 0), (0, .retAddr 2)] [.int r2] (v_mk s2) _
  refine s_ek_bk 4 (P := 18) (ls' := [(3, .int (v + 6)), (2, .ref 151), (1, .ref 0), (0, .retAddr 2)]) (st' := []) (M' := v_mk s2) rfl ?_
  exact kk _ h
set_option maxRecDepth 100000 in
set_option maxHeartbeats 4000000 in
theorem l_c25 {L : Nat} {xs : Nat → Int32} {I : vS → Prop} {Q : Option Value → sM → Prop} {v : Int32} {s : vS} (hv : l_in L v) (h : v_T (f_Ol_keep ((xs (Int32.toNatClampNeg (v + (1 : Int32))))) ((xs (Int32.toNatClampNeg (v + (2 : Int32))))) s) (fun r1 s1 => v_T (f_Md_keep ((xs (Int32.toNatClampNeg (v + (1 : Int32))))) ((xs (Int32.toNatClampNeg (v + (2 : Int32))))) s1) (fun r2 s2 => I s2))) (kk : ∀ t, I t → s_Ek (s_rows 3 L xs) 1300 s_law 18 [(3, .int (v + 6)), (2, .ref 151), (1, .ref 0), (0, .retAddr 2)] [] (v_mk t) Q) : s_Ek (s_rows 3 L xs) 1300 s_law 33 [(3, .int v), (2, .ref 151), (1, .ref 0), (0, .retAddr 2)] [.int 25] (v_mk s) Q := by
  refine s_ek_bk 1 (P := 891) (ls' := [(3, .int v), (2, .ref 151), (1, .ref 0), (0, .retAddr 2)]) (st' := []) (M' := v_mk s) rfl ?_
  refine s_ek_bk 5 (P := 896) (ls' := [(3, .int v), (2, .ref 151), (1, .ref 0), (0, .retAddr 2)]) (st' := [.int (v + (1 : Int32)), .retAddr 2, .ref 0]) (M' := v_mk s) rfl ?_
  refine v_ias (j := 2) rfl (l_ix1 hv) rfl ?_
  show s_Ek (s_rows 3 L xs) 1300 s_law 897 [(3, .int v), (2, .ref 151), (1, .ref 0), (0, .retAddr 2)] [.int (xs (Int32.toNatClampNeg (v + (1 : Int32)))), .ref 0] (v_mk s) _
  refine s_ek_bk 4 (P := 901) (ls' := [(3, .int v), (2, .ref 151), (1, .ref 0), (0, .retAddr 2)]) (st' := [.int (v + (2 : Int32)), .retAddr 2, .int (xs (Int32.toNatClampNeg (v + (1 : Int32)))), .ref 0]) (M' := v_mk s) rfl ?_
  refine v_ias (j := 2) rfl (l_ix2 hv) rfl ?_
  show s_Ek (s_rows 3 L xs) 1300 s_law 902 [(3, .int v), (2, .ref 151), (1, .ref 0), (0, .retAddr 2)] [.int (xs (Int32.toNatClampNeg (v + (2 : Int32)))), .int (xs (Int32.toNatClampNeg (v + (1 : Int32)))), .ref 0] (v_mk s) _
  obtain ⟨r1, s1, e1, h⟩ := h
  refine v_cV (ν := s_e162.1) (w := 1298) (a := 0) (as' := [.int (xs (Int32.toNatClampNeg (v + (1 : Int32)))), .int (xs (Int32.toNatClampNeg (v + (2 : Int32))))]) (r := []) (o := some (.int r1)) (by omega) rfl rfl rfl (v_mk_kd (k := 10) (rfl : v_kd 0 = 10) (by decide)) rfl (t_Ol_keep e1 (by omega)) ?_
  show s_Ek (s_rows 3 L xs) 1300 s_law 905 [(3, .int v), (2, .ref 151), (1, .ref 0), (0, .retAddr 2)] [.int r1] (v_mk s1) _
  refine s_ek_bk 6 (P := 911) (ls' := [(3, .int v), (2, .ref 151), (1, .ref 0), (0, .retAddr 2)]) (st' := [.int (v + (1 : Int32)), .retAddr 2, .ref 151]) (M' := v_mk s1) rfl ?_
  refine v_ias (j := 2) rfl (l_ix1 hv) rfl ?_
  show s_Ek (s_rows 3 L xs) 1300 s_law 912 [(3, .int v), (2, .ref 151), (1, .ref 0), (0, .retAddr 2)] [.int (xs (Int32.toNatClampNeg (v + (1 : Int32)))), .ref 151] (v_mk s1) _
  refine s_ek_bk 4 (P := 916) (ls' := [(3, .int v), (2, .ref 151), (1, .ref 0), (0, .retAddr 2)]) (st' := [.int (v + (2 : Int32)), .retAddr 2, .int (xs (Int32.toNatClampNeg (v + (1 : Int32)))), .ref 151]) (M' := v_mk s1) rfl ?_
  refine v_ias (j := 2) rfl (l_ix2 hv) rfl ?_
  show s_Ek (s_rows 3 L xs) 1300 s_law 917 [(3, .int v), (2, .ref 151), (1, .ref 0), (0, .retAddr 2)] [.int (xs (Int32.toNatClampNeg (v + (2 : Int32)))), .int (xs (Int32.toNatClampNeg (v + (1 : Int32)))), .ref 151] (v_mk s1) _
  obtain ⟨r2, s2, e2, h⟩ := h
  refine v_cV (ν := s_e282.1) (w := 2258) (a := 151) (as' := [.int (xs (Int32.toNatClampNeg (v + (1 : Int32)))), .int (xs (Int32.toNatClampNeg (v + (2 : Int32))))]) (r := []) (o := some (.int r2)) (by omega) rfl rfl rfl (v_mk_kd (k := 11) (rfl : v_kd 151 = 11) (by decide)) rfl (t_Md_keep e2 (by omega)) ?_
  show s_Ek (s_rows 3 L xs) 1300 s_law 920 [(3, .int v), (2, .ref 151), (1, .ref 0), (0, .retAddr 2)] [.int r2] (v_mk s2) _
  refine s_ek_bk 4 (P := 18) (ls' := [(3, .int (v + 6)), (2, .ref 151), (1, .ref 0), (0, .retAddr 2)]) (st' := []) (M' := v_mk s2) rfl ?_
  exact kk _ h
set_option maxRecDepth 100000 in
set_option maxHeartbeats 4000000 in
theorem l_c26 {L : Nat} {xs : Nat → Int32} {I : vS → Prop} {Q : Option Value → sM → Prop} {v : Int32} {s : vS} (hv : l_in L v) (h : v_T (f_Ol_row ((xs (Int32.toNatClampNeg (v + (1 : Int32))))) ((xs (Int32.toNatClampNeg (v + (2 : Int32))))) ((xs (Int32.toNatClampNeg (v + (3 : Int32))))) s) (fun r1 s1 => v_T (f_Md_row ((xs (Int32.toNatClampNeg (v + (1 : Int32))))) ((xs (Int32.toNatClampNeg (v + (2 : Int32))))) ((xs (Int32.toNatClampNeg (v + (3 : Int32))))) s1) (fun r2 s2 => I s2))) (kk : ∀ t, I t → s_Ek (s_rows 3 L xs) 1300 s_law 18 [(3, .int (v + 6)), (2, .ref 151), (1, .ref 0), (0, .retAddr 2)] [] (v_mk t) Q) : s_Ek (s_rows 3 L xs) 1300 s_law 33 [(3, .int v), (2, .ref 151), (1, .ref 0), (0, .retAddr 2)] [.int 26] (v_mk s) Q := by
  refine s_ek_bk 1 (P := 924) (ls' := [(3, .int v), (2, .ref 151), (1, .ref 0), (0, .retAddr 2)]) (st' := []) (M' := v_mk s) rfl ?_
  refine s_ek_bk 5 (P := 929) (ls' := [(3, .int v), (2, .ref 151), (1, .ref 0), (0, .retAddr 2)]) (st' := [.int (v + (1 : Int32)), .retAddr 2, .ref 0]) (M' := v_mk s) rfl ?_
  refine v_ias (j := 2) rfl (l_ix1 hv) rfl ?_
  show s_Ek (s_rows 3 L xs) 1300 s_law 930 [(3, .int v), (2, .ref 151), (1, .ref 0), (0, .retAddr 2)] [.int (xs (Int32.toNatClampNeg (v + (1 : Int32)))), .ref 0] (v_mk s) _
  refine s_ek_bk 4 (P := 934) (ls' := [(3, .int v), (2, .ref 151), (1, .ref 0), (0, .retAddr 2)]) (st' := [.int (v + (2 : Int32)), .retAddr 2, .int (xs (Int32.toNatClampNeg (v + (1 : Int32)))), .ref 0]) (M' := v_mk s) rfl ?_
  refine v_ias (j := 2) rfl (l_ix2 hv) rfl ?_
  show s_Ek (s_rows 3 L xs) 1300 s_law 935 [(3, .int v), (2, .ref 151), (1, .ref 0), (0, .retAddr 2)] [.int (xs (Int32.toNatClampNeg (v + (2 : Int32)))), .int (xs (Int32.toNatClampNeg (v + (1 : Int32)))), .ref 0] (v_mk s) _
  refine s_ek_bk 4 (P := 939) (ls' := [(3, .int v), (2, .ref 151), (1, .ref 0), (0, .retAddr 2)]) (st' := [.int (v + (3 : Int32)), .retAddr 2, .int (xs (Int32.toNatClampNeg (v + (2 : Int32)))), .int (xs (Int32.toNatClampNeg (v + (1 : Int32)))), .ref 0]) (M' := v_mk s) rfl ?_
  refine v_ias (j := 2) rfl (l_ix3 hv) rfl ?_
  show s_Ek (s_rows 3 L xs) 1300 s_law 940 [(3, .int v), (2, .ref 151), (1, .ref 0), (0, .retAddr 2)] [.int (xs (Int32.toNatClampNeg (v + (3 : Int32)))), .int (xs (Int32.toNatClampNeg (v + (2 : Int32)))), .int (xs (Int32.toNatClampNeg (v + (1 : Int32)))), .ref 0] (v_mk s) _
  obtain ⟨r1, s1, e1, h⟩ := h
  refine v_cV (ν := s_e163.1) (w := 1307) (a := 0) (as' := [.int (xs (Int32.toNatClampNeg (v + (1 : Int32)))), .int (xs (Int32.toNatClampNeg (v + (2 : Int32)))), .int (xs (Int32.toNatClampNeg (v + (3 : Int32))))]) (r := []) (o := some (.int r1)) (by omega) rfl rfl rfl (v_mk_kd (k := 10) (rfl : v_kd 0 = 10) (by decide)) rfl (t_Ol_row e1 (by omega)) ?_
  show s_Ek (s_rows 3 L xs) 1300 s_law 943 [(3, .int v), (2, .ref 151), (1, .ref 0), (0, .retAddr 2)] [.int r1] (v_mk s1) _
  refine s_ek_bk 6 (P := 949) (ls' := [(3, .int v), (2, .ref 151), (1, .ref 0), (0, .retAddr 2)]) (st' := [.int (v + (1 : Int32)), .retAddr 2, .ref 151]) (M' := v_mk s1) rfl ?_
  refine v_ias (j := 2) rfl (l_ix1 hv) rfl ?_
  show s_Ek (s_rows 3 L xs) 1300 s_law 950 [(3, .int v), (2, .ref 151), (1, .ref 0), (0, .retAddr 2)] [.int (xs (Int32.toNatClampNeg (v + (1 : Int32)))), .ref 151] (v_mk s1) _
  refine s_ek_bk 4 (P := 954) (ls' := [(3, .int v), (2, .ref 151), (1, .ref 0), (0, .retAddr 2)]) (st' := [.int (v + (2 : Int32)), .retAddr 2, .int (xs (Int32.toNatClampNeg (v + (1 : Int32)))), .ref 151]) (M' := v_mk s1) rfl ?_
  refine v_ias (j := 2) rfl (l_ix2 hv) rfl ?_
  show s_Ek (s_rows 3 L xs) 1300 s_law 955 [(3, .int v), (2, .ref 151), (1, .ref 0), (0, .retAddr 2)] [.int (xs (Int32.toNatClampNeg (v + (2 : Int32)))), .int (xs (Int32.toNatClampNeg (v + (1 : Int32)))), .ref 151] (v_mk s1) _
  refine s_ek_bk 4 (P := 959) (ls' := [(3, .int v), (2, .ref 151), (1, .ref 0), (0, .retAddr 2)]) (st' := [.int (v + (3 : Int32)), .retAddr 2, .int (xs (Int32.toNatClampNeg (v + (2 : Int32)))), .int (xs (Int32.toNatClampNeg (v + (1 : Int32)))), .ref 151]) (M' := v_mk s1) rfl ?_
  refine v_ias (j := 2) rfl (l_ix3 hv) rfl ?_
  show s_Ek (s_rows 3 L xs) 1300 s_law 960 [(3, .int v), (2, .ref 151), (1, .ref 0), (0, .retAddr 2)] [.int (xs (Int32.toNatClampNeg (v + (3 : Int32)))), .int (xs (Int32.toNatClampNeg (v + (2 : Int32)))), .int (xs (Int32.toNatClampNeg (v + (1 : Int32)))), .ref 151] (v_mk s1) _
  obtain ⟨r2, s2, e2, h⟩ := h
  refine v_cV (ν := s_e283.1) (w := 2267) (a := 151) (as' := [.int (xs (Int32.toNatClampNeg (v + (1 : Int32)))), .int (xs (Int32.toNatClampNeg (v + (2 : Int32)))), .int (xs (Int32.toNatClampNeg (v + (3 : Int32))))]) (r := []) (o := some (.int r2)) (by omega) rfl rfl rfl (v_mk_kd (k := 11) (rfl : v_kd 151 = 11) (by decide)) rfl (t_Md_row e2 (by omega)) ?_
  show s_Ek (s_rows 3 L xs) 1300 s_law 963 [(3, .int v), (2, .ref 151), (1, .ref 0), (0, .retAddr 2)] [.int r2] (v_mk s2) _
  refine s_ek_bk 4 (P := 18) (ls' := [(3, .int (v + 6)), (2, .ref 151), (1, .ref 0), (0, .retAddr 2)]) (st' := []) (M' := v_mk s2) rfl ?_
  exact kk _ h
set_option maxRecDepth 100000 in
set_option maxHeartbeats 4000000 in
theorem l_c27 {L : Nat} {xs : Nat → Int32} {I : vS → Prop} {Q : Option Value → sM → Prop} {v : Int32} {s : vS} (hv : l_in L v) (h : v_T (f_Ol_put ((xs (Int32.toNatClampNeg (v + (1 : Int32))))) ((xs (Int32.toNatClampNeg (v + (2 : Int32))))) ((((Int32.toInt64 (xs (Int32.toNatClampNeg (v + (3 : Int32))))) <<< ((Int32.toInt64 (32 : Int32)) &&& 63)) ||| ((Int32.toInt64 (xs (Int32.toNatClampNeg (v + (4 : Int32))))) &&& (4294967295 : Int64)))) s) (fun r1 s1 => v_T (f_Md_put ((xs (Int32.toNatClampNeg (v + (1 : Int32))))) ((xs (Int32.toNatClampNeg (v + (2 : Int32))))) ((((Int32.toInt64 (xs (Int32.toNatClampNeg (v + (3 : Int32))))) <<< ((Int32.toInt64 (32 : Int32)) &&& 63)) ||| ((Int32.toInt64 (xs (Int32.toNatClampNeg (v + (4 : Int32))))) &&& (4294967295 : Int64)))) s1) (fun r2 s2 => I s2))) (kk : ∀ t, I t → s_Ek (s_rows 3 L xs) 1300 s_law 18 [(3, .int (v + 6)), (2, .ref 151), (1, .ref 0), (0, .retAddr 2)] [] (v_mk t) Q) : s_Ek (s_rows 3 L xs) 1300 s_law 33 [(3, .int v), (2, .ref 151), (1, .ref 0), (0, .retAddr 2)] [.int 27] (v_mk s) Q := by
  refine s_ek_bk 1 (P := 967) (ls' := [(3, .int v), (2, .ref 151), (1, .ref 0), (0, .retAddr 2)]) (st' := []) (M' := v_mk s) rfl ?_
  refine s_ek_bk 5 (P := 972) (ls' := [(3, .int v), (2, .ref 151), (1, .ref 0), (0, .retAddr 2)]) (st' := [.int (v + (1 : Int32)), .retAddr 2, .ref 0]) (M' := v_mk s) rfl ?_
  refine v_ias (j := 2) rfl (l_ix1 hv) rfl ?_
  show s_Ek (s_rows 3 L xs) 1300 s_law 973 [(3, .int v), (2, .ref 151), (1, .ref 0), (0, .retAddr 2)] [.int (xs (Int32.toNatClampNeg (v + (1 : Int32)))), .ref 0] (v_mk s) _
  refine s_ek_bk 4 (P := 977) (ls' := [(3, .int v), (2, .ref 151), (1, .ref 0), (0, .retAddr 2)]) (st' := [.int (v + (2 : Int32)), .retAddr 2, .int (xs (Int32.toNatClampNeg (v + (1 : Int32)))), .ref 0]) (M' := v_mk s) rfl ?_
  refine v_ias (j := 2) rfl (l_ix2 hv) rfl ?_
  show s_Ek (s_rows 3 L xs) 1300 s_law 978 [(3, .int v), (2, .ref 151), (1, .ref 0), (0, .retAddr 2)] [.int (xs (Int32.toNatClampNeg (v + (2 : Int32)))), .int (xs (Int32.toNatClampNeg (v + (1 : Int32)))), .ref 0] (v_mk s) _
  refine s_ek_bk 4 (P := 982) (ls' := [(3, .int v), (2, .ref 151), (1, .ref 0), (0, .retAddr 2)]) (st' := [.int (v + (3 : Int32)), .retAddr 2, .int (xs (Int32.toNatClampNeg (v + (2 : Int32)))), .int (xs (Int32.toNatClampNeg (v + (1 : Int32)))), .ref 0]) (M' := v_mk s) rfl ?_
  refine v_ias (j := 2) rfl (l_ix3 hv) rfl ?_
  show s_Ek (s_rows 3 L xs) 1300 s_law 983 [(3, .int v), (2, .ref 151), (1, .ref 0), (0, .retAddr 2)] [.int (xs (Int32.toNatClampNeg (v + (3 : Int32)))), .int (xs (Int32.toNatClampNeg (v + (2 : Int32)))), .int (xs (Int32.toNatClampNeg (v + (1 : Int32)))), .ref 0] (v_mk s) _
  refine s_ek_bk 7 (P := 991) (ls' := [(3, .int v), (2, .ref 151), (1, .ref 0), (0, .retAddr 2)]) (st' := [.int (v + (4 : Int32)), .retAddr 2, .long ((Int32.toInt64 (xs (Int32.toNatClampNeg (v + (3 : Int32))))) <<< ((Int32.toInt64 (32 : Int32)) &&& 63)), .int (xs (Int32.toNatClampNeg (v + (2 : Int32)))), .int (xs (Int32.toNatClampNeg (v + (1 : Int32)))), .ref 0]) (M' := v_mk s) rfl ?_
  refine v_ias (j := 2) rfl (l_ix4 hv) rfl ?_
  show s_Ek (s_rows 3 L xs) 1300 s_law 992 [(3, .int v), (2, .ref 151), (1, .ref 0), (0, .retAddr 2)] [.int (xs (Int32.toNatClampNeg (v + (4 : Int32)))), .long ((Int32.toInt64 (xs (Int32.toNatClampNeg (v + (3 : Int32))))) <<< ((Int32.toInt64 (32 : Int32)) &&& 63)), .int (xs (Int32.toNatClampNeg (v + (2 : Int32)))), .int (xs (Int32.toNatClampNeg (v + (1 : Int32)))), .ref 0] (v_mk s) _
  refine s_ek_bk 4 (P := 998) (ls' := [(3, .int v), (2, .ref 151), (1, .ref 0), (0, .retAddr 2)]) (st' := [.long (((Int32.toInt64 (xs (Int32.toNatClampNeg (v + (3 : Int32))))) <<< ((Int32.toInt64 (32 : Int32)) &&& 63)) ||| ((Int32.toInt64 (xs (Int32.toNatClampNeg (v + (4 : Int32))))) &&& (4294967295 : Int64))), .int (xs (Int32.toNatClampNeg (v + (2 : Int32)))), .int (xs (Int32.toNatClampNeg (v + (1 : Int32)))), .ref 0]) (M' := v_mk s) rfl ?_
  obtain ⟨r1, s1, e1, h⟩ := h
  refine v_cV (ν := s_e164.1) (w := 1315) (a := 0) (as' := [.int (xs (Int32.toNatClampNeg (v + (1 : Int32)))), .int (xs (Int32.toNatClampNeg (v + (2 : Int32)))), .long (((Int32.toInt64 (xs (Int32.toNatClampNeg (v + (3 : Int32))))) <<< ((Int32.toInt64 (32 : Int32)) &&& 63)) ||| ((Int32.toInt64 (xs (Int32.toNatClampNeg (v + (4 : Int32))))) &&& (4294967295 : Int64)))]) (r := []) (o := some (.int r1)) (by omega) rfl rfl rfl (v_mk_kd (k := 10) (rfl : v_kd 0 = 10) (by decide)) rfl (t_Ol_put e1 (by omega)) ?_
  show s_Ek (s_rows 3 L xs) 1300 s_law 1001 [(3, .int v), (2, .ref 151), (1, .ref 0), (0, .retAddr 2)] [.int r1] (v_mk s1) _
  refine s_ek_bk 6 (P := 1007) (ls' := [(3, .int v), (2, .ref 151), (1, .ref 0), (0, .retAddr 2)]) (st' := [.int (v + (1 : Int32)), .retAddr 2, .ref 151]) (M' := v_mk s1) rfl ?_
  refine v_ias (j := 2) rfl (l_ix1 hv) rfl ?_
  show s_Ek (s_rows 3 L xs) 1300 s_law 1008 [(3, .int v), (2, .ref 151), (1, .ref 0), (0, .retAddr 2)] [.int (xs (Int32.toNatClampNeg (v + (1 : Int32)))), .ref 151] (v_mk s1) _
  refine s_ek_bk 4 (P := 1012) (ls' := [(3, .int v), (2, .ref 151), (1, .ref 0), (0, .retAddr 2)]) (st' := [.int (v + (2 : Int32)), .retAddr 2, .int (xs (Int32.toNatClampNeg (v + (1 : Int32)))), .ref 151]) (M' := v_mk s1) rfl ?_
  refine v_ias (j := 2) rfl (l_ix2 hv) rfl ?_
  show s_Ek (s_rows 3 L xs) 1300 s_law 1013 [(3, .int v), (2, .ref 151), (1, .ref 0), (0, .retAddr 2)] [.int (xs (Int32.toNatClampNeg (v + (2 : Int32)))), .int (xs (Int32.toNatClampNeg (v + (1 : Int32)))), .ref 151] (v_mk s1) _
  refine s_ek_bk 4 (P := 1017) (ls' := [(3, .int v), (2, .ref 151), (1, .ref 0), (0, .retAddr 2)]) (st' := [.int (v + (3 : Int32)), .retAddr 2, .int (xs (Int32.toNatClampNeg (v + (2 : Int32)))), .int (xs (Int32.toNatClampNeg (v + (1 : Int32)))), .ref 151]) (M' := v_mk s1) rfl ?_
  refine v_ias (j := 2) rfl (l_ix3 hv) rfl ?_
  show s_Ek (s_rows 3 L xs) 1300 s_law 1018 [(3, .int v), (2, .ref 151), (1, .ref 0), (0, .retAddr 2)] [.int (xs (Int32.toNatClampNeg (v + (3 : Int32)))), .int (xs (Int32.toNatClampNeg (v + (2 : Int32)))), .int (xs (Int32.toNatClampNeg (v + (1 : Int32)))), .ref 151] (v_mk s1) _
  refine s_ek_bk 7 (P := 1026) (ls' := [(3, .int v), (2, .ref 151), (1, .ref 0), (0, .retAddr 2)]) (st' := [.int (v + (4 : Int32)), .retAddr 2, .long ((Int32.toInt64 (xs (Int32.toNatClampNeg (v + (3 : Int32))))) <<< ((Int32.toInt64 (32 : Int32)) &&& 63)), .int (xs (Int32.toNatClampNeg (v + (2 : Int32)))), .int (xs (Int32.toNatClampNeg (v + (1 : Int32)))), .ref 151]) (M' := v_mk s1) rfl ?_
  refine v_ias (j := 2) rfl (l_ix4 hv) rfl ?_
  show s_Ek (s_rows 3 L xs) 1300 s_law 1027 [(3, .int v), (2, .ref 151), (1, .ref 0), (0, .retAddr 2)] [.int (xs (Int32.toNatClampNeg (v + (4 : Int32)))), .long ((Int32.toInt64 (xs (Int32.toNatClampNeg (v + (3 : Int32))))) <<< ((Int32.toInt64 (32 : Int32)) &&& 63)), .int (xs (Int32.toNatClampNeg (v + (2 : Int32)))), .int (xs (Int32.toNatClampNeg (v + (1 : Int32)))), .ref 151] (v_mk s1) _
  refine s_ek_bk 4 (P := 1033) (ls' := [(3, .int v), (2, .ref 151), (1, .ref 0), (0, .retAddr 2)]) (st' := [.long (((Int32.toInt64 (xs (Int32.toNatClampNeg (v + (3 : Int32))))) <<< ((Int32.toInt64 (32 : Int32)) &&& 63)) ||| ((Int32.toInt64 (xs (Int32.toNatClampNeg (v + (4 : Int32))))) &&& (4294967295 : Int64))), .int (xs (Int32.toNatClampNeg (v + (2 : Int32)))), .int (xs (Int32.toNatClampNeg (v + (1 : Int32)))), .ref 151]) (M' := v_mk s1) rfl ?_
  obtain ⟨r2, s2, e2, h⟩ := h
  refine v_cV (ν := s_e285.1) (w := 2283) (a := 151) (as' := [.int (xs (Int32.toNatClampNeg (v + (1 : Int32)))), .int (xs (Int32.toNatClampNeg (v + (2 : Int32)))), .long (((Int32.toInt64 (xs (Int32.toNatClampNeg (v + (3 : Int32))))) <<< ((Int32.toInt64 (32 : Int32)) &&& 63)) ||| ((Int32.toInt64 (xs (Int32.toNatClampNeg (v + (4 : Int32))))) &&& (4294967295 : Int64)))]) (r := []) (o := some (.int r2)) (by omega) rfl rfl rfl (v_mk_kd (k := 11) (rfl : v_kd 151 = 11) (by decide)) rfl (t_Md_put e2 (by omega)) ?_
  show s_Ek (s_rows 3 L xs) 1300 s_law 1036 [(3, .int v), (2, .ref 151), (1, .ref 0), (0, .retAddr 2)] [.int r2] (v_mk s2) _
  refine s_ek_bk 4 (P := 18) (ls' := [(3, .int (v + 6)), (2, .ref 151), (1, .ref 0), (0, .retAddr 2)]) (st' := []) (M' := v_mk s2) rfl ?_
  exact kk _ h
set_option maxRecDepth 100000 in
set_option maxHeartbeats 4000000 in
theorem l_c28 {L : Nat} {xs : Nat → Int32} {I : vS → Prop} {Q : Option Value → sM → Prop} {v : Int32} {s : vS} (hv : l_in L v) (h : v_T (f_Ol_element ((xs (Int32.toNatClampNeg (v + (1 : Int32))))) ((xs (Int32.toNatClampNeg (v + (2 : Int32))))) s) (fun r1 s1 => v_T (f_Md_element ((xs (Int32.toNatClampNeg (v + (1 : Int32))))) ((xs (Int32.toNatClampNeg (v + (2 : Int32))))) s1) (fun r2 s2 => I s2))) (kk : ∀ t, I t → s_Ek (s_rows 3 L xs) 1300 s_law 18 [(3, .int (v + 6)), (2, .ref 151), (1, .ref 0), (0, .retAddr 2)] [] (v_mk t) Q) : s_Ek (s_rows 3 L xs) 1300 s_law 33 [(3, .int v), (2, .ref 151), (1, .ref 0), (0, .retAddr 2)] [.int 28] (v_mk s) Q := by
  refine s_ek_bk 1 (P := 1040) (ls' := [(3, .int v), (2, .ref 151), (1, .ref 0), (0, .retAddr 2)]) (st' := []) (M' := v_mk s) rfl ?_
  refine s_ek_bk 5 (P := 1045) (ls' := [(3, .int v), (2, .ref 151), (1, .ref 0), (0, .retAddr 2)]) (st' := [.int (v + (1 : Int32)), .retAddr 2, .ref 0]) (M' := v_mk s) rfl ?_
  refine v_ias (j := 2) rfl (l_ix1 hv) rfl ?_
  show s_Ek (s_rows 3 L xs) 1300 s_law 1046 [(3, .int v), (2, .ref 151), (1, .ref 0), (0, .retAddr 2)] [.int (xs (Int32.toNatClampNeg (v + (1 : Int32)))), .ref 0] (v_mk s) _
  refine s_ek_bk 4 (P := 1050) (ls' := [(3, .int v), (2, .ref 151), (1, .ref 0), (0, .retAddr 2)]) (st' := [.int (v + (2 : Int32)), .retAddr 2, .int (xs (Int32.toNatClampNeg (v + (1 : Int32)))), .ref 0]) (M' := v_mk s) rfl ?_
  refine v_ias (j := 2) rfl (l_ix2 hv) rfl ?_
  show s_Ek (s_rows 3 L xs) 1300 s_law 1051 [(3, .int v), (2, .ref 151), (1, .ref 0), (0, .retAddr 2)] [.int (xs (Int32.toNatClampNeg (v + (2 : Int32)))), .int (xs (Int32.toNatClampNeg (v + (1 : Int32)))), .ref 0] (v_mk s) _
  obtain ⟨r1, s1, e1, h⟩ := h
  refine v_cV (ν := s_e165.1) (w := 1322) (a := 0) (as' := [.int (xs (Int32.toNatClampNeg (v + (1 : Int32)))), .int (xs (Int32.toNatClampNeg (v + (2 : Int32))))]) (r := []) (o := some (.long r1)) (by omega) rfl rfl rfl (v_mk_kd (k := 10) (rfl : v_kd 0 = 10) (by decide)) rfl (t_Ol_element e1 (by omega)) ?_
  show s_Ek (s_rows 3 L xs) 1300 s_law 1054 [(3, .int v), (2, .ref 151), (1, .ref 0), (0, .retAddr 2)] [.long r1] (v_mk s1) _
  refine s_ek_bk 1 (P := 1055) (ls' := [(3, .int v), (2, .ref 151), (1, .ref 0), (0, .retAddr 2)]) (st' := []) (M' := v_mk s1) rfl ?_
  refine s_ek_bk 5 (P := 1060) (ls' := [(3, .int v), (2, .ref 151), (1, .ref 0), (0, .retAddr 2)]) (st' := [.int (v + (1 : Int32)), .retAddr 2, .ref 151]) (M' := v_mk s1) rfl ?_
  refine v_ias (j := 2) rfl (l_ix1 hv) rfl ?_
  show s_Ek (s_rows 3 L xs) 1300 s_law 1061 [(3, .int v), (2, .ref 151), (1, .ref 0), (0, .retAddr 2)] [.int (xs (Int32.toNatClampNeg (v + (1 : Int32)))), .ref 151] (v_mk s1) _
  refine s_ek_bk 4 (P := 1065) (ls' := [(3, .int v), (2, .ref 151), (1, .ref 0), (0, .retAddr 2)]) (st' := [.int (v + (2 : Int32)), .retAddr 2, .int (xs (Int32.toNatClampNeg (v + (1 : Int32)))), .ref 151]) (M' := v_mk s1) rfl ?_
  refine v_ias (j := 2) rfl (l_ix2 hv) rfl ?_
  show s_Ek (s_rows 3 L xs) 1300 s_law 1066 [(3, .int v), (2, .ref 151), (1, .ref 0), (0, .retAddr 2)] [.int (xs (Int32.toNatClampNeg (v + (2 : Int32)))), .int (xs (Int32.toNatClampNeg (v + (1 : Int32)))), .ref 151] (v_mk s1) _
  obtain ⟨r2, s2, e2, h⟩ := h
  refine v_cV (ν := s_e286.1) (w := 2290) (a := 151) (as' := [.int (xs (Int32.toNatClampNeg (v + (1 : Int32)))), .int (xs (Int32.toNatClampNeg (v + (2 : Int32))))]) (r := []) (o := some (.long r2)) (by omega) rfl rfl rfl (v_mk_kd (k := 11) (rfl : v_kd 151 = 11) (by decide)) rfl (t_Md_element e2 (by omega)) ?_
  show s_Ek (s_rows 3 L xs) 1300 s_law 1069 [(3, .int v), (2, .ref 151), (1, .ref 0), (0, .retAddr 2)] [.long r2] (v_mk s2) _
  refine s_ek_bk 1 (P := 1070) (ls' := [(3, .int v), (2, .ref 151), (1, .ref 0), (0, .retAddr 2)]) (st' := []) (M' := v_mk s2) rfl ?_
  refine s_ek_bk 3 (P := 18) (ls' := [(3, .int (v + 6)), (2, .ref 151), (1, .ref 0), (0, .retAddr 2)]) (st' := []) (M' := v_mk s2) rfl ?_
  exact kk _ h
set_option maxRecDepth 100000 in
set_option maxHeartbeats 4000000 in
theorem l_c29 {L : Nat} {xs : Nat → Int32} {I : vS → Prop} {Q : Option Value → sM → Prop} {v : Int32} {s : vS} (hv : l_in L v) (h : v_T (f_Ol_shift ((xs (Int32.toNatClampNeg (v + (1 : Int32))))) ((xs (Int32.toNatClampNeg (v + (2 : Int32))))) ((xs (Int32.toNatClampNeg (v + (3 : Int32))))) ((xs (Int32.toNatClampNeg (v + (4 : Int32))))) ((xs (Int32.toNatClampNeg (v + (5 : Int32))))) s) (fun r1 s1 => v_T (f_Md_shift ((xs (Int32.toNatClampNeg (v + (1 : Int32))))) ((xs (Int32.toNatClampNeg (v + (2 : Int32))))) ((xs (Int32.toNatClampNeg (v + (3 : Int32))))) ((xs (Int32.toNatClampNeg (v + (4 : Int32))))) ((xs (Int32.toNatClampNeg (v + (5 : Int32))))) s1) (fun r2 s2 => I s2))) (kk : ∀ t, I t → s_Ek (s_rows 3 L xs) 1300 s_law 18 [(3, .int (v + 6)), (2, .ref 151), (1, .ref 0), (0, .retAddr 2)] [] (v_mk t) Q) : s_Ek (s_rows 3 L xs) 1300 s_law 33 [(3, .int v), (2, .ref 151), (1, .ref 0), (0, .retAddr 2)] [.int 29] (v_mk s) Q := by
  refine s_ek_bk 1 (P := 1073) (ls' := [(3, .int v), (2, .ref 151), (1, .ref 0), (0, .retAddr 2)]) (st' := []) (M' := v_mk s) rfl ?_
  refine s_ek_bk 5 (P := 1078) (ls' := [(3, .int v), (2, .ref 151), (1, .ref 0), (0, .retAddr 2)]) (st' := [.int (v + (1 : Int32)), .retAddr 2, .ref 0]) (M' := v_mk s) rfl ?_
  refine v_ias (j := 2) rfl (l_ix1 hv) rfl ?_
  show s_Ek (s_rows 3 L xs) 1300 s_law 1079 [(3, .int v), (2, .ref 151), (1, .ref 0), (0, .retAddr 2)] [.int (xs (Int32.toNatClampNeg (v + (1 : Int32)))), .ref 0] (v_mk s) _
  refine s_ek_bk 4 (P := 1083) (ls' := [(3, .int v), (2, .ref 151), (1, .ref 0), (0, .retAddr 2)]) (st' := [.int (v + (2 : Int32)), .retAddr 2, .int (xs (Int32.toNatClampNeg (v + (1 : Int32)))), .ref 0]) (M' := v_mk s) rfl ?_
  refine v_ias (j := 2) rfl (l_ix2 hv) rfl ?_
  show s_Ek (s_rows 3 L xs) 1300 s_law 1084 [(3, .int v), (2, .ref 151), (1, .ref 0), (0, .retAddr 2)] [.int (xs (Int32.toNatClampNeg (v + (2 : Int32)))), .int (xs (Int32.toNatClampNeg (v + (1 : Int32)))), .ref 0] (v_mk s) _
  refine s_ek_bk 4 (P := 1088) (ls' := [(3, .int v), (2, .ref 151), (1, .ref 0), (0, .retAddr 2)]) (st' := [.int (v + (3 : Int32)), .retAddr 2, .int (xs (Int32.toNatClampNeg (v + (2 : Int32)))), .int (xs (Int32.toNatClampNeg (v + (1 : Int32)))), .ref 0]) (M' := v_mk s) rfl ?_
  refine v_ias (j := 2) rfl (l_ix3 hv) rfl ?_
  show s_Ek (s_rows 3 L xs) 1300 s_law 1089 [(3, .int v), (2, .ref 151), (1, .ref 0), (0, .retAddr 2)] [.int (xs (Int32.toNatClampNeg (v + (3 : Int32)))), .int (xs (Int32.toNatClampNeg (v + (2 : Int32)))), .int (xs (Int32.toNatClampNeg (v + (1 : Int32)))), .ref 0] (v_mk s) _
  refine s_ek_bk 4 (P := 1093) (ls' := [(3, .int v), (2, .ref 151), (1, .ref 0), (0, .retAddr 2)]) (st' := [.int (v + (4 : Int32)), .retAddr 2, .int (xs (Int32.toNatClampNeg (v + (3 : Int32)))), .int (xs (Int32.toNatClampNeg (v + (2 : Int32)))), .int (xs (Int32.toNatClampNeg (v + (1 : Int32)))), .ref 0]) (M' := v_mk s) rfl ?_
  refine v_ias (j := 2) rfl (l_ix4 hv) rfl ?_
  show s_Ek (s_rows 3 L xs) 1300 s_law 1094 [(3, .int v), (2, .ref 151), (1, .ref 0), (0, .retAddr 2)] [.int (xs (Int32.toNatClampNeg (v + (4 : Int32)))), .int (xs (Int32.toNatClampNeg (v + (3 : Int32)))), .int (xs (Int32.toNatClampNeg (v + (2 : Int32)))), .int (xs (Int32.toNatClampNeg (v + (1 : Int32)))), .ref 0] (v_mk s) _
  refine s_ek_bk 4 (P := 1098) (ls' := [(3, .int v), (2, .ref 151), (1, .ref 0), (0, .retAddr 2)]) (st' := [.int (v + (5 : Int32)), .retAddr 2, .int (xs (Int32.toNatClampNeg (v + (4 : Int32)))), .int (xs (Int32.toNatClampNeg (v + (3 : Int32)))), .int (xs (Int32.toNatClampNeg (v + (2 : Int32)))), .int (xs (Int32.toNatClampNeg (v + (1 : Int32)))), .ref 0]) (M' := v_mk s) rfl ?_
  refine v_ias (j := 2) rfl (l_ix5 hv) rfl ?_
  show s_Ek (s_rows 3 L xs) 1300 s_law 1099 [(3, .int v), (2, .ref 151), (1, .ref 0), (0, .retAddr 2)] [.int (xs (Int32.toNatClampNeg (v + (5 : Int32)))), .int (xs (Int32.toNatClampNeg (v + (4 : Int32)))), .int (xs (Int32.toNatClampNeg (v + (3 : Int32)))), .int (xs (Int32.toNatClampNeg (v + (2 : Int32)))), .int (xs (Int32.toNatClampNeg (v + (1 : Int32)))), .ref 0] (v_mk s) _
  obtain ⟨r1, s1, e1, h⟩ := h
  refine v_cV (ν := s_e166.1) (w := 1333) (a := 0) (as' := [.int (xs (Int32.toNatClampNeg (v + (1 : Int32)))), .int (xs (Int32.toNatClampNeg (v + (2 : Int32)))), .int (xs (Int32.toNatClampNeg (v + (3 : Int32)))), .int (xs (Int32.toNatClampNeg (v + (4 : Int32)))), .int (xs (Int32.toNatClampNeg (v + (5 : Int32))))]) (r := []) (o := some (.int r1)) (by omega) rfl rfl rfl (v_mk_kd (k := 10) (rfl : v_kd 0 = 10) (by decide)) rfl (t_Ol_shift e1 (by omega)) ?_
  show s_Ek (s_rows 3 L xs) 1300 s_law 1102 [(3, .int v), (2, .ref 151), (1, .ref 0), (0, .retAddr 2)] [.int r1] (v_mk s1) _
  refine s_ek_bk 6 (P := 1108) (ls' := [(3, .int v), (2, .ref 151), (1, .ref 0), (0, .retAddr 2)]) (st' := [.int (v + (1 : Int32)), .retAddr 2, .ref 151]) (M' := v_mk s1) rfl ?_
  refine v_ias (j := 2) rfl (l_ix1 hv) rfl ?_
  show s_Ek (s_rows 3 L xs) 1300 s_law 1109 [(3, .int v), (2, .ref 151), (1, .ref 0), (0, .retAddr 2)] [.int (xs (Int32.toNatClampNeg (v + (1 : Int32)))), .ref 151] (v_mk s1) _
  refine s_ek_bk 4 (P := 1113) (ls' := [(3, .int v), (2, .ref 151), (1, .ref 0), (0, .retAddr 2)]) (st' := [.int (v + (2 : Int32)), .retAddr 2, .int (xs (Int32.toNatClampNeg (v + (1 : Int32)))), .ref 151]) (M' := v_mk s1) rfl ?_
  refine v_ias (j := 2) rfl (l_ix2 hv) rfl ?_
  show s_Ek (s_rows 3 L xs) 1300 s_law 1114 [(3, .int v), (2, .ref 151), (1, .ref 0), (0, .retAddr 2)] [.int (xs (Int32.toNatClampNeg (v + (2 : Int32)))), .int (xs (Int32.toNatClampNeg (v + (1 : Int32)))), .ref 151] (v_mk s1) _
  refine s_ek_bk 4 (P := 1118) (ls' := [(3, .int v), (2, .ref 151), (1, .ref 0), (0, .retAddr 2)]) (st' := [.int (v + (3 : Int32)), .retAddr 2, .int (xs (Int32.toNatClampNeg (v + (2 : Int32)))), .int (xs (Int32.toNatClampNeg (v + (1 : Int32)))), .ref 151]) (M' := v_mk s1) rfl ?_
  refine v_ias (j := 2) rfl (l_ix3 hv) rfl ?_
  show s_Ek (s_rows 3 L xs) 1300 s_law 1119 [(3, .int v), (2, .ref 151), (1, .ref 0), (0, .retAddr 2)] [.int (xs (Int32.toNatClampNeg (v + (3 : Int32)))), .int (xs (Int32.toNatClampNeg (v + (2 : Int32)))), .int (xs (Int32.toNatClampNeg (v + (1 : Int32)))), .ref 151] (v_mk s1) _
  refine s_ek_bk 4 (P := 1123) (ls' := [(3, .int v), (2, .ref 151), (1, .ref 0), (0, .retAddr 2)]) (st' := [.int (v + (4 : Int32)), .retAddr 2, .int (xs (Int32.toNatClampNeg (v + (3 : Int32)))), .int (xs (Int32.toNatClampNeg (v + (2 : Int32)))), .int (xs (Int32.toNatClampNeg (v + (1 : Int32)))), .ref 151]) (M' := v_mk s1) rfl ?_
  refine v_ias (j := 2) rfl (l_ix4 hv) rfl ?_
  show s_Ek (s_rows 3 L xs) 1300 s_law 1124 [(3, .int v), (2, .ref 151), (1, .ref 0), (0, .retAddr 2)] [.int (xs (Int32.toNatClampNeg (v + (4 : Int32)))), .int (xs (Int32.toNatClampNeg (v + (3 : Int32)))), .int (xs (Int32.toNatClampNeg (v + (2 : Int32)))), .int (xs (Int32.toNatClampNeg (v + (1 : Int32)))), .ref 151] (v_mk s1) _
  refine s_ek_bk 4 (P := 1128) (ls' := [(3, .int v), (2, .ref 151), (1, .ref 0), (0, .retAddr 2)]) (st' := [.int (v + (5 : Int32)), .retAddr 2, .int (xs (Int32.toNatClampNeg (v + (4 : Int32)))), .int (xs (Int32.toNatClampNeg (v + (3 : Int32)))), .int (xs (Int32.toNatClampNeg (v + (2 : Int32)))), .int (xs (Int32.toNatClampNeg (v + (1 : Int32)))), .ref 151]) (M' := v_mk s1) rfl ?_
  refine v_ias (j := 2) rfl (l_ix5 hv) rfl ?_
  show s_Ek (s_rows 3 L xs) 1300 s_law 1129 [(3, .int v), (2, .ref 151), (1, .ref 0), (0, .retAddr 2)] [.int (xs (Int32.toNatClampNeg (v + (5 : Int32)))), .int (xs (Int32.toNatClampNeg (v + (4 : Int32)))), .int (xs (Int32.toNatClampNeg (v + (3 : Int32)))), .int (xs (Int32.toNatClampNeg (v + (2 : Int32)))), .int (xs (Int32.toNatClampNeg (v + (1 : Int32)))), .ref 151] (v_mk s1) _
  obtain ⟨r2, s2, e2, h⟩ := h
  refine v_cV (ν := s_e287.1) (w := 2301) (a := 151) (as' := [.int (xs (Int32.toNatClampNeg (v + (1 : Int32)))), .int (xs (Int32.toNatClampNeg (v + (2 : Int32)))), .int (xs (Int32.toNatClampNeg (v + (3 : Int32)))), .int (xs (Int32.toNatClampNeg (v + (4 : Int32)))), .int (xs (Int32.toNatClampNeg (v + (5 : Int32))))]) (r := []) (o := some (.int r2)) (by omega) rfl rfl rfl (v_mk_kd (k := 11) (rfl : v_kd 151 = 11) (by decide)) rfl (t_Md_shift e2 (by omega)) ?_
  show s_Ek (s_rows 3 L xs) 1300 s_law 1132 [(3, .int v), (2, .ref 151), (1, .ref 0), (0, .retAddr 2)] [.int r2] (v_mk s2) _
  refine s_ek_bk 4 (P := 18) (ls' := [(3, .int (v + 6)), (2, .ref 151), (1, .ref 0), (0, .retAddr 2)]) (st' := []) (M' := v_mk s2) rfl ?_
  exact kk _ h
set_option maxRecDepth 100000 in
set_option maxHeartbeats 4000000 in
theorem l_c30 {L : Nat} {xs : Nat → Int32} {I : vS → Prop} {Q : Option Value → sM → Prop} {v : Int32} {s : vS} (hv : l_in L v) (h : v_T (f_Ol_taken ((xs (Int32.toNatClampNeg (v + (1 : Int32))))) ((xs (Int32.toNatClampNeg (v + (2 : Int32))))) s) (fun r1 s1 => v_T (f_Md_taken ((xs (Int32.toNatClampNeg (v + (1 : Int32))))) ((xs (Int32.toNatClampNeg (v + (2 : Int32))))) s1) (fun r2 s2 => I s2))) (kk : ∀ t, I t → s_Ek (s_rows 3 L xs) 1300 s_law 18 [(3, .int (v + 6)), (2, .ref 151), (1, .ref 0), (0, .retAddr 2)] [] (v_mk t) Q) : s_Ek (s_rows 3 L xs) 1300 s_law 33 [(3, .int v), (2, .ref 151), (1, .ref 0), (0, .retAddr 2)] [.int 30] (v_mk s) Q := by
  refine s_ek_bk 1 (P := 1136) (ls' := [(3, .int v), (2, .ref 151), (1, .ref 0), (0, .retAddr 2)]) (st' := []) (M' := v_mk s) rfl ?_
  refine s_ek_bk 5 (P := 1141) (ls' := [(3, .int v), (2, .ref 151), (1, .ref 0), (0, .retAddr 2)]) (st' := [.int (v + (1 : Int32)), .retAddr 2, .ref 0]) (M' := v_mk s) rfl ?_
  refine v_ias (j := 2) rfl (l_ix1 hv) rfl ?_
  show s_Ek (s_rows 3 L xs) 1300 s_law 1142 [(3, .int v), (2, .ref 151), (1, .ref 0), (0, .retAddr 2)] [.int (xs (Int32.toNatClampNeg (v + (1 : Int32)))), .ref 0] (v_mk s) _
  refine s_ek_bk 4 (P := 1146) (ls' := [(3, .int v), (2, .ref 151), (1, .ref 0), (0, .retAddr 2)]) (st' := [.int (v + (2 : Int32)), .retAddr 2, .int (xs (Int32.toNatClampNeg (v + (1 : Int32)))), .ref 0]) (M' := v_mk s) rfl ?_
  refine v_ias (j := 2) rfl (l_ix2 hv) rfl ?_
  show s_Ek (s_rows 3 L xs) 1300 s_law 1147 [(3, .int v), (2, .ref 151), (1, .ref 0), (0, .retAddr 2)] [.int (xs (Int32.toNatClampNeg (v + (2 : Int32)))), .int (xs (Int32.toNatClampNeg (v + (1 : Int32)))), .ref 0] (v_mk s) _
  obtain ⟨r1, s1, e1, h⟩ := h
  refine v_cV (ν := s_e167.1) (w := 1338) (a := 0) (as' := [.int (xs (Int32.toNatClampNeg (v + (1 : Int32)))), .int (xs (Int32.toNatClampNeg (v + (2 : Int32))))]) (r := []) (o := some (.int r1)) (by omega) rfl rfl rfl (v_mk_kd (k := 10) (rfl : v_kd 0 = 10) (by decide)) rfl (t_Ol_taken e1 (by omega)) ?_
  show s_Ek (s_rows 3 L xs) 1300 s_law 1150 [(3, .int v), (2, .ref 151), (1, .ref 0), (0, .retAddr 2)] [.int r1] (v_mk s1) _
  refine s_ek_bk 6 (P := 1156) (ls' := [(3, .int v), (2, .ref 151), (1, .ref 0), (0, .retAddr 2)]) (st' := [.int (v + (1 : Int32)), .retAddr 2, .ref 151]) (M' := v_mk s1) rfl ?_
  refine v_ias (j := 2) rfl (l_ix1 hv) rfl ?_
  show s_Ek (s_rows 3 L xs) 1300 s_law 1157 [(3, .int v), (2, .ref 151), (1, .ref 0), (0, .retAddr 2)] [.int (xs (Int32.toNatClampNeg (v + (1 : Int32)))), .ref 151] (v_mk s1) _
  refine s_ek_bk 4 (P := 1161) (ls' := [(3, .int v), (2, .ref 151), (1, .ref 0), (0, .retAddr 2)]) (st' := [.int (v + (2 : Int32)), .retAddr 2, .int (xs (Int32.toNatClampNeg (v + (1 : Int32)))), .ref 151]) (M' := v_mk s1) rfl ?_
  refine v_ias (j := 2) rfl (l_ix2 hv) rfl ?_
  show s_Ek (s_rows 3 L xs) 1300 s_law 1162 [(3, .int v), (2, .ref 151), (1, .ref 0), (0, .retAddr 2)] [.int (xs (Int32.toNatClampNeg (v + (2 : Int32)))), .int (xs (Int32.toNatClampNeg (v + (1 : Int32)))), .ref 151] (v_mk s1) _
  obtain ⟨r2, s2, e2, h⟩ := h
  refine v_cV (ν := s_e288.1) (w := 2306) (a := 151) (as' := [.int (xs (Int32.toNatClampNeg (v + (1 : Int32)))), .int (xs (Int32.toNatClampNeg (v + (2 : Int32))))]) (r := []) (o := some (.int r2)) (by omega) rfl rfl rfl (v_mk_kd (k := 11) (rfl : v_kd 151 = 11) (by decide)) rfl (t_Md_taken e2 (by omega)) ?_
  show s_Ek (s_rows 3 L xs) 1300 s_law 1165 [(3, .int v), (2, .ref 151), (1, .ref 0), (0, .retAddr 2)] [.int r2] (v_mk s2) _
  refine s_ek_bk 4 (P := 18) (ls' := [(3, .int (v + 6)), (2, .ref 151), (1, .ref 0), (0, .retAddr 2)]) (st' := []) (M' := v_mk s2) rfl ?_
  exact kk _ h
set_option maxRecDepth 100000 in
set_option maxHeartbeats 4000000 in
theorem l_c31 {L : Nat} {xs : Nat → Int32} {I : vS → Prop} {Q : Option Value → sM → Prop} {v : Int32} {s : vS} (hv : l_in L v) (h : v_T (f_Ol_count ((xs (Int32.toNatClampNeg (v + (1 : Int32))))) s) (fun r1 s1 => v_T (f_Md_count ((xs (Int32.toNatClampNeg (v + (1 : Int32))))) s1) (fun r2 s2 => I s2))) (kk : ∀ t, I t → s_Ek (s_rows 3 L xs) 1300 s_law 18 [(3, .int (v + 6)), (2, .ref 151), (1, .ref 0), (0, .retAddr 2)] [] (v_mk t) Q) : s_Ek (s_rows 3 L xs) 1300 s_law 33 [(3, .int v), (2, .ref 151), (1, .ref 0), (0, .retAddr 2)] [.int 31] (v_mk s) Q := by
  refine s_ek_bk 1 (P := 1169) (ls' := [(3, .int v), (2, .ref 151), (1, .ref 0), (0, .retAddr 2)]) (st' := []) (M' := v_mk s) rfl ?_
  refine s_ek_bk 5 (P := 1174) (ls' := [(3, .int v), (2, .ref 151), (1, .ref 0), (0, .retAddr 2)]) (st' := [.int (v + (1 : Int32)), .retAddr 2, .ref 0]) (M' := v_mk s) rfl ?_
  refine v_ias (j := 2) rfl (l_ix1 hv) rfl ?_
  show s_Ek (s_rows 3 L xs) 1300 s_law 1175 [(3, .int v), (2, .ref 151), (1, .ref 0), (0, .retAddr 2)] [.int (xs (Int32.toNatClampNeg (v + (1 : Int32)))), .ref 0] (v_mk s) _
  obtain ⟨r1, s1, e1, h⟩ := h
  refine v_cV (ν := s_e168.1) (w := 1345) (a := 0) (as' := [.int (xs (Int32.toNatClampNeg (v + (1 : Int32))))]) (r := []) (o := some (.int r1)) (by omega) rfl rfl rfl (v_mk_kd (k := 10) (rfl : v_kd 0 = 10) (by decide)) rfl (t_Ol_count e1 (by omega)) ?_
  show s_Ek (s_rows 3 L xs) 1300 s_law 1178 [(3, .int v), (2, .ref 151), (1, .ref 0), (0, .retAddr 2)] [.int r1] (v_mk s1) _
  refine s_ek_bk 6 (P := 1184) (ls' := [(3, .int v), (2, .ref 151), (1, .ref 0), (0, .retAddr 2)]) (st' := [.int (v + (1 : Int32)), .retAddr 2, .ref 151]) (M' := v_mk s1) rfl ?_
  refine v_ias (j := 2) rfl (l_ix1 hv) rfl ?_
  show s_Ek (s_rows 3 L xs) 1300 s_law 1185 [(3, .int v), (2, .ref 151), (1, .ref 0), (0, .retAddr 2)] [.int (xs (Int32.toNatClampNeg (v + (1 : Int32)))), .ref 151] (v_mk s1) _
  obtain ⟨r2, s2, e2, h⟩ := h
  refine v_cV (ν := s_e280.1) (w := 2241) (a := 151) (as' := [.int (xs (Int32.toNatClampNeg (v + (1 : Int32))))]) (r := []) (o := some (.int r2)) (by omega) rfl rfl rfl (v_mk_kd (k := 11) (rfl : v_kd 151 = 11) (by decide)) rfl (t_Md_count e2 (by omega)) ?_
  show s_Ek (s_rows 3 L xs) 1300 s_law 1188 [(3, .int v), (2, .ref 151), (1, .ref 0), (0, .retAddr 2)] [.int r2] (v_mk s2) _
  refine s_ek_bk 4 (P := 18) (ls' := [(3, .int (v + 6)), (2, .ref 151), (1, .ref 0), (0, .retAddr 2)]) (st' := []) (M' := v_mk s2) rfl ?_
  exact kk _ h
def s_Lq : Option Value → sM → Prop := fun o _ => o = some (.int 1)
set_option maxRecDepth 100000 in
set_option maxHeartbeats 4000000 in
theorem l_loop {L : Nat} (hL : L ≤ 3072) {xs : Nat → Int32} {I : vS → Prop} (hy0 : ∀ (s : vS) (b : Int32), I s → v_T (f_Ol_feed b s) (fun r1 s1 => v_T (f_Md_feed b s1) (fun r2 s2 => I s2))) (hy1 : ∀ (s : vS) (b : Int32) (c : Int32), I s → v_T (f_Ol_law b c s) (fun r1 s1 => v_T (f_Md_law b c s1) (fun r2 s2 => I s2))) (hy2 : ∀ (s : vS) (b : Int32) (c : Int32) (d : Int32), I s → v_T (f_Ol_laws b c d s) (fun r1 s1 => v_T (f_Md_laws b c d s1) (fun r2 s2 => I s2))) (hy3 : ∀ (s : vS) (b : Int32) (c : Int32) (d : Int32), I s → v_T (f_Ol_mend b c d s) (fun r1 s1 => v_T (f_Md_mend b c d s1) (fun r2 s2 => I s2))) (hy4 : ∀ (s : vS) (b : Int32) (c : Int32) (d : Int32), I s → v_T (f_Ol_moved b c d s) (fun r1 s1 => v_T (f_Md_moved b c d s1) (fun r2 s2 => I s2))) (hy5 : ∀ (s : vS) (b : Int32) (c : Int32), I s → v_T (f_Ol_of b c s) (fun r1 s1 => v_T (f_Md_of b c s1) (fun r2 s2 => I s2))) (hy6 : ∀ (s : vS) (b : Int32) (c : Int32), I s → v_T (f_Ol_speaks b c s) (fun r1 s1 => v_T (f_Md_speaks b c s1) (fun r2 s2 => I s2))) (hy7 : ∀ (s : vS) (b : Int32) (c : Int32), I s → v_T (f_Ol_verdict b c s) (fun r1 s1 => v_T (f_Md_verdict b c s1) (fun r2 s2 => I s2))) (hy8 : ∀ (s : vS) (b : Int32), I s → v_T (f_Ol_judge b s) (fun r1 s1 => v_T (f_Md_judge b s1) (fun r2 s2 => I s2))) (hy9 : ∀ (s : vS), I s → v_T (f_Ol_never  s) (fun r1 s1 => v_T (f_Md_never  s1) (fun r2 s2 => I s2))) (hy10 : ∀ (s : vS) (b : Int32) (c : Int32), I s → v_T (f_Ol_clash b c s) (fun r1 s1 => v_T (f_Md_clash b c s1) (fun r2 s2 => I s2))) (hy11 : ∀ (s : vS) (b : Int32) (c : Int32) (d : Int32), I s → v_T (f_Ol_write b c d s) (fun r1 s1 => v_T (f_Md_write b c d s1) (fun r2 s2 => I s2))) (hy12 : ∀ (s : vS) (b : Int32) (c : Int32) (d : Int32), I s → v_T (f_Ol_bars b c d s) (fun r1 s1 => v_T (f_Md_bars b c d s1) (fun r2 s2 => I s2))) (hy13 : ∀ (s : vS) (b : Int32) (c : Int32), I s → v_T (f_Ol_meant b c s) (fun r1 s1 => v_T (f_Md_meant b c s1) (fun r2 s2 => I s2))) (hy14 : ∀ (s : vS) (b : Int32), I s → v_T (f_Ol_falseOnes b s) (fun r1 s1 => v_T (f_Md_falseOnes b s1) (fun r2 s2 => I s2 ∧ r1 = r2))) (hy15 : ∀ (s : vS) (b : Int32) (c : Int32), I s → v_T (f_Ol_under b c s) (fun r1 s1 => v_T (f_Md_under b c s1) (fun r2 s2 => I s2))) (hy16 : ∀ (s : vS) (b : Int32) (c : Int32), I s → v_T (f_Ol_unlike b c s) (fun r1 s1 => v_T (f_Md_unlike b c s1) (fun r2 s2 => I s2))) (hy17 : ∀ (s : vS), I s → v_T (f_Ol_rings  s) (fun r1 s1 => v_T (f_Md_rings  s1) (fun r2 s2 => I s2))) (hy18 : ∀ (s : vS), I s → v_T (f_Ol_image  s) (fun r1 s1 => v_T (f_Md_image  s1) (fun r2 s2 => I s2))) (hy19 : ∀ (s : vS), I s → v_T (f_Ol_back  s) (fun r1 s1 => v_T (f_Md_back  s1) (fun r2 s2 => I s2))) (hy20 : ∀ (s : vS), I s → v_T (f_Ol_undo  s) (fun r1 s1 => v_T (f_Md_undo  s1) (fun r2 s2 => I s2))) (hy21 : ∀ (s : vS), I s → v_T (f_Ol_redo  s) (fun r1 s1 => v_T (f_Md_redo  s1) (fun r2 s2 => I s2))) (hy22 : ∀ (s : vS) (b : Int32), I s → v_T (f_Ol_body b s) (fun r1 s1 => v_T (f_Md_body b s1) (fun r2 s2 => I s2))) (hy23 : ∀ (s : vS) (b : Int32) (c : Int32) (d : Int32), I s → v_T (f_Ol_act b c d s) (fun r1 s1 => v_T (f_Md_act b c d s1) (fun r2 s2 => I s2))) (hy24 : ∀ (s : vS) (b : Int32), I s → v_T (f_Ol_trace b s) (fun r1 s1 => v_T (f_Md_trace b s1) (fun r2 s2 => I s2))) (hy25 : ∀ (s : vS) (b : Int32) (c : Int32), I s → v_T (f_Ol_keep b c s) (fun r1 s1 => v_T (f_Md_keep b c s1) (fun r2 s2 => I s2))) (hy26 : ∀ (s : vS) (b : Int32) (c : Int32) (d : Int32), I s → v_T (f_Ol_row b c d s) (fun r1 s1 => v_T (f_Md_row b c d s1) (fun r2 s2 => I s2))) (hy27 : ∀ (s : vS) (b : Int32) (c : Int32) (d : Int64), I s → v_T (f_Ol_put b c d s) (fun r1 s1 => v_T (f_Md_put b c d s1) (fun r2 s2 => I s2))) (hy28 : ∀ (s : vS) (b : Int32) (c : Int32), I s → v_T (f_Ol_element b c s) (fun r1 s1 => v_T (f_Md_element b c s1) (fun r2 s2 => I s2))) (hy29 : ∀ (s : vS) (b : Int32) (c : Int32) (d : Int32) (e : Int32) (f : Int32), I s → v_T (f_Ol_shift b c d e f s) (fun r1 s1 => v_T (f_Md_shift b c d e f s1) (fun r2 s2 => I s2))) (hy30 : ∀ (s : vS) (b : Int32) (c : Int32), I s → v_T (f_Ol_taken b c s) (fun r1 s1 => v_T (f_Md_taken b c s1) (fun r2 s2 => I s2))) (hy31 : ∀ (s : vS) (b : Int32), I s → v_T (f_Ol_count b s) (fun r1 s1 => v_T (f_Md_count b s1) (fun r2 s2 => I s2))) : ∀ (m : Nat) (v : Int32) (s : vS), I s → 0 ≤ v.toInt → v.toInt ≤ 4000 → (L : Int) ≤ v.toInt + 6 * m → s_Ek (s_rows 3 L xs) 1300 s_law 18 [(3, .int v), (2, .ref 151), (1, .ref 0), (0, .retAddr 2)] [] (v_mk s) s_Lq := by
  have hL2 : (Int32.ofNat L).toInt = L := v_oi (by omega)
  have hL3 : (Int32.ofNat L - (6 : Int32)).toInt = (L : Int) - 6 := by
    rw [i32_sub (y := 6) (show -2 ^ 31 ≤ (Int32.ofNat L).toInt - 6 by omega) (show (Int32.ofNat L).toInt - 6 < 2 ^ 31 by omega)]
    show (Int32.ofNat L).toInt - 6 = _
    omega
  have hend : ∀ (v : Int32) (s : vS), (L : Int) - 6 < v.toInt → s_Ek (s_rows 3 L xs) 1300 s_law 18 [(3, .int v), (2, .ref 151), (1, .ref 0), (0, .retAddr 2)] [] (v_mk s) s_Lq := by
    intro v s hv
    refine s_ek_bk 5 (P := 24) (ls' := [(3, .int v), (2, .ref 151), (1, .ref 0), (0, .retAddr 2)]) (st' := [.int (Int32.ofNat L - (6 : Int32)), .int v]) (M' := v_mk s) rfl ?_
    refine v_i2t (T := 1198) rfl rfl (show (Int32.ofNat L - (6 : Int32)).toInt < v.toInt by omega) ?_
    refine s_ek_bk 1 (P := 1199) (ls' := [(3, .int v), (2, .ref 151), (1, .ref 0), (0, .retAddr 2)]) (st' := [.int 1]) (M' := v_mk s) rfl ?_
    exact s_ek_ret (o := some (.int 1)) (fun _ => rfl) rfl
  intro m
  induction m with
  | zero => intro v s hI h0 h4 hm; exact hend v s (by omega)
  | succ m ih =>
    intro v s hI h0 h4 hm
    by_cases hv : (L : Int) - 6 < v.toInt
    · exact hend v s hv
    · have hin : l_in L v := ⟨h0, by omega, by omega⟩
      have e6 : (v + 6).toInt = v.toInt + 6 := i32_add (y := 6) (show -2 ^ 31 ≤ v.toInt + 6 by omega) (show v.toInt + 6 < 2 ^ 31 by omega)
      have kk : ∀ t, I t → s_Ek (s_rows 3 L xs) 1300 s_law 18 [(3, .int (v + 6)), (2, .ref 151), (1, .ref 0), (0, .retAddr 2)] [] (v_mk t) s_Lq := fun t ht => ih _ t ht (by omega) (by omega) (by omega)
      refine s_ek_bk 5 (P := 24) (ls' := [(3, .int v), (2, .ref 151), (1, .ref 0), (0, .retAddr 2)]) (st' := [.int (Int32.ofNat L - (6 : Int32)), .int v]) (M' := v_mk s) rfl ?_
      refine v_i2f (T := 1198) rfl rfl (show ¬ (Int32.ofNat L - (6 : Int32)).toInt < v.toInt by omega) ?_
      refine s_ek_bk 2 (P := 29) (ls' := [(3, .int v), (2, .ref 151), (1, .ref 0), (0, .retAddr 2)]) (st' := [.int v, .retAddr 2]) (M' := v_mk s) rfl ?_
      refine v_ias (j := 2) rfl (show 0 ≤ v.toInt ∧ v.toInt < ((L : Nat) : Int) by omega) rfl ?_
      show s_Ek (s_rows 3 L xs) 1300 s_law 30 [(3, .int v), (2, .ref 151), (1, .ref 0), (0, .retAddr 2)] [.int (xs (Int32.toNatClampNeg v))] (v_mk s) _
      refine s_ek_bk 2 (P := 33) (ls' := [(3, .int v), (2, .ref 151), (1, .ref 0), (0, .retAddr 2)]) (st' := [.int (xs (Int32.toNatClampNeg v) &&& 31)]) (M' := v_mk s) rfl ?_
      obtain ⟨j, hj, e⟩ := pk_andE (xs (Int32.toNatClampNeg v)) (m := 31) 5 (by decide)
      have hw : (xs (Int32.toNatClampNeg v) &&& 31) = 0 ∨ (xs (Int32.toNatClampNeg v) &&& 31) = 1 ∨ (xs (Int32.toNatClampNeg v) &&& 31) = 2 ∨ (xs (Int32.toNatClampNeg v) &&& 31) = 3 ∨ (xs (Int32.toNatClampNeg v) &&& 31) = 4 ∨ (xs (Int32.toNatClampNeg v) &&& 31) = 5 ∨ (xs (Int32.toNatClampNeg v) &&& 31) = 6 ∨ (xs (Int32.toNatClampNeg v) &&& 31) = 7 ∨ (xs (Int32.toNatClampNeg v) &&& 31) = 8 ∨ (xs (Int32.toNatClampNeg v) &&& 31) = 9 ∨ (xs (Int32.toNatClampNeg v) &&& 31) = 10 ∨ (xs (Int32.toNatClampNeg v) &&& 31) = 11 ∨ (xs (Int32.toNatClampNeg v) &&& 31) = 12 ∨ (xs (Int32.toNatClampNeg v) &&& 31) = 13 ∨ (xs (Int32.toNatClampNeg v) &&& 31) = 14 ∨ (xs (Int32.toNatClampNeg v) &&& 31) = 15 ∨ (xs (Int32.toNatClampNeg v) &&& 31) = 16 ∨ (xs (Int32.toNatClampNeg v) &&& 31) = 17 ∨ (xs (Int32.toNatClampNeg v) &&& 31) = 18 ∨ (xs (Int32.toNatClampNeg v) &&& 31) = 19 ∨ (xs (Int32.toNatClampNeg v) &&& 31) = 20 ∨ (xs (Int32.toNatClampNeg v) &&& 31) = 21 ∨ (xs (Int32.toNatClampNeg v) &&& 31) = 22 ∨ (xs (Int32.toNatClampNeg v) &&& 31) = 23 ∨ (xs (Int32.toNatClampNeg v) &&& 31) = 24 ∨ (xs (Int32.toNatClampNeg v) &&& 31) = 25 ∨ (xs (Int32.toNatClampNeg v) &&& 31) = 26 ∨ (xs (Int32.toNatClampNeg v) &&& 31) = 27 ∨ (xs (Int32.toNatClampNeg v) &&& 31) = 28 ∨ (xs (Int32.toNatClampNeg v) &&& 31) = 29 ∨ (xs (Int32.toNatClampNeg v) &&& 31) = 30 ∨ (xs (Int32.toNatClampNeg v) &&& 31) = 31 := by
        rw [e]
        have hj : j < 32 := hj
        rcases (show j = 0 ∨ j = 1 ∨ j = 2 ∨ j = 3 ∨ j = 4 ∨ j = 5 ∨ j = 6 ∨ j = 7 ∨ j = 8 ∨ j = 9 ∨ j = 10 ∨ j = 11 ∨ j = 12 ∨ j = 13 ∨ j = 14 ∨ j = 15 ∨ j = 16 ∨ j = 17 ∨ j = 18 ∨ j = 19 ∨ j = 20 ∨ j = 21 ∨ j = 22 ∨ j = 23 ∨ j = 24 ∨ j = 25 ∨ j = 26 ∨ j = 27 ∨ j = 28 ∨ j = 29 ∨ j = 30 ∨ j = 31 by omega) with rfl | rfl | rfl | rfl | rfl | rfl | rfl | rfl | rfl | rfl | rfl | rfl | rfl | rfl | rfl | rfl | rfl | rfl | rfl | rfl | rfl | rfl | rfl | rfl | rfl | rfl | rfl | rfl | rfl | rfl | rfl | rfl <;> decide
      clear e
      generalize (xs (Int32.toNatClampNeg v) &&& 31) = w at hw
      rcases hw with rfl | rfl | rfl | rfl | rfl | rfl | rfl | rfl | rfl | rfl | rfl | rfl | rfl | rfl | rfl | rfl | rfl | rfl | rfl | rfl | rfl | rfl | rfl | rfl | rfl | rfl | rfl | rfl | rfl | rfl | rfl | rfl
      · exact l_c0 hin (hy0 s _ hI) kk
      · exact l_c1 hin (hy1 s _ _ hI) kk
      · exact l_c2 hin (hy2 s _ _ _ hI) kk
      · exact l_c3 hin (hy3 s _ _ _ hI) kk
      · exact l_c4 hin (hy4 s _ _ _ hI) kk
      · exact l_c5 hin (hy5 s _ _ hI) kk
      · exact l_c6 hin (hy6 s _ _ hI) kk
      · exact l_c7 hin (hy7 s _ _ hI) kk
      · exact l_c8 hin (hy8 s _ hI) kk
      · exact l_c9 hin (hy9 s hI) kk
      · exact l_c10 hin (hy10 s _ _ hI) kk
      · exact l_c11 hin (hy11 s _ _ _ hI) kk
      · exact l_c12 hin (hy12 s _ _ _ hI) kk
      · exact l_c13 hin (hy13 s _ _ hI) kk
      · exact l_c14 hin (hy14 s _ hI) kk
      · exact l_c15 hin (hy15 s _ _ hI) kk
      · exact l_c16 hin (hy16 s _ _ hI) kk
      · exact l_c17 hin (hy17 s hI) kk
      · exact l_c18 hin (hy18 s hI) kk
      · exact l_c19 hin (hy19 s hI) kk
      · exact l_c20 hin (hy20 s hI) kk
      · exact l_c21 hin (hy21 s hI) kk
      · exact l_c22 hin (hy22 s _ hI) kk
      · exact l_c23 hin (hy23 s _ _ _ hI) kk
      · exact l_c24 hin (hy24 s _ hI) kk
      · exact l_c25 hin (hy25 s _ _ hI) kk
      · exact l_c26 hin (hy26 s _ _ _ hI) kk
      · exact l_c27 hin (hy27 s _ _ _ hI) kk
      · exact l_c28 hin (hy28 s _ _ hI) kk
      · exact l_c29 hin (hy29 s _ _ _ _ _ hI) kk
      · exact l_c30 hin (hy30 s _ _ hI) kk
      · exact l_c31 hin (hy31 s _ hI) kk
