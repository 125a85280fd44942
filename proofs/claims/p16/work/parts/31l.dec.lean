/-! functions over the store, and the runs that they stand for: Md_isLaw Md_isThere Md_addLaw Md_law Md_writeText Md_isLawRow Md_isShelf Md_laws Md_valueAt Md_lays -/
noncomputable def f_Md_isLaw (b : Int32) (s : vS) : Option (Int32 × vS) := (v_bi (f_Md_in b 0 ((s.1 151 14) - (1 : Int32)) s) (fun r1 s1 => (if r1 = 0 ∨ r1 = 1 then some (r1, s1) else none)))
set_option maxRecDepth 20000 in
set_option maxHeartbeats 4000000 in
theorem t_Md_isLaw {L : Nat} {xs : Nat → Int32} {b : Int32} {D : Nat} {r : Int32} {s s' : vS} (h : f_Md_isLaw b s = some (r, s')) (hD : 1 ≤ D) : s_Ek (s_rows 3 L xs) D s_e201.1 0 (lv_args 0 [.ref 151, .int b]) [] (v_mk s) (v_Q (some (.int r)) s') := by
  unfold f_Md_isLaw at h
  show s_Ek (s_rows 3 L xs) D s_e201.1 0 [(0, .ref 151), (1, .int b)] [] (v_mk s) _
  refine s_ek_bk 3 (P := 3) (ls' := [(0, .ref 151), (1, .int b)]) (st' := [.ref 151, .int 0, .int b]) (M' := v_mk s) rfl ?_
  refine v_gf rfl (v_gi (rfl : v_kd 151 = 11) rfl ⟨rfl, rfl, by decide⟩) ?_
  refine s_ek_bk 2 (P := 8) (ls' := [(0, .ref 151), (1, .int b)]) (st' := [.int ((s.1 151 14) - (1 : Int32)), .int 0, .int b]) (M' := v_mk s) rfl ?_
  obtain ⟨r1, s1, e1, h⟩ := v_bd h
  refine v_cS (ν := s_e181.1) (w := 1451) (as := [.int b, .int 0, .int ((s.1 151 14) - (1 : Int32))]) (r := []) (o := some (.int r1)) (by omega) rfl rfl rfl rfl (t_Md_in e1 (by omega)) ?_
  show s_Ek (s_rows 3 L xs) D s_e201.1 11 [(0, .ref 151), (1, .int b)] [.int r1] (v_mk s1) _
  obtain ⟨c2, h⟩ := v_ck h
  obtain ⟨rfl, rfl⟩ := v_so h
  exact v_zret rfl rfl c2
noncomputable def f_Md_isThere (b : Int32) (s : vS) : Option (Int32 × vS) := (if v_in b 11 then (if (s.1 151 19).toInt < (s.1 160 (Int32.toNatClampNeg b)).toInt then (some (0, s)) else (some (1, s))) else none)
set_option maxRecDepth 20000 in
set_option maxHeartbeats 4000000 in
theorem t_Md_isThere {L : Nat} {xs : Nat → Int32} {b : Int32} {D : Nat} {r : Int32} {s s' : vS} (h : f_Md_isThere b s = some (r, s')) (hD : 0 ≤ D) : s_Ek (s_rows 3 L xs) D s_e202.1 0 (lv_args 0 [.ref 151, .int b]) [] (v_mk s) (v_Q (some (.int r)) s') := by
  unfold f_Md_isThere at h
  show s_Ek (s_rows 3 L xs) D s_e202.1 0 [(0, .ref 151), (1, .int b)] [] (v_mk s) _
  refine s_ek_bk 1 (P := 1) (ls' := [(0, .ref 151), (1, .int b)]) (st' := [.ref 151]) (M' := v_mk s) rfl ?_
  refine v_gf rfl (v_gr (rfl : v_kd 151 = 11) (rfl : v_sl 151 15 = .ref 160) ⟨rfl, rfl, by decide⟩) ?_
  refine s_ek_bk 1 (P := 5) (ls' := [(0, .ref 151), (1, .int b)]) (st' := [.int b, .ref 160]) (M' := v_mk s) rfl ?_
  obtain ⟨c1, h⟩ := v_ck h
  refine v_ia (i := b) rfl (v_ai (rfl : v_kd 160 = 13) rfl (by decide) v_all13 (v_cn (rfl : v_ln 160 = 11) c1)) ?_
  refine s_ek_bk 1 (P := 7) (ls' := [(0, .ref 151), (1, .int b)]) (st' := [.ref 151, .int (s.1 160 (Int32.toNatClampNeg b))]) (M' := v_mk s) rfl ?_
  refine v_gf rfl (v_gi (rfl : v_kd 151 = 11) rfl ⟨rfl, rfl, by decide⟩) ?_
  rcases v_if h with ⟨c2, h⟩ | ⟨c2, h⟩
  · refine v_i2t (T := 17) rfl rfl c2 ?_
    refine s_ek_bk 1 (P := 18) (ls' := [(0, .ref 151), (1, .int b)]) (st' := [.int 0]) (M' := v_mk s) rfl ?_
    obtain ⟨rfl, rfl⟩ := v_so h
    exact v_ret (fun _ => rfl)
  · refine v_i2f (T := 17) rfl rfl c2 ?_
    refine s_ek_bk 2 (P := 18) (ls' := [(0, .ref 151), (1, .int b)]) (st' := [.int 1]) (M' := v_mk s) rfl ?_
    obtain ⟨rfl, rfl⟩ := v_so h
    exact v_ret (fun _ => rfl)
noncomputable def f_Md_addLaw (b : Int32) (c : Int32) (d : Int32) (s : vS) : Option (Int32 × vS) := (if v_in (s.1 151 14) 11 then (v_let (v_w1 s 160 (Int32.toNatClampNeg (s.1 151 14)) b) (fun s2 => (if v_in (s2.1 151 14) 11 then (v_let (v_w1 s2 161 (Int32.toNatClampNeg (s2.1 151 14)) c) (fun s4 => (if v_in (s4.1 151 14) 11 then (v_let (v_w1 s4 162 (Int32.toNatClampNeg (s4.1 151 14)) d) (fun s6 => (v_let (v_w1 s6 151 14 ((s6.1 151 14) + (1 : Int32))) (fun s7 => (some (((s7.1 151 14) - (1 : Int32)), s7)))))) else none))) else none))) else none)
set_option maxRecDepth 20000 in
set_option maxHeartbeats 4000000 in
theorem t_Md_addLaw {L : Nat} {xs : Nat → Int32} {b : Int32} {c : Int32} {d : Int32} {D : Nat} {r : Int32} {s s' : vS} (h : f_Md_addLaw b c d s = some (r, s')) (hD : 0 ≤ D) : s_Ek (s_rows 3 L xs) D s_e203.1 0 (lv_args 0 [.ref 151, .int b, .int c, .int d]) [] (v_mk s) (v_Q (some (.int r)) s') := by
  unfold f_Md_addLaw at h
  show s_Ek (s_rows 3 L xs) D s_e203.1 0 [(0, .ref 151), (1, .int b), (2, .int c), (3, .int d)] [] (v_mk s) _
  refine s_ek_bk 1 (P := 1) (ls' := [(0, .ref 151), (1, .int b), (2, .int c), (3, .int d)]) (st' := [.ref 151]) (M' := v_mk s) rfl ?_
  refine v_gf rfl (v_gr (rfl : v_kd 151 = 11) (rfl : v_sl 151 15 = .ref 160) ⟨rfl, rfl, by decide⟩) ?_
  refine s_ek_bk 1 (P := 5) (ls' := [(0, .ref 151), (1, .int b), (2, .int c), (3, .int d)]) (st' := [.ref 151, .ref 160]) (M' := v_mk s) rfl ?_
  refine v_gf rfl (v_gi (rfl : v_kd 151 = 11) rfl ⟨rfl, rfl, by decide⟩) ?_
  refine s_ek_bk 1 (P := 9) (ls' := [(0, .ref 151), (1, .int b), (2, .int c), (3, .int d)]) (st' := [.int b, .int (s.1 151 14), .ref 160]) (M' := v_mk s) rfl ?_
  obtain ⟨c1, h⟩ := v_ck h
  obtain ⟨s2, es2, h⟩ := v_ld h
  refine v_ist (M' := v_mk s2) (i := (s.1 151 14)) rfl (by rw [es2]; exact v_pai (rfl : v_kd 160 = 13) rfl (by decide) v_all13 (v_cn (rfl : v_ln 160 = 11) c1)) ?_
  refine s_ek_bk 1 (P := 11) (ls' := [(0, .ref 151), (1, .int b), (2, .int c), (3, .int d)]) (st' := [.ref 151]) (M' := v_mk s2) rfl ?_
  refine v_gf rfl (v_gr (rfl : v_kd 151 = 11) (rfl : v_sl 151 16 = .ref 161) ⟨rfl, rfl, by decide⟩) ?_
  refine s_ek_bk 1 (P := 15) (ls' := [(0, .ref 151), (1, .int b), (2, .int c), (3, .int d)]) (st' := [.ref 151, .ref 161]) (M' := v_mk s2) rfl ?_
  refine v_gf rfl (v_gi (rfl : v_kd 151 = 11) rfl ⟨rfl, rfl, by decide⟩) ?_
  refine s_ek_bk 1 (P := 19) (ls' := [(0, .ref 151), (1, .int b), (2, .int c), (3, .int d)]) (st' := [.int c, .int (s2.1 151 14), .ref 161]) (M' := v_mk s2) rfl ?_
  obtain ⟨c3, h⟩ := v_ck h
  obtain ⟨s4, es4, h⟩ := v_ld h
  refine v_ist (M' := v_mk s4) (i := (s2.1 151 14)) rfl (by rw [es4]; exact v_pai (rfl : v_kd 161 = 13) rfl (by decide) v_all13 (v_cn (rfl : v_ln 161 = 11) c3)) ?_
  refine s_ek_bk 1 (P := 21) (ls' := [(0, .ref 151), (1, .int b), (2, .int c), (3, .int d)]) (st' := [.ref 151]) (M' := v_mk s4) rfl ?_
  refine v_gf rfl (v_gr (rfl : v_kd 151 = 11) (rfl : v_sl 151 17 = .ref 162) ⟨rfl, rfl, by decide⟩) ?_
  refine s_ek_bk 1 (P := 25) (ls' := [(0, .ref 151), (1, .int b), (2, .int c), (3, .int d)]) (st' := [.ref 151, .ref 162]) (M' := v_mk s4) rfl ?_
  refine v_gf rfl (v_gi (rfl : v_kd 151 = 11) rfl ⟨rfl, rfl, by decide⟩) ?_
  refine s_ek_bk 1 (P := 29) (ls' := [(0, .ref 151), (1, .int b), (2, .int c), (3, .int d)]) (st' := [.int d, .int (s4.1 151 14), .ref 162]) (M' := v_mk s4) rfl ?_
  obtain ⟨c5, h⟩ := v_ck h
  obtain ⟨s6, es6, h⟩ := v_ld h
  refine v_ist (M' := v_mk s6) (i := (s4.1 151 14)) rfl (by rw [es6]; exact v_pai (rfl : v_kd 162 = 13) rfl (by decide) v_all13 (v_cn (rfl : v_ln 162 = 11) c5)) ?_
  refine s_ek_bk 2 (P := 32) (ls' := [(0, .ref 151), (1, .int b), (2, .int c), (3, .int d)]) (st' := [.ref 151, .ref 151]) (M' := v_mk s6) rfl ?_
  refine v_gf rfl (v_gi (rfl : v_kd 151 = 11) rfl ⟨rfl, rfl, by decide⟩) ?_
  refine s_ek_bk 2 (P := 37) (ls' := [(0, .ref 151), (1, .int b), (2, .int c), (3, .int d)]) (st' := [.int ((s6.1 151 14) + (1 : Int32)), .ref 151]) (M' := v_mk s6) rfl ?_
  obtain ⟨s7, es7, h⟩ := v_ld h
  refine v_pf (M' := v_mk s7) rfl (by rw [es7]; exact v_pi (rfl : v_kd 151 = 11) rfl ⟨rfl, rfl, by decide⟩ rfl) ?_
  refine s_ek_bk 1 (P := 41) (ls' := [(0, .ref 151), (1, .int b), (2, .int c), (3, .int d)]) (st' := [.ref 151]) (M' := v_mk s7) rfl ?_
  refine v_gf rfl (v_gi (rfl : v_kd 151 = 11) rfl ⟨rfl, rfl, by decide⟩) ?_
  refine s_ek_bk 2 (P := 46) (ls' := [(0, .ref 151), (1, .int b), (2, .int c), (3, .int d)]) (st' := [.int ((s7.1 151 14) - (1 : Int32))]) (M' := v_mk s7) rfl ?_
  obtain ⟨rfl, rfl⟩ := v_so h
  exact v_ret (fun _ => rfl)
noncomputable def f_Md_law (b : Int32) (c : Int32) (s : vS) : Option (Int32 × vS) := (v_bi (f_Md_in b 0 99 s) (fun r1 s1 => (if r1.toInt = 0 then (some ((-1), s1)) else (v_bi (f_Md_in c 0 2 s1) (fun r3 s3 => (if r3.toInt = 0 then (some ((-1), s3)) else (if (s3.1 151 14).toInt = 10 then (some ((-3), s3)) else (v_bi (f_Md_readText (s3.1 151 14) s3) (fun r6 s6 => (if r6.toInt < 0 then (v_bi (f_Md_addLaw b c (-1) s6) (fun r8 s8 => (some (r8, s8)))) else (some ((((-100) : Int32) - r6), s6))))))))))))
set_option maxRecDepth 20000 in
set_option maxHeartbeats 4000000 in
theorem t_Md_law {L : Nat} {xs : Nat → Int32} {b : Int32} {c : Int32} {D : Nat} {r : Int32} {s s' : vS} (h : f_Md_law b c s = some (r, s')) (hD : 392 ≤ D) : s_Ek (s_rows 3 L xs) D s_e204.1 0 (lv_args 0 [.ref 151, .int b, .int c]) [] (v_mk s) (v_Q (some (.int r)) s') := by
  unfold f_Md_law at h
  show s_Ek (s_rows 3 L xs) D s_e204.1 0 [(0, .ref 151), (1, .int b), (2, .int c)] [] (v_mk s) _
  refine s_ek_bk 3 (P := 4) (ls' := [(0, .ref 151), (1, .int b), (2, .int c)]) (st' := [.int 99, .int 0, .int b]) (M' := v_mk s) rfl ?_
  obtain ⟨r1, s1, e1, h⟩ := v_bd h
  refine v_cS (ν := s_e181.1) (w := 1451) (as := [.int b, .int 0, .int 99]) (r := []) (o := some (.int r1)) (by omega) rfl rfl rfl rfl (t_Md_in e1 (by omega)) ?_
  show s_Ek (s_rows 3 L xs) D s_e204.1 7 [(0, .ref 151), (1, .int b), (2, .int c)] [.int r1] (v_mk s1) _
  rcases v_if h with ⟨c2, h⟩ | ⟨c2, h⟩
  · refine v_i1t (T := 19) rfl rfl c2 ?_
    refine s_ek_bk 1 (P := 20) (ls' := [(0, .ref 151), (1, .int b), (2, .int c)]) (st' := [.int (-1)]) (M' := v_mk s1) rfl ?_
    obtain ⟨rfl, rfl⟩ := v_so h
    exact v_ret (fun _ => rfl)
  · refine v_i1f (T := 19) rfl rfl c2 ?_
    refine s_ek_bk 3 (P := 13) (ls' := [(0, .ref 151), (1, .int b), (2, .int c)]) (st' := [.int 2, .int 0, .int c]) (M' := v_mk s1) rfl ?_
    obtain ⟨r3, s3, e3, h⟩ := v_bd h
    refine v_cS (ν := s_e181.1) (w := 1451) (as := [.int c, .int 0, .int 2]) (r := []) (o := some (.int r3)) (by omega) rfl rfl rfl rfl (t_Md_in e3 (by omega)) ?_
    show s_Ek (s_rows 3 L xs) D s_e204.1 16 [(0, .ref 151), (1, .int b), (2, .int c)] [.int r3] (v_mk s3) _
    rcases v_if h with ⟨c4, h⟩ | ⟨c4, h⟩
    · refine v_i1f (T := 21) rfl rfl (fun q => q c4) ?_
      refine s_ek_bk 1 (P := 20) (ls' := [(0, .ref 151), (1, .int b), (2, .int c)]) (st' := [.int (-1)]) (M' := v_mk s3) rfl ?_
      obtain ⟨rfl, rfl⟩ := v_so h
      exact v_ret (fun _ => rfl)
    · refine v_i1t (T := 21) rfl rfl c4 ?_
      refine s_ek_bk 1 (P := 22) (ls' := [(0, .ref 151), (1, .int b), (2, .int c)]) (st' := [.ref 151]) (M' := v_mk s3) rfl ?_
      refine v_gf rfl (v_gi (rfl : v_kd 151 = 11) rfl ⟨rfl, rfl, by decide⟩) ?_
      refine s_ek_bk 1 (P := 27) (ls' := [(0, .ref 151), (1, .int b), (2, .int c)]) (st' := [.int 10, .int (s3.1 151 14)]) (M' := v_mk s3) rfl ?_
      rcases v_if h with ⟨c5, h⟩ | ⟨c5, h⟩
      · refine v_i2f (T := 33) rfl rfl (fun q => q c5) ?_
        refine s_ek_bk 1 (P := 32) (ls' := [(0, .ref 151), (1, .int b), (2, .int c)]) (st' := [.int (-3)]) (M' := v_mk s3) rfl ?_
        obtain ⟨rfl, rfl⟩ := v_so h
        exact v_ret (fun _ => rfl)
      · refine v_i2t (T := 33) rfl rfl c5 ?_
        refine s_ek_bk 2 (P := 35) (ls' := [(0, .ref 151), (1, .int b), (2, .int c)]) (st' := [.ref 151, .ref 151]) (M' := v_mk s3) rfl ?_
        refine v_gf rfl (v_gi (rfl : v_kd 151 = 11) rfl ⟨rfl, rfl, by decide⟩) ?_
        obtain ⟨r6, s6, e6, h⟩ := v_bd h
        refine v_cV (ν := s_e197.1) (w := 1577) (a := 151) (as' := [.int (s3.1 151 14)]) (r := []) (o := some (.int r6)) (by omega) rfl rfl rfl (v_mk_kd (k := 11) (rfl : v_kd 151 = 11) (by decide)) rfl (t_Md_readText e6 (by omega)) ?_
        show s_Ek (s_rows 3 L xs) D s_e204.1 41 [(0, .ref 151), (1, .int b), (2, .int c)] [.int r6] (v_mk s6) _
        refine s_ek_bk 2 (P := 43) (ls' := [(3, .int r6), (0, .ref 151), (1, .int b), (2, .int c)]) (st' := [.int r6]) (M' := v_mk s6) rfl ?_
        rcases v_if h with ⟨c7, h⟩ | ⟨c7, h⟩
        · refine v_i1t (T := 53) rfl rfl c7 ?_
          refine s_ek_bk 4 (P := 57) (ls' := [(3, .int r6), (0, .ref 151), (1, .int b), (2, .int c)]) (st' := [.int (-1), .int c, .int b, .ref 151]) (M' := v_mk s6) rfl ?_
          obtain ⟨r8, s8, e8, h⟩ := v_bd h
          refine v_cV (ν := s_e203.1) (w := 1627) (a := 151) (as' := [.int b, .int c, .int (-1)]) (r := []) (o := some (.int r8)) (by omega) rfl rfl rfl (v_mk_kd (k := 11) (rfl : v_kd 151 = 11) (by decide)) rfl (t_Md_addLaw e8 (by omega)) ?_
          show s_Ek (s_rows 3 L xs) D s_e204.1 60 [(3, .int r6), (0, .ref 151), (1, .int b), (2, .int c)] [.int r8] (v_mk s8) _
          obtain ⟨rfl, rfl⟩ := v_so h
          exact v_ret (fun _ => rfl)
        · refine v_i1f (T := 53) rfl rfl c7 ?_
          refine s_ek_bk 4 (P := 60) (ls' := [(3, .int r6), (0, .ref 151), (1, .int b), (2, .int c)]) (st' := [.int (((-100) : Int32) - r6)]) (M' := v_mk s6) rfl ?_
          obtain ⟨rfl, rfl⟩ := v_so h
          exact v_ret (fun _ => rfl)
noncomputable def f_Md_writeText_L9b (p1 : Int32) (p2 : Int32) (p3 : Int32) (p4 : Int32) (k35 : vS → Option (Unit × vS)) (again : Int32 → vS → Option (Unit × vS)) (v5 : Int32) (s : vS) : Option (Unit × vS) := (if 3 ≤ v5.toInt then (k35 s) else (if v_in v5 60 then (if v_in v5 60 then (v_let (v_w1 s 165 (Int32.toNatClampNeg v5) (vp_nar .byte (s.1 152 (Int32.toNatClampNeg v5)))) (fun s104 => (again (v5 + 1) s104))) else none) else none))
noncomputable def f_Md_writeText_L9 (p1 : Int32) (p2 : Int32) (p3 : Int32) (p4 : Int32) (k35 : vS → Option (Unit × vS)) (n : Nat) : Int32 → vS → Option (Unit × vS) := Nat.rec (motive := fun _ => Int32 → vS → Option (Unit × vS)) (fun _ _ => none) (fun _ again => f_Md_writeText_L9b p1 p2 p3 p4 k35 again) n
noncomputable def f_Md_writeText_L102b (p4 : Int32) (k128 : vS → Option (Unit × vS)) (again : Int32 → vS → Option (Unit × vS)) (v5 : Int32) (s : vS) : Option (Unit × vS) := (if 3 ≤ v5.toInt then (k128 s) else (if v_in v5 60 then (if v_in v5 60 then (v_let (v_w1 s 152 (Int32.toNatClampNeg v5) (vp_nar .byte (s.1 165 (Int32.toNatClampNeg v5)))) (fun s211 => (again (v5 + 1) s211))) else none) else none))
noncomputable def f_Md_writeText_L102 (p4 : Int32) (k128 : vS → Option (Unit × vS)) (n : Nat) : Int32 → vS → Option (Unit × vS) := Nat.rec (motive := fun _ => Int32 → vS → Option (Unit × vS)) (fun _ _ => none) (fun _ again => f_Md_writeText_L102b p4 k128 again) n
noncomputable def f_Md_writeText (b : Int32) (c : Int32) (d : Int32) (s : vS) : Option (Unit × vS) := (f_Md_writeText_L9 b c d (s.1 151 2) (fun s1 => (v_let (v_w1 s1 152 0 (vp_nar .byte (Int8.toInt32 (Int32.toInt8 ((120 : Int32) + b))))) (fun s2 => (if c.toInt = 0 then (v_let (v_w1 s2 152 1 (vp_nar .byte 60)) (fun s4 => (v_let (v_w1 s4 152 2 (vp_nar .byte (Int8.toInt32 (Int32.toInt8 ((48 : Int32) + d))))) (fun s5 => (v_let (v_w1 s5 151 2 3) (fun s6 => (v_bi (f_Md_readText (s6.1 151 14) s6) (fun r7 s7 => (f_Md_writeText_L102 (s.1 151 2) (fun s8 => (v_let (v_w1 s8 151 2 (s.1 151 2)) (fun s9 => (some ((), s9))))) 4096 0 s7))))))))) else (if c.toInt = 1 then (v_let (v_w1 s2 152 1 (vp_nar .byte 61)) (fun s11 => (v_let (v_w1 s11 152 2 (vp_nar .byte (Int8.toInt32 (Int32.toInt8 ((48 : Int32) + d))))) (fun s12 => (v_let (v_w1 s12 151 2 3) (fun s13 => (v_bi (f_Md_readText (s13.1 151 14) s13) (fun r14 s14 => (f_Md_writeText_L102 (s.1 151 2) (fun s15 => (v_let (v_w1 s15 151 2 (s.1 151 2)) (fun s16 => (some ((), s16))))) 4096 0 s14))))))))) else (v_let (v_w1 s2 152 1 (vp_nar .byte 62)) (fun s17 => (v_let (v_w1 s17 152 2 (vp_nar .byte (Int8.toInt32 (Int32.toInt8 ((48 : Int32) + d))))) (fun s18 => (v_let (v_w1 s18 151 2 3) (fun s19 => (v_bi (f_Md_readText (s19.1 151 14) s19) (fun r20 s20 => (f_Md_writeText_L102 (s.1 151 2) (fun s21 => (v_let (v_w1 s21 151 2 (s.1 151 2)) (fun s22 => (some ((), s22))))) 4096 0 s20)))))))))))))) 4096 0 s)
set_option maxRecDepth 20000 in
set_option maxHeartbeats 4000000 in
theorem t_Md_writeText_L9 {L : Nat} {xs : Nat → Int32} {p1 : Int32} {p2 : Int32} {p3 : Int32} {p4 : Int32} {k35 : vS → Option (Unit × vS)} {D : Nat} (hD : 392 ≤ D) {r : Unit} {s' : vS} (hk35 : ∀ (s : vS), k35 s = some (r, s') → s_Ek (s_rows 3 L xs) D s_e205.1 35 [(0, .ref 151), (1, .int p1), (2, .int p2), (3, .int p3), (4, .int p4)] [] (v_mk s) (v_Q none s')) : ∀ (n : Nat) (v5 : Int32) (s : vS), f_Md_writeText_L9 p1 p2 p3 p4 k35 n v5 s = some (r, s') → s_Ek (s_rows 3 L xs) D s_e205.1 9 [(0, .ref 151), (1, .int p1), (2, .int p2), (3, .int p3), (4, .int p4), (5, .int v5)] [] (v_mk s) (v_Q none s') := by
  intro n
  induction n with
  | zero => intro v5 s h; exact nomatch (show (none : Option (Unit × vS)) = some (r, s') from h)
  | succ n ih =>
    intro v5 s h
    replace h : f_Md_writeText_L9b p1 p2 p3 p4 k35 (f_Md_writeText_L9 p1 p2 p3 p4 k35 n) v5 s = some (r, s') := h
    unfold f_Md_writeText_L9b at h
    refine s_ek_bk 2 (P := 12) (ls' := [(0, .ref 151), (1, .int p1), (2, .int p2), (3, .int p3), (4, .int p4), (5, .int v5)]) (st' := [.int 3, .int v5]) (M' := v_mk s) rfl ?_
    rcases v_if h with ⟨c101, h⟩ | ⟨c101, h⟩
    · refine v_i2t (T := 35) rfl rfl c101 ?_
      refine v_ls (ls' := [(0, .ref 151), (1, .int p1), (2, .int p2), (3, .int p3), (4, .int p4)]) ⟨rfl, rfl, rfl, rfl, rfl, trivial⟩ (show ([0, 1, 2, 3, 4] : List Nat).Nodup from by decide) ?_
      exact hk35 _ h
    · refine v_i2f (T := 35) rfl rfl c101 ?_
      refine s_ek_bk 1 (P := 16) (ls' := [(0, .ref 151), (1, .int p1), (2, .int p2), (3, .int p3), (4, .int p4), (5, .int v5)]) (st' := [.ref 151]) (M' := v_mk s) rfl ?_
      refine v_gf rfl (v_gr (rfl : v_kd 151 = 11) (rfl : v_sl 151 22 = .ref 165) ⟨rfl, rfl, by decide⟩) ?_
      refine s_ek_bk 2 (P := 22) (ls' := [(0, .ref 151), (1, .int p1), (2, .int p2), (3, .int p3), (4, .int p4), (5, .int v5)]) (st' := [.ref 151, .int v5, .ref 165]) (M' := v_mk s) rfl ?_
      refine v_gf rfl (v_gr (rfl : v_kd 151 = 11) (rfl : v_sl 151 1 = .ref 152) ⟨rfl, rfl, by decide⟩) ?_
      refine s_ek_bk 1 (P := 27) (ls' := [(0, .ref 151), (1, .int p1), (2, .int p2), (3, .int p3), (4, .int p4), (5, .int v5)]) (st' := [.int v5, .ref 152, .int v5, .ref 165]) (M' := v_mk s) rfl ?_
      obtain ⟨c102, h⟩ := v_ck h
      refine v_ba (i := v5) rfl (v_ai (rfl : v_kd 152 = 12) rfl (by decide) v_all12 (v_cn (rfl : v_ln 152 = 60) c102)) ?_
      obtain ⟨c103, h⟩ := v_ck h
      obtain ⟨s104, es104, h⟩ := v_ld h
      refine v_bst (M' := v_mk s104) (i := v5) rfl (v_mk_kd (rfl : v_kd 165 = 12) (by decide)) (by rw [es104]; exact v_pai (rfl : v_kd 165 = 12) rfl (by decide) v_all12 (v_cn (rfl : v_ln 165 = 60) c103)) ?_
      refine s_ek_bk 2 (P := 9) (ls' := [(5, .int (v5 + 1)), (0, .ref 151), (1, .int p1), (2, .int p2), (3, .int p3), (4, .int p4)]) (st' := []) (M' := v_mk s104) rfl ?_
      refine v_ls (ls' := [(0, .ref 151), (1, .int p1), (2, .int p2), (3, .int p3), (4, .int p4), (5, .int (v5 + 1))]) ⟨rfl, rfl, rfl, rfl, rfl, rfl, trivial⟩ (show ([0, 1, 2, 3, 4, 5] : List Nat).Nodup from by decide) ?_
      exact ih _ _ h
set_option maxRecDepth 20000 in
set_option maxHeartbeats 4000000 in
theorem t_Md_writeText_L102 {L : Nat} {xs : Nat → Int32} {p4 : Int32} {k128 : vS → Option (Unit × vS)} {D : Nat} (hD : 392 ≤ D) {r : Unit} {s' : vS} (hk128 : ∀ (s : vS), k128 s = some (r, s') → s_Ek (s_rows 3 L xs) D s_e205.1 128 [(0, .ref 151), (4, .int p4)] [] (v_mk s) (v_Q none s')) : ∀ (n : Nat) (v5 : Int32) (s : vS), f_Md_writeText_L102 p4 k128 n v5 s = some (r, s') → s_Ek (s_rows 3 L xs) D s_e205.1 102 [(0, .ref 151), (4, .int p4), (5, .int v5)] [] (v_mk s) (v_Q none s') := by
  intro n
  induction n with
  | zero => intro v5 s h; exact nomatch (show (none : Option (Unit × vS)) = some (r, s') from h)
  | succ n ih =>
    intro v5 s h
    replace h : f_Md_writeText_L102b p4 k128 (f_Md_writeText_L102 p4 k128 n) v5 s = some (r, s') := h
    unfold f_Md_writeText_L102b at h
    refine s_ek_bk 2 (P := 105) (ls' := [(0, .ref 151), (4, .int p4), (5, .int v5)]) (st' := [.int 3, .int v5]) (M' := v_mk s) rfl ?_
    rcases v_if h with ⟨c208, h⟩ | ⟨c208, h⟩
    · refine v_i2t (T := 128) rfl rfl c208 ?_
      refine v_ls (ls' := [(0, .ref 151), (4, .int p4)]) ⟨rfl, rfl, trivial⟩ (show ([0, 4] : List Nat).Nodup from by decide) ?_
      exact hk128 _ h
    · refine v_i2f (T := 128) rfl rfl c208 ?_
      refine s_ek_bk 1 (P := 109) (ls' := [(0, .ref 151), (4, .int p4), (5, .int v5)]) (st' := [.ref 151]) (M' := v_mk s) rfl ?_
      refine v_gf rfl (v_gr (rfl : v_kd 151 = 11) (rfl : v_sl 151 1 = .ref 152) ⟨rfl, rfl, by decide⟩) ?_
      refine s_ek_bk 2 (P := 115) (ls' := [(0, .ref 151), (4, .int p4), (5, .int v5)]) (st' := [.ref 151, .int v5, .ref 152]) (M' := v_mk s) rfl ?_
      refine v_gf rfl (v_gr (rfl : v_kd 151 = 11) (rfl : v_sl 151 22 = .ref 165) ⟨rfl, rfl, by decide⟩) ?_
      refine s_ek_bk 1 (P := 120) (ls' := [(0, .ref 151), (4, .int p4), (5, .int v5)]) (st' := [.int v5, .ref 165, .int v5, .ref 152]) (M' := v_mk s) rfl ?_
      obtain ⟨c209, h⟩ := v_ck h
      refine v_ba (i := v5) rfl (v_ai (rfl : v_kd 165 = 12) rfl (by decide) v_all12 (v_cn (rfl : v_ln 165 = 60) c209)) ?_
      obtain ⟨c210, h⟩ := v_ck h
      obtain ⟨s211, es211, h⟩ := v_ld h
      refine v_bst (M' := v_mk s211) (i := v5) rfl (v_mk_kd (rfl : v_kd 152 = 12) (by decide)) (by rw [es211]; exact v_pai (rfl : v_kd 152 = 12) rfl (by decide) v_all12 (v_cn (rfl : v_ln 152 = 60) c210)) ?_
      refine s_ek_bk 2 (P := 102) (ls' := [(5, .int (v5 + 1)), (0, .ref 151), (4, .int p4)]) (st' := []) (M' := v_mk s211) rfl ?_
      refine v_ls (ls' := [(0, .ref 151), (4, .int p4), (5, .int (v5 + 1))]) ⟨rfl, rfl, rfl, trivial⟩ (show ([0, 4, 5] : List Nat).Nodup from by decide) ?_
      exact ih _ _ h
set_option maxRecDepth 20000 in
set_option maxHeartbeats 4000000 in
theorem t_Md_writeText {L : Nat} {xs : Nat → Int32} {b : Int32} {c : Int32} {d : Int32} {D : Nat} {r : Unit} {s s' : vS} (h : f_Md_writeText b c d s = some (r, s')) (hD : 392 ≤ D) : s_Ek (s_rows 3 L xs) D s_e205.1 0 (lv_args 0 [.ref 151, .int b, .int c, .int d]) [] (v_mk s) (v_Q none s') := by
  unfold f_Md_writeText at h
  show s_Ek (s_rows 3 L xs) D s_e205.1 0 [(0, .ref 151), (1, .int b), (2, .int c), (3, .int d)] [] (v_mk s) _
  refine s_ek_bk 1 (P := 1) (ls' := [(0, .ref 151), (1, .int b), (2, .int c), (3, .int d)]) (st' := [.ref 151]) (M' := v_mk s) rfl ?_
  refine v_gf rfl (v_gi (rfl : v_kd 151 = 11) rfl ⟨rfl, rfl, by decide⟩) ?_
  refine s_ek_bk 3 (P := 9) (ls' := [(5, .int 0), (4, .int (s.1 151 2)), (0, .ref 151), (1, .int b), (2, .int c), (3, .int d)]) (st' := []) (M' := v_mk s) rfl ?_
  refine v_ls (ls' := [(0, .ref 151), (1, .int b), (2, .int c), (3, .int d), (4, .int (s.1 151 2)), (5, .int 0)]) ⟨rfl, rfl, rfl, rfl, rfl, rfl, trivial⟩ (show ([0, 1, 2, 3, 4, 5] : List Nat).Nodup from by decide) ?_
  refine t_Md_writeText_L9 (by omega) (fun s1 h => ?_) 4096 _ _ h
  show s_Ek (s_rows 3 L xs) D s_e205.1 35 [(0, .ref 151), (1, .int b), (2, .int c), (3, .int d), (4, .int (s.1 151 2))] [] (v_mk s1) _
  refine s_ek_bk 1 (P := 36) (ls' := [(0, .ref 151), (1, .int b), (2, .int c), (3, .int d), (4, .int (s.1 151 2))]) (st' := [.ref 151]) (M' := v_mk s1) rfl ?_
  refine v_gf rfl (v_gr (rfl : v_kd 151 = 11) (rfl : v_sl 151 1 = .ref 152) ⟨rfl, rfl, by decide⟩) ?_
  refine s_ek_bk 5 (P := 45) (ls' := [(0, .ref 151), (1, .int b), (2, .int c), (3, .int d), (4, .int (s.1 151 2))]) (st' := [.int (Int8.toInt32 (Int32.toInt8 ((120 : Int32) + b))), .int 0, .ref 152]) (M' := v_mk s1) rfl ?_
  obtain ⟨s2, es2, h⟩ := v_ld h
  refine v_bst (M' := v_mk s2) (i := 0) rfl (v_mk_kd (rfl : v_kd 152 = 12) (by decide)) (by rw [es2]; exact v_pai (rfl : v_kd 152 = 12) rfl (by decide) v_all12 (v_cn (rfl : v_ln 152 = 60) (by decide : v_in 0 60))) ?_
  refine s_ek_bk 1 (P := 47) (ls' := [(0, .ref 151), (1, .int b), (2, .int c), (3, .int d), (4, .int (s.1 151 2))]) (st' := [.ref 151]) (M' := v_mk s2) rfl ?_
  refine v_gf rfl (v_gr (rfl : v_kd 151 = 11) (rfl : v_sl 151 1 = .ref 152) ⟨rfl, rfl, by decide⟩) ?_
  refine s_ek_bk 2 (P := 52) (ls' := [(0, .ref 151), (1, .int b), (2, .int c), (3, .int d), (4, .int (s.1 151 2))]) (st' := [.int c, .int 1, .ref 152]) (M' := v_mk s2) rfl ?_
  rcases v_if h with ⟨c3, h⟩ | ⟨c3, h⟩
  · refine v_i1f (T := 60) rfl rfl (fun q => q c3) ?_
    refine s_ek_bk 3 (P := 73) (ls' := [(0, .ref 151), (1, .int b), (2, .int c), (3, .int d), (4, .int (s.1 151 2))]) (st' := [.int 60, .int 1, .ref 152]) (M' := v_mk s2) rfl ?_
    obtain ⟨s4, es4, h⟩ := v_ld h
    refine v_bst (M' := v_mk s4) (i := 1) rfl (v_mk_kd (rfl : v_kd 152 = 12) (by decide)) (by rw [es4]; exact v_pai (rfl : v_kd 152 = 12) rfl (by decide) v_all12 (v_cn (rfl : v_ln 152 = 60) (by decide : v_in 1 60))) ?_
    refine s_ek_bk 1 (P := 75) (ls' := [(0, .ref 151), (1, .int b), (2, .int c), (3, .int d), (4, .int (s.1 151 2))]) (st' := [.ref 151]) (M' := v_mk s4) rfl ?_
    refine v_gf rfl (v_gr (rfl : v_kd 151 = 11) (rfl : v_sl 151 1 = .ref 152) ⟨rfl, rfl, by decide⟩) ?_
    refine s_ek_bk 5 (P := 84) (ls' := [(0, .ref 151), (1, .int b), (2, .int c), (3, .int d), (4, .int (s.1 151 2))]) (st' := [.int (Int8.toInt32 (Int32.toInt8 ((48 : Int32) + d))), .int 2, .ref 152]) (M' := v_mk s4) rfl ?_
    obtain ⟨s5, es5, h⟩ := v_ld h
    refine v_bst (M' := v_mk s5) (i := 2) rfl (v_mk_kd (rfl : v_kd 152 = 12) (by decide)) (by rw [es5]; exact v_pai (rfl : v_kd 152 = 12) rfl (by decide) v_all12 (v_cn (rfl : v_ln 152 = 60) (by decide : v_in 2 60))) ?_
    refine s_ek_bk 2 (P := 87) (ls' := [(0, .ref 151), (1, .int b), (2, .int c), (3, .int d), (4, .int (s.1 151 2))]) (st' := [.int 3, .ref 151]) (M' := v_mk s5) rfl ?_
    obtain ⟨s6, es6, h⟩ := v_ld h
    refine v_pf (M' := v_mk s6) rfl (by rw [es6]; exact v_pi (rfl : v_kd 151 = 11) rfl ⟨rfl, rfl, by decide⟩ rfl) ?_
    refine s_ek_bk 2 (P := 92) (ls' := [(0, .ref 151), (1, .int b), (2, .int c), (3, .int d), (4, .int (s.1 151 2))]) (st' := [.ref 151, .ref 151]) (M' := v_mk s6) rfl ?_
    refine v_gf rfl (v_gi (rfl : v_kd 151 = 11) rfl ⟨rfl, rfl, by decide⟩) ?_
    obtain ⟨r7, s7, e7, h⟩ := v_bd h
    refine v_cV (ν := s_e197.1) (w := 1577) (a := 151) (as' := [.int (s6.1 151 14)]) (r := []) (o := some (.int r7)) (by omega) rfl rfl rfl (v_mk_kd (k := 11) (rfl : v_kd 151 = 11) (by decide)) rfl (t_Md_readText e7 (by omega)) ?_
    show s_Ek (s_rows 3 L xs) D s_e205.1 98 [(0, .ref 151), (1, .int b), (2, .int c), (3, .int d), (4, .int (s.1 151 2))] [.int r7] (v_mk s7) _
    refine s_ek_bk 3 (P := 102) (ls' := [(5, .int 0), (0, .ref 151), (1, .int b), (2, .int c), (3, .int d), (4, .int (s.1 151 2))]) (st' := []) (M' := v_mk s7) rfl ?_
    refine v_ls (ls' := [(0, .ref 151), (4, .int (s.1 151 2)), (5, .int 0)]) ⟨rfl, rfl, rfl, trivial⟩ (show ([0, 4, 5] : List Nat).Nodup from by decide) ?_
    refine t_Md_writeText_L102 (by omega) (fun s8 h => ?_) 4096 _ _ h
    show s_Ek (s_rows 3 L xs) D s_e205.1 128 [(0, .ref 151), (4, .int (s.1 151 2))] [] (v_mk s8) _
    refine s_ek_bk 2 (P := 131) (ls' := [(0, .ref 151), (4, .int (s.1 151 2))]) (st' := [.int (s.1 151 2), .ref 151]) (M' := v_mk s8) rfl ?_
    obtain ⟨s9, es9, h⟩ := v_ld h
    refine v_pf (M' := v_mk s9) rfl (by rw [es9]; exact v_pi (rfl : v_kd 151 = 11) rfl ⟨rfl, rfl, by decide⟩ rfl) ?_
    obtain ⟨rfl, rfl⟩ := v_so h
    exact v_ret (fun _ => rfl)
  · refine v_i1t (T := 60) rfl rfl c3 ?_
    refine s_ek_bk 2 (P := 62) (ls' := [(0, .ref 151), (1, .int b), (2, .int c), (3, .int d), (4, .int (s.1 151 2))]) (st' := [.int 1, .int c, .int 1, .ref 152]) (M' := v_mk s2) rfl ?_
    rcases v_if h with ⟨c10, h⟩ | ⟨c10, h⟩
    · refine v_i2f (T := 70) rfl rfl (fun q => q c10) ?_
      refine s_ek_bk 3 (P := 73) (ls' := [(0, .ref 151), (1, .int b), (2, .int c), (3, .int d), (4, .int (s.1 151 2))]) (st' := [.int 61, .int 1, .ref 152]) (M' := v_mk s2) rfl ?_
      obtain ⟨s11, es11, h⟩ := v_ld h
      refine v_bst (M' := v_mk s11) (i := 1) rfl (v_mk_kd (rfl : v_kd 152 = 12) (by decide)) (by rw [es11]; exact v_pai (rfl : v_kd 152 = 12) rfl (by decide) v_all12 (v_cn (rfl : v_ln 152 = 60) (by decide : v_in 1 60))) ?_
      refine s_ek_bk 1 (P := 75) (ls' := [(0, .ref 151), (1, .int b), (2, .int c), (3, .int d), (4, .int (s.1 151 2))]) (st' := [.ref 151]) (M' := v_mk s11) rfl ?_
      refine v_gf rfl (v_gr (rfl : v_kd 151 = 11) (rfl : v_sl 151 1 = .ref 152) ⟨rfl, rfl, by decide⟩) ?_
      refine s_ek_bk 5 (P := 84) (ls' := [(0, .ref 151), (1, .int b), (2, .int c), (3, .int d), (4, .int (s.1 151 2))]) (st' := [.int (Int8.toInt32 (Int32.toInt8 ((48 : Int32) + d))), .int 2, .ref 152]) (M' := v_mk s11) rfl ?_
      obtain ⟨s12, es12, h⟩ := v_ld h
      refine v_bst (M' := v_mk s12) (i := 2) rfl (v_mk_kd (rfl : v_kd 152 = 12) (by decide)) (by rw [es12]; exact v_pai (rfl : v_kd 152 = 12) rfl (by decide) v_all12 (v_cn (rfl : v_ln 152 = 60) (by decide : v_in 2 60))) ?_
      refine s_ek_bk 2 (P := 87) (ls' := [(0, .ref 151), (1, .int b), (2, .int c), (3, .int d), (4, .int (s.1 151 2))]) (st' := [.int 3, .ref 151]) (M' := v_mk s12) rfl ?_
      obtain ⟨s13, es13, h⟩ := v_ld h
      refine v_pf (M' := v_mk s13) rfl (by rw [es13]; exact v_pi (rfl : v_kd 151 = 11) rfl ⟨rfl, rfl, by decide⟩ rfl) ?_
      refine s_ek_bk 2 (P := 92) (ls' := [(0, .ref 151), (1, .int b), (2, .int c), (3, .int d), (4, .int (s.1 151 2))]) (st' := [.ref 151, .ref 151]) (M' := v_mk s13) rfl ?_
      refine v_gf rfl (v_gi (rfl : v_kd 151 = 11) rfl ⟨rfl, rfl, by decide⟩) ?_
      obtain ⟨r14, s14, e14, h⟩ := v_bd h
      refine v_cV (ν := s_e197.1) (w := 1577) (a := 151) (as' := [.int (s13.1 151 14)]) (r := []) (o := some (.int r14)) (by omega) rfl rfl rfl (v_mk_kd (k := 11) (rfl : v_kd 151 = 11) (by decide)) rfl (t_Md_readText e14 (by omega)) ?_
      show s_Ek (s_rows 3 L xs) D s_e205.1 98 [(0, .ref 151), (1, .int b), (2, .int c), (3, .int d), (4, .int (s.1 151 2))] [.int r14] (v_mk s14) _
      refine s_ek_bk 3 (P := 102) (ls' := [(5, .int 0), (0, .ref 151), (1, .int b), (2, .int c), (3, .int d), (4, .int (s.1 151 2))]) (st' := []) (M' := v_mk s14) rfl ?_
      refine v_ls (ls' := [(0, .ref 151), (4, .int (s.1 151 2)), (5, .int 0)]) ⟨rfl, rfl, rfl, trivial⟩ (show ([0, 4, 5] : List Nat).Nodup from by decide) ?_
      refine t_Md_writeText_L102 (by omega) (fun s15 h => ?_) 4096 _ _ h
      show s_Ek (s_rows 3 L xs) D s_e205.1 128 [(0, .ref 151), (4, .int (s.1 151 2))] [] (v_mk s15) _
      refine s_ek_bk 2 (P := 131) (ls' := [(0, .ref 151), (4, .int (s.1 151 2))]) (st' := [.int (s.1 151 2), .ref 151]) (M' := v_mk s15) rfl ?_
      obtain ⟨s16, es16, h⟩ := v_ld h
      refine v_pf (M' := v_mk s16) rfl (by rw [es16]; exact v_pi (rfl : v_kd 151 = 11) rfl ⟨rfl, rfl, by decide⟩ rfl) ?_
      obtain ⟨rfl, rfl⟩ := v_so h
      exact v_ret (fun _ => rfl)
    · refine v_i2t (T := 70) rfl rfl c10 ?_
      refine s_ek_bk 2 (P := 73) (ls' := [(0, .ref 151), (1, .int b), (2, .int c), (3, .int d), (4, .int (s.1 151 2))]) (st' := [.int 62, .int 1, .ref 152]) (M' := v_mk s2) rfl ?_
      obtain ⟨s17, es17, h⟩ := v_ld h
      refine v_bst (M' := v_mk s17) (i := 1) rfl (v_mk_kd (rfl : v_kd 152 = 12) (by decide)) (by rw [es17]; exact v_pai (rfl : v_kd 152 = 12) rfl (by decide) v_all12 (v_cn (rfl : v_ln 152 = 60) (by decide : v_in 1 60))) ?_
      refine s_ek_bk 1 (P := 75) (ls' := [(0, .ref 151), (1, .int b), (2, .int c), (3, .int d), (4, .int (s.1 151 2))]) (st' := [.ref 151]) (M' := v_mk s17) rfl ?_
      refine v_gf rfl (v_gr (rfl : v_kd 151 = 11) (rfl : v_sl 151 1 = .ref 152) ⟨rfl, rfl, by decide⟩) ?_
      refine s_ek_bk 5 (P := 84) (ls' := [(0, .ref 151), (1, .int b), (2, .int c), (3, .int d), (4, .int (s.1 151 2))]) (st' := [.int (Int8.toInt32 (Int32.toInt8 ((48 : Int32) + d))), .int 2, .ref 152]) (M' := v_mk s17) rfl ?_
      obtain ⟨s18, es18, h⟩ := v_ld h
      refine v_bst (M' := v_mk s18) (i := 2) rfl (v_mk_kd (rfl : v_kd 152 = 12) (by decide)) (by rw [es18]; exact v_pai (rfl : v_kd 152 = 12) rfl (by decide) v_all12 (v_cn (rfl : v_ln 152 = 60) (by decide : v_in 2 60))) ?_
      refine s_ek_bk 2 (P := 87) (ls' := [(0, .ref 151), (1, .int b), (2, .int c), (3, .int d), (4, .int (s.1 151 2))]) (st' := [.int 3, .ref 151]) (M' := v_mk s18) rfl ?_
      obtain ⟨s19, es19, h⟩ := v_ld h
      refine v_pf (M' := v_mk s19) rfl (by rw [es19]; exact v_pi (rfl : v_kd 151 = 11) rfl ⟨rfl, rfl, by decide⟩ rfl) ?_
      refine s_ek_bk 2 (P := 92) (ls' := [(0, .ref 151), (1, .int b), (2, .int c), (3, .int d), (4, .int (s.1 151 2))]) (st' := [.ref 151, .ref 151]) (M' := v_mk s19) rfl ?_
      refine v_gf rfl (v_gi (rfl : v_kd 151 = 11) rfl ⟨rfl, rfl, by decide⟩) ?_
      obtain ⟨r20, s20, e20, h⟩ := v_bd h
      refine v_cV (ν := s_e197.1) (w := 1577) (a := 151) (as' := [.int (s19.1 151 14)]) (r := []) (o := some (.int r20)) (by omega) rfl rfl rfl (v_mk_kd (k := 11) (rfl : v_kd 151 = 11) (by decide)) rfl (t_Md_readText e20 (by omega)) ?_
      show s_Ek (s_rows 3 L xs) D s_e205.1 98 [(0, .ref 151), (1, .int b), (2, .int c), (3, .int d), (4, .int (s.1 151 2))] [.int r20] (v_mk s20) _
      refine s_ek_bk 3 (P := 102) (ls' := [(5, .int 0), (0, .ref 151), (1, .int b), (2, .int c), (3, .int d), (4, .int (s.1 151 2))]) (st' := []) (M' := v_mk s20) rfl ?_
      refine v_ls (ls' := [(0, .ref 151), (4, .int (s.1 151 2)), (5, .int 0)]) ⟨rfl, rfl, rfl, trivial⟩ (show ([0, 4, 5] : List Nat).Nodup from by decide) ?_
      refine t_Md_writeText_L102 (by omega) (fun s21 h => ?_) 4096 _ _ h
      show s_Ek (s_rows 3 L xs) D s_e205.1 128 [(0, .ref 151), (4, .int (s.1 151 2))] [] (v_mk s21) _
      refine s_ek_bk 2 (P := 131) (ls' := [(0, .ref 151), (4, .int (s.1 151 2))]) (st' := [.int (s.1 151 2), .ref 151]) (M' := v_mk s21) rfl ?_
      obtain ⟨s22, es22, h⟩ := v_ld h
      refine v_pf (M' := v_mk s22) rfl (by rw [es22]; exact v_pi (rfl : v_kd 151 = 11) rfl ⟨rfl, rfl, by decide⟩ rfl) ?_
      obtain ⟨rfl, rfl⟩ := v_so h
      exact v_ret (fun _ => rfl)
noncomputable def f_Md_isLawRow (b : Int32) (s : vS) : Option (Int32 × vS) := (if v_in b 360 then (v_bi (f_Md_in (Int64.toInt32 (s.2 183 (Int32.toNatClampNeg b))) 0 99 s) (fun r2 s2 => (if r2.toInt = 0 then (some (0, s2)) else (if v_in (b + (1 : Int32)) 360 then (v_bi (f_Md_in (Int64.toInt32 (s2.2 183 (Int32.toNatClampNeg (b + (1 : Int32))))) 0 2 s2) (fun r5 s5 => (if r5.toInt = 0 then (some (0, s5)) else (if v_in (b + (2 : Int32)) 360 then (v_bi (f_Md_in (Int64.toInt32 (s5.2 183 (Int32.toNatClampNeg (b + (2 : Int32))))) (-1) 9 s5) (fun r8 s8 => (if r8.toInt = 0 then (some (0, s8)) else (if v_in (b + (3 : Int32)) 360 then (v_bi (f_Md_in (Int64.toInt32 (s8.2 183 (Int32.toNatClampNeg (b + (3 : Int32))))) 0 2 s8) (fun r11 s11 => (if r11.toInt = 0 then (some (0, s11)) else (if v_in (b + (4 : Int32)) 360 then (v_bi (f_Md_in (Int64.toInt32 (s11.2 183 (Int32.toNatClampNeg (b + (4 : Int32))))) 0 2 s11) (fun r14 s14 => (if r14.toInt = 0 then (some (0, s14)) else (if v_in (b + (5 : Int32)) 360 then (v_bi (f_Md_in (Int64.toInt32 (s14.2 183 (Int32.toNatClampNeg (b + (5 : Int32))))) 0 9 s14) (fun r17 s17 => (if r17.toInt = 0 then (some (0, s17)) else (some (1, s17))))) else none)))) else none)))) else none)))) else none)))) else none)))) else none)
set_option maxRecDepth 20000 in
set_option maxHeartbeats 4000000 in
theorem t_Md_isLawRow {L : Nat} {xs : Nat → Int32} {b : Int32} {D : Nat} {r : Int32} {s s' : vS} (h : f_Md_isLawRow b s = some (r, s')) (hD : 1 ≤ D) : s_Ek (s_rows 3 L xs) D s_e206.1 0 (lv_args 0 [.ref 151, .int b]) [] (v_mk s) (v_Q (some (.int r)) s') := by
  unfold f_Md_isLawRow at h
  show s_Ek (s_rows 3 L xs) D s_e206.1 0 [(0, .ref 151), (1, .int b)] [] (v_mk s) _
  refine s_ek_bk 1 (P := 1) (ls' := [(0, .ref 151), (1, .int b)]) (st' := [.ref 151]) (M' := v_mk s) rfl ?_
  refine v_gf rfl (v_gr (rfl : v_kd 151 = 11) (rfl : v_sl 151 48 = .ref 183) ⟨rfl, rfl, by decide⟩) ?_
  refine s_ek_bk 1 (P := 5) (ls' := [(0, .ref 151), (1, .int b)]) (st' := [.int b, .ref 183]) (M' := v_mk s) rfl ?_
  obtain ⟨c1, h⟩ := v_ck h
  refine v_la (i := b) rfl (v_al (rfl : v_kd 183 = 14) rfl (by decide) v_all14 (v_cn (rfl : v_ln 183 = 360) c1)) ?_
  refine s_ek_bk 3 (P := 10) (ls' := [(0, .ref 151), (1, .int b)]) (st' := [.int 99, .int 0, .int (Int64.toInt32 (s.2 183 (Int32.toNatClampNeg b)))]) (M' := v_mk s) rfl ?_
  obtain ⟨r2, s2, e2, h⟩ := v_bd h
  refine v_cS (ν := s_e181.1) (w := 1451) (as := [.int (Int64.toInt32 (s.2 183 (Int32.toNatClampNeg b))), .int 0, .int 99]) (r := []) (o := some (.int r2)) (by omega) rfl rfl rfl rfl (t_Md_in e2 (by omega)) ?_
  show s_Ek (s_rows 3 L xs) D s_e206.1 13 [(0, .ref 151), (1, .int b)] [.int r2] (v_mk s2) _
  rcases v_if h with ⟨c3, h⟩ | ⟨c3, h⟩
  · refine v_i1t (T := 107) rfl rfl c3 ?_
    refine s_ek_bk 1 (P := 108) (ls' := [(0, .ref 151), (1, .int b)]) (st' := [.int 0]) (M' := v_mk s2) rfl ?_
    obtain ⟨rfl, rfl⟩ := v_so h
    exact v_ret (fun _ => rfl)
  · refine v_i1f (T := 107) rfl rfl c3 ?_
    refine s_ek_bk 1 (P := 17) (ls' := [(0, .ref 151), (1, .int b)]) (st' := [.ref 151]) (M' := v_mk s2) rfl ?_
    refine v_gf rfl (v_gr (rfl : v_kd 151 = 11) (rfl : v_sl 151 48 = .ref 183) ⟨rfl, rfl, by decide⟩) ?_
    refine s_ek_bk 3 (P := 23) (ls' := [(0, .ref 151), (1, .int b)]) (st' := [.int (b + (1 : Int32)), .ref 183]) (M' := v_mk s2) rfl ?_
    obtain ⟨c4, h⟩ := v_ck h
    refine v_la (i := (b + (1 : Int32))) rfl (v_al (rfl : v_kd 183 = 14) rfl (by decide) v_all14 (v_cn (rfl : v_ln 183 = 360) c4)) ?_
    refine s_ek_bk 3 (P := 27) (ls' := [(0, .ref 151), (1, .int b)]) (st' := [.int 2, .int 0, .int (Int64.toInt32 (s2.2 183 (Int32.toNatClampNeg (b + (1 : Int32)))))]) (M' := v_mk s2) rfl ?_
    obtain ⟨r5, s5, e5, h⟩ := v_bd h
    refine v_cS (ν := s_e181.1) (w := 1451) (as := [.int (Int64.toInt32 (s2.2 183 (Int32.toNatClampNeg (b + (1 : Int32))))), .int 0, .int 2]) (r := []) (o := some (.int r5)) (by omega) rfl rfl rfl rfl (t_Md_in e5 (by omega)) ?_
    show s_Ek (s_rows 3 L xs) D s_e206.1 30 [(0, .ref 151), (1, .int b)] [.int r5] (v_mk s5) _
    rcases v_if h with ⟨c6, h⟩ | ⟨c6, h⟩
    · refine v_i1t (T := 107) rfl rfl c6 ?_
      refine s_ek_bk 1 (P := 108) (ls' := [(0, .ref 151), (1, .int b)]) (st' := [.int 0]) (M' := v_mk s5) rfl ?_
      obtain ⟨rfl, rfl⟩ := v_so h
      exact v_ret (fun _ => rfl)
    · refine v_i1f (T := 107) rfl rfl c6 ?_
      refine s_ek_bk 1 (P := 34) (ls' := [(0, .ref 151), (1, .int b)]) (st' := [.ref 151]) (M' := v_mk s5) rfl ?_
      refine v_gf rfl (v_gr (rfl : v_kd 151 = 11) (rfl : v_sl 151 48 = .ref 183) ⟨rfl, rfl, by decide⟩) ?_
      refine s_ek_bk 3 (P := 40) (ls' := [(0, .ref 151), (1, .int b)]) (st' := [.int (b + (2 : Int32)), .ref 183]) (M' := v_mk s5) rfl ?_
      obtain ⟨c7, h⟩ := v_ck h
      refine v_la (i := (b + (2 : Int32))) rfl (v_al (rfl : v_kd 183 = 14) rfl (by decide) v_all14 (v_cn (rfl : v_ln 183 = 360) c7)) ?_
      refine s_ek_bk 3 (P := 45) (ls' := [(0, .ref 151), (1, .int b)]) (st' := [.int 9, .int (-1), .int (Int64.toInt32 (s5.2 183 (Int32.toNatClampNeg (b + (2 : Int32)))))]) (M' := v_mk s5) rfl ?_
      obtain ⟨r8, s8, e8, h⟩ := v_bd h
      refine v_cS (ν := s_e181.1) (w := 1451) (as := [.int (Int64.toInt32 (s5.2 183 (Int32.toNatClampNeg (b + (2 : Int32))))), .int (-1), .int 9]) (r := []) (o := some (.int r8)) (by omega) rfl rfl rfl rfl (t_Md_in e8 (by omega)) ?_
      show s_Ek (s_rows 3 L xs) D s_e206.1 48 [(0, .ref 151), (1, .int b)] [.int r8] (v_mk s8) _
      rcases v_if h with ⟨c9, h⟩ | ⟨c9, h⟩
      · refine v_i1t (T := 107) rfl rfl c9 ?_
        refine s_ek_bk 1 (P := 108) (ls' := [(0, .ref 151), (1, .int b)]) (st' := [.int 0]) (M' := v_mk s8) rfl ?_
        obtain ⟨rfl, rfl⟩ := v_so h
        exact v_ret (fun _ => rfl)
      · refine v_i1f (T := 107) rfl rfl c9 ?_
        refine s_ek_bk 1 (P := 52) (ls' := [(0, .ref 151), (1, .int b)]) (st' := [.ref 151]) (M' := v_mk s8) rfl ?_
        refine v_gf rfl (v_gr (rfl : v_kd 151 = 11) (rfl : v_sl 151 48 = .ref 183) ⟨rfl, rfl, by decide⟩) ?_
        refine s_ek_bk 3 (P := 58) (ls' := [(0, .ref 151), (1, .int b)]) (st' := [.int (b + (3 : Int32)), .ref 183]) (M' := v_mk s8) rfl ?_
        obtain ⟨c10, h⟩ := v_ck h
        refine v_la (i := (b + (3 : Int32))) rfl (v_al (rfl : v_kd 183 = 14) rfl (by decide) v_all14 (v_cn (rfl : v_ln 183 = 360) c10)) ?_
        refine s_ek_bk 3 (P := 62) (ls' := [(0, .ref 151), (1, .int b)]) (st' := [.int 2, .int 0, .int (Int64.toInt32 (s8.2 183 (Int32.toNatClampNeg (b + (3 : Int32)))))]) (M' := v_mk s8) rfl ?_
        obtain ⟨r11, s11, e11, h⟩ := v_bd h
        refine v_cS (ν := s_e181.1) (w := 1451) (as := [.int (Int64.toInt32 (s8.2 183 (Int32.toNatClampNeg (b + (3 : Int32))))), .int 0, .int 2]) (r := []) (o := some (.int r11)) (by omega) rfl rfl rfl rfl (t_Md_in e11 (by omega)) ?_
        show s_Ek (s_rows 3 L xs) D s_e206.1 65 [(0, .ref 151), (1, .int b)] [.int r11] (v_mk s11) _
        rcases v_if h with ⟨c12, h⟩ | ⟨c12, h⟩
        · refine v_i1t (T := 107) rfl rfl c12 ?_
          refine s_ek_bk 1 (P := 108) (ls' := [(0, .ref 151), (1, .int b)]) (st' := [.int 0]) (M' := v_mk s11) rfl ?_
          obtain ⟨rfl, rfl⟩ := v_so h
          exact v_ret (fun _ => rfl)
        · refine v_i1f (T := 107) rfl rfl c12 ?_
          refine s_ek_bk 1 (P := 69) (ls' := [(0, .ref 151), (1, .int b)]) (st' := [.ref 151]) (M' := v_mk s11) rfl ?_
          refine v_gf rfl (v_gr (rfl : v_kd 151 = 11) (rfl : v_sl 151 48 = .ref 183) ⟨rfl, rfl, by decide⟩) ?_
          refine s_ek_bk 3 (P := 75) (ls' := [(0, .ref 151), (1, .int b)]) (st' := [.int (b + (4 : Int32)), .ref 183]) (M' := v_mk s11) rfl ?_
          obtain ⟨c13, h⟩ := v_ck h
          refine v_la (i := (b + (4 : Int32))) rfl (v_al (rfl : v_kd 183 = 14) rfl (by decide) v_all14 (v_cn (rfl : v_ln 183 = 360) c13)) ?_
          refine s_ek_bk 3 (P := 79) (ls' := [(0, .ref 151), (1, .int b)]) (st' := [.int 2, .int 0, .int (Int64.toInt32 (s11.2 183 (Int32.toNatClampNeg (b + (4 : Int32)))))]) (M' := v_mk s11) rfl ?_
          obtain ⟨r14, s14, e14, h⟩ := v_bd h
          refine v_cS (ν := s_e181.1) (w := 1451) (as := [.int (Int64.toInt32 (s11.2 183 (Int32.toNatClampNeg (b + (4 : Int32))))), .int 0, .int 2]) (r := []) (o := some (.int r14)) (by omega) rfl rfl rfl rfl (t_Md_in e14 (by omega)) ?_
          show s_Ek (s_rows 3 L xs) D s_e206.1 82 [(0, .ref 151), (1, .int b)] [.int r14] (v_mk s14) _
          rcases v_if h with ⟨c15, h⟩ | ⟨c15, h⟩
          · refine v_i1t (T := 107) rfl rfl c15 ?_
            refine s_ek_bk 1 (P := 108) (ls' := [(0, .ref 151), (1, .int b)]) (st' := [.int 0]) (M' := v_mk s14) rfl ?_
            obtain ⟨rfl, rfl⟩ := v_so h
            exact v_ret (fun _ => rfl)
          · refine v_i1f (T := 107) rfl rfl c15 ?_
            refine s_ek_bk 1 (P := 86) (ls' := [(0, .ref 151), (1, .int b)]) (st' := [.ref 151]) (M' := v_mk s14) rfl ?_
            refine v_gf rfl (v_gr (rfl : v_kd 151 = 11) (rfl : v_sl 151 48 = .ref 183) ⟨rfl, rfl, by decide⟩) ?_
            refine s_ek_bk 3 (P := 92) (ls' := [(0, .ref 151), (1, .int b)]) (st' := [.int (b + (5 : Int32)), .ref 183]) (M' := v_mk s14) rfl ?_
            obtain ⟨c16, h⟩ := v_ck h
            refine v_la (i := (b + (5 : Int32))) rfl (v_al (rfl : v_kd 183 = 14) rfl (by decide) v_all14 (v_cn (rfl : v_ln 183 = 360) c16)) ?_
            refine s_ek_bk 3 (P := 97) (ls' := [(0, .ref 151), (1, .int b)]) (st' := [.int 9, .int 0, .int (Int64.toInt32 (s14.2 183 (Int32.toNatClampNeg (b + (5 : Int32)))))]) (M' := v_mk s14) rfl ?_
            obtain ⟨r17, s17, e17, h⟩ := v_bd h
            refine v_cS (ν := s_e181.1) (w := 1451) (as := [.int (Int64.toInt32 (s14.2 183 (Int32.toNatClampNeg (b + (5 : Int32))))), .int 0, .int 9]) (r := []) (o := some (.int r17)) (by omega) rfl rfl rfl rfl (t_Md_in e17 (by omega)) ?_
            show s_Ek (s_rows 3 L xs) D s_e206.1 100 [(0, .ref 151), (1, .int b)] [.int r17] (v_mk s17) _
            rcases v_if h with ⟨c18, h⟩ | ⟨c18, h⟩
            · refine v_i1t (T := 107) rfl rfl c18 ?_
              refine s_ek_bk 1 (P := 108) (ls' := [(0, .ref 151), (1, .int b)]) (st' := [.int 0]) (M' := v_mk s17) rfl ?_
              obtain ⟨rfl, rfl⟩ := v_so h
              exact v_ret (fun _ => rfl)
            · refine v_i1f (T := 107) rfl rfl c18 ?_
              refine s_ek_bk 2 (P := 108) (ls' := [(0, .ref 151), (1, .int b)]) (st' := [.int 1]) (M' := v_mk s17) rfl ?_
              obtain ⟨rfl, rfl⟩ := v_so h
              exact v_ret (fun _ => rfl)
noncomputable def f_Md_isShelf (b : Int32) (s : vS) : Option (Int32 × vS) := (v_bi (f_Md_in b 0 5 s) (fun r1 s1 => (if r1 = 0 ∨ r1 = 1 then some (r1, s1) else none)))
set_option maxRecDepth 20000 in
set_option maxHeartbeats 4000000 in
theorem t_Md_isShelf {L : Nat} {xs : Nat → Int32} {b : Int32} {D : Nat} {r : Int32} {s s' : vS} (h : f_Md_isShelf b s = some (r, s')) (hD : 1 ≤ D) : s_Ek (s_rows 3 L xs) D s_e281.1 0 (lv_args 0 [.int b]) [] (v_mk s) (v_Q (some (.int r)) s') := by
  unfold f_Md_isShelf at h
  show s_Ek (s_rows 3 L xs) D s_e281.1 0 [(0, .int b)] [] (v_mk s) _
  refine s_ek_bk 3 (P := 3) (ls' := [(0, .int b)]) (st' := [.int 5, .int 0, .int b]) (M' := v_mk s) rfl ?_
  obtain ⟨r1, s1, e1, h⟩ := v_bd h
  refine v_cS (ν := s_e181.1) (w := 1451) (as := [.int b, .int 0, .int 5]) (r := []) (o := some (.int r1)) (by omega) rfl rfl rfl rfl (t_Md_in e1 (by omega)) ?_
  show s_Ek (s_rows 3 L xs) D s_e281.1 6 [(0, .int b)] [.int r1] (v_mk s1) _
  obtain ⟨c2, h⟩ := v_ck h
  obtain ⟨rfl, rfl⟩ := v_so h
  exact v_zret rfl rfl c2
noncomputable def f_Md_laws_L58b (p1 : Int32) (p2 : Int32) (p3 : Int32) (k108 : Int32 → vS → Option (Int32 × vS)) (k206 : vS → Option (Int32 × vS)) (again : Int32 → vS → Option (Int32 × vS)) (v4 : Int32) (s : vS) : Option (Int32 × vS) := (if p3.toInt ≤ v4.toInt then (k206 s) else (if (lg_cmp ((Int32.toInt64 p2) + (Int32.toInt64 ((6 : Int32) * v4))) (0 : Int64)).toInt < 0 then (k108 v4 s) else (if v_in p1 6 then (if 0 ≤ (lg_cmp (((Int32.toInt64 p2) + (Int32.toInt64 ((6 : Int32) * v4))) + (5 : Int64)) (Int32.toInt64 (s.1 182 (Int32.toNatClampNeg p1)))).toInt then (k108 v4 s) else (if (s.1 151 14).toInt = 10 then (k108 v4 s) else (v_bi (f_Md_isLawRow (((60 : Int32) * p1) + (Int64.toInt32 ((Int32.toInt64 p2) + (Int32.toInt64 ((6 : Int32) * v4))))) s) (fun r114 s114 => (if r114.toInt = 0 then (some (v4, s114)) else (if v_in ((((60 : Int32) * p1) + (Int64.toInt32 ((Int32.toInt64 p2) + (Int32.toInt64 ((6 : Int32) * v4))))) + (3 : Int32)) 360 then (if v_in ((((60 : Int32) * p1) + (Int64.toInt32 ((Int32.toInt64 p2) + (Int32.toInt64 ((6 : Int32) * v4))))) + (4 : Int32)) 360 then (if v_in ((((60 : Int32) * p1) + (Int64.toInt32 ((Int32.toInt64 p2) + (Int32.toInt64 ((6 : Int32) * v4))))) + (5 : Int32)) 360 then (v_bi (f_Md_writeText (Int64.toInt32 (s114.2 183 (Int32.toNatClampNeg ((((60 : Int32) * p1) + (Int64.toInt32 ((Int32.toInt64 p2) + (Int32.toInt64 ((6 : Int32) * v4))))) + (3 : Int32))))) (Int64.toInt32 (s114.2 183 (Int32.toNatClampNeg ((((60 : Int32) * p1) + (Int64.toInt32 ((Int32.toInt64 p2) + (Int32.toInt64 ((6 : Int32) * v4))))) + (4 : Int32))))) (Int64.toInt32 (s114.2 183 (Int32.toNatClampNeg ((((60 : Int32) * p1) + (Int64.toInt32 ((Int32.toInt64 p2) + (Int32.toInt64 ((6 : Int32) * v4))))) + (5 : Int32))))) s114) (fun _ s119 => (if v_in (((60 : Int32) * p1) + (Int64.toInt32 ((Int32.toInt64 p2) + (Int32.toInt64 ((6 : Int32) * v4))))) 360 then (if v_in ((((60 : Int32) * p1) + (Int64.toInt32 ((Int32.toInt64 p2) + (Int32.toInt64 ((6 : Int32) * v4))))) + (1 : Int32)) 360 then (if v_in ((((60 : Int32) * p1) + (Int64.toInt32 ((Int32.toInt64 p2) + (Int32.toInt64 ((6 : Int32) * v4))))) + (2 : Int32)) 360 then (v_bi (f_Md_addLaw (Int64.toInt32 (s119.2 183 (Int32.toNatClampNeg (((60 : Int32) * p1) + (Int64.toInt32 ((Int32.toInt64 p2) + (Int32.toInt64 ((6 : Int32) * v4)))))))) (Int64.toInt32 (s119.2 183 (Int32.toNatClampNeg ((((60 : Int32) * p1) + (Int64.toInt32 ((Int32.toInt64 p2) + (Int32.toInt64 ((6 : Int32) * v4))))) + (1 : Int32))))) (Int64.toInt32 (s119.2 183 (Int32.toNatClampNeg ((((60 : Int32) * p1) + (Int64.toInt32 ((Int32.toInt64 p2) + (Int32.toInt64 ((6 : Int32) * v4))))) + (2 : Int32))))) s119) (fun r123 s123 => (again (v4 + 1) s123))) else none) else none) else none))) else none) else none) else none)))))) else none)))
noncomputable def f_Md_laws_L58 (p1 : Int32) (p2 : Int32) (p3 : Int32) (k108 : Int32 → vS → Option (Int32 × vS)) (k206 : vS → Option (Int32 × vS)) (n : Nat) : Int32 → vS → Option (Int32 × vS) := Nat.rec (motive := fun _ => Int32 → vS → Option (Int32 × vS)) (fun _ _ => none) (fun _ again => f_Md_laws_L58b p1 p2 p3 k108 k206 again) n
noncomputable def f_Md_laws (b : Int32) (c : Int32) (d : Int32) (s : vS) : Option (Int32 × vS) := (v_bi (f_Md_isShelf b s) (fun r1 s1 => (if r1.toInt = 0 then (some ((-1), s1)) else (v_bi (f_Md_in d 1 10 s1) (fun r3 s3 => (if r3.toInt = 0 then (some ((-1), s3)) else (if v_in b 6 then (if (s3.1 181 (Int32.toNatClampNeg b)).toInt = (-1) then (if v_in b 6 then (if (s3.1 181 (Int32.toNatClampNeg b)).toInt = (-1) then (some (0, s3)) else (f_Md_laws_L58 b c d (fun w9 s10 => (some (w9, s10))) (fun s11 => (some (d, s11))) 4096 0 s3)) else none) else (if v_in b 6 then (if (s3.1 181 (Int32.toNatClampNeg b)).toInt = (-2) then (if v_in b 6 then (if (s3.1 181 (Int32.toNatClampNeg b)).toInt = (-1) then (some (0, s3)) else (f_Md_laws_L58 b c d (fun w16 s17 => (some (w16, s17))) (fun s18 => (some (d, s18))) 4096 0 s3)) else none) else (some ((-12), s3))) else none)) else none)))))))
set_option maxRecDepth 20000 in
set_option maxHeartbeats 4000000 in
theorem t_Md_laws_L58 {L : Nat} {xs : Nat → Int32} {p1 : Int32} {p2 : Int32} {p3 : Int32} {k108 : Int32 → vS → Option (Int32 × vS)} {k206 : vS → Option (Int32 × vS)} {D : Nat} (hD : 393 ≤ D) {r : Int32} {s' : vS} (hk108 : ∀ (v4 : Int32) (s : vS), k108 v4 s = some (r, s') → s_Ek (s_rows 3 L xs) D s_e207.1 108 [(4, .int v4)] [] (v_mk s) (v_Q (some (.int r)) s')) (hk206 : ∀ (s : vS), k206 s = some (r, s') → s_Ek (s_rows 3 L xs) D s_e207.1 206 [(3, .int p3)] [] (v_mk s) (v_Q (some (.int r)) s')) : ∀ (n : Nat) (v4 : Int32) (s : vS), f_Md_laws_L58 p1 p2 p3 k108 k206 n v4 s = some (r, s') → s_Ek (s_rows 3 L xs) D s_e207.1 58 [(0, .ref 151), (1, .int p1), (2, .int p2), (3, .int p3), (4, .int v4)] [] (v_mk s) (v_Q (some (.int r)) s') := by
  intro n
  induction n with
  | zero => intro v4 s h; exact nomatch (show (none : Option (Int32 × vS)) = some (r, s') from h)
  | succ n ih =>
    intro v4 s h
    replace h : f_Md_laws_L58b p1 p2 p3 k108 k206 (f_Md_laws_L58 p1 p2 p3 k108 k206 n) v4 s = some (r, s') := h
    unfold f_Md_laws_L58b at h
    refine s_ek_bk 2 (P := 61) (ls' := [(0, .ref 151), (1, .int p1), (2, .int p2), (3, .int p3), (4, .int v4)]) (st' := [.int p3, .int v4]) (M' := v_mk s) rfl ?_
    rcases v_if h with ⟨c109, h⟩ | ⟨c109, h⟩
    · refine v_i2t (T := 206) rfl rfl c109 ?_
      refine v_ls (ls' := [(3, .int p3)]) ⟨rfl, trivial⟩ (show ([3] : List Nat).Nodup from by decide) ?_
      exact hk206 _ h
    · refine v_i2f (T := 206) rfl rfl c109 ?_
      refine s_ek_bk 11 (P := 79) (ls' := [(5, .long ((Int32.toInt64 p2) + (Int32.toInt64 ((6 : Int32) * v4)))), (0, .ref 151), (1, .int p1), (2, .int p2), (3, .int p3), (4, .int v4)]) (st' := [.int (lg_cmp ((Int32.toInt64 p2) + (Int32.toInt64 ((6 : Int32) * v4))) (0 : Int64))]) (M' := v_mk s) rfl ?_
      rcases v_if h with ⟨c110, h⟩ | ⟨c110, h⟩
      · refine v_i1t (T := 108) rfl rfl c110 ?_
        refine v_ls (ls' := [(4, .int v4)]) ⟨rfl, trivial⟩ (show ([4] : List Nat).Nodup from by decide) ?_
        exact hk108 _ _ h
      · refine v_i1f (T := 108) rfl rfl c110 ?_
        refine s_ek_bk 4 (P := 89) (ls' := [(5, .long ((Int32.toInt64 p2) + (Int32.toInt64 ((6 : Int32) * v4)))), (0, .ref 151), (1, .int p1), (2, .int p2), (3, .int p3), (4, .int v4)]) (st' := [.ref 151, .long (((Int32.toInt64 p2) + (Int32.toInt64 ((6 : Int32) * v4))) + (5 : Int64))]) (M' := v_mk s) rfl ?_
        refine v_gf rfl (v_gr (rfl : v_kd 151 = 11) (rfl : v_sl 151 47 = .ref 182) ⟨rfl, rfl, by decide⟩) ?_
        refine s_ek_bk 1 (P := 93) (ls' := [(5, .long ((Int32.toInt64 p2) + (Int32.toInt64 ((6 : Int32) * v4)))), (0, .ref 151), (1, .int p1), (2, .int p2), (3, .int p3), (4, .int v4)]) (st' := [.int p1, .ref 182, .long (((Int32.toInt64 p2) + (Int32.toInt64 ((6 : Int32) * v4))) + (5 : Int64))]) (M' := v_mk s) rfl ?_
        obtain ⟨c111, h⟩ := v_ck h
        refine v_ia (i := p1) rfl (v_ai (rfl : v_kd 182 = 13) rfl (by decide) v_all13 (v_cn (rfl : v_ln 182 = 6) c111)) ?_
        refine s_ek_bk 2 (P := 96) (ls' := [(5, .long ((Int32.toInt64 p2) + (Int32.toInt64 ((6 : Int32) * v4)))), (0, .ref 151), (1, .int p1), (2, .int p2), (3, .int p3), (4, .int v4)]) (st' := [.int (lg_cmp (((Int32.toInt64 p2) + (Int32.toInt64 ((6 : Int32) * v4))) + (5 : Int64)) (Int32.toInt64 (s.1 182 (Int32.toNatClampNeg p1))))]) (M' := v_mk s) rfl ?_
        rcases v_if h with ⟨c112, h⟩ | ⟨c112, h⟩
        · refine v_i1t (T := 108) rfl rfl c112 ?_
          refine v_ls (ls' := [(4, .int v4)]) ⟨rfl, trivial⟩ (show ([4] : List Nat).Nodup from by decide) ?_
          exact hk108 _ _ h
        · refine v_i1f (T := 108) rfl rfl c112 ?_
          refine s_ek_bk 1 (P := 100) (ls' := [(5, .long ((Int32.toInt64 p2) + (Int32.toInt64 ((6 : Int32) * v4)))), (0, .ref 151), (1, .int p1), (2, .int p2), (3, .int p3), (4, .int v4)]) (st' := [.ref 151]) (M' := v_mk s) rfl ?_
          refine v_gf rfl (v_gi (rfl : v_kd 151 = 11) rfl ⟨rfl, rfl, by decide⟩) ?_
          refine s_ek_bk 1 (P := 105) (ls' := [(5, .long ((Int32.toInt64 p2) + (Int32.toInt64 ((6 : Int32) * v4)))), (0, .ref 151), (1, .int p1), (2, .int p2), (3, .int p3), (4, .int v4)]) (st' := [.int 10, .int (s.1 151 14)]) (M' := v_mk s) rfl ?_
          rcases v_if h with ⟨c113, h⟩ | ⟨c113, h⟩
          · refine v_i2f (T := 111) rfl rfl (fun q => q c113) ?_
            refine v_ls (ls' := [(4, .int v4)]) ⟨rfl, trivial⟩ (show ([4] : List Nat).Nodup from by decide) ?_
            exact hk108 _ _ h
          · refine v_i2t (T := 111) rfl rfl c113 ?_
            refine s_ek_bk 9 (P := 124) (ls' := [(7, .int (((60 : Int32) * p1) + (Int64.toInt32 ((Int32.toInt64 p2) + (Int32.toInt64 ((6 : Int32) * v4)))))), (5, .long ((Int32.toInt64 p2) + (Int32.toInt64 ((6 : Int32) * v4)))), (0, .ref 151), (1, .int p1), (2, .int p2), (3, .int p3), (4, .int v4)]) (st' := [.int (((60 : Int32) * p1) + (Int64.toInt32 ((Int32.toInt64 p2) + (Int32.toInt64 ((6 : Int32) * v4))))), .ref 151]) (M' := v_mk s) rfl ?_
            obtain ⟨r114, s114, e114, h⟩ := v_bd h
            refine v_cV (ν := s_e206.1) (w := 1649) (a := 151) (as' := [.int (((60 : Int32) * p1) + (Int64.toInt32 ((Int32.toInt64 p2) + (Int32.toInt64 ((6 : Int32) * v4)))))]) (r := []) (o := some (.int r114)) (by omega) rfl rfl rfl (v_mk_kd (k := 11) (rfl : v_kd 151 = 11) (by decide)) rfl (t_Md_isLawRow e114 (by omega)) ?_
            show s_Ek (s_rows 3 L xs) D s_e207.1 127 [(7, .int (((60 : Int32) * p1) + (Int64.toInt32 ((Int32.toInt64 p2) + (Int32.toInt64 ((6 : Int32) * v4)))))), (5, .long ((Int32.toInt64 p2) + (Int32.toInt64 ((6 : Int32) * v4)))), (0, .ref 151), (1, .int p1), (2, .int p2), (3, .int p3), (4, .int v4)] [.int r114] (v_mk s114) _
            rcases v_if h with ⟨c115, h⟩ | ⟨c115, h⟩
            · refine v_i1f (T := 133) rfl rfl (fun q => q c115) ?_
              refine s_ek_bk 1 (P := 132) (ls' := [(7, .int (((60 : Int32) * p1) + (Int64.toInt32 ((Int32.toInt64 p2) + (Int32.toInt64 ((6 : Int32) * v4)))))), (5, .long ((Int32.toInt64 p2) + (Int32.toInt64 ((6 : Int32) * v4)))), (0, .ref 151), (1, .int p1), (2, .int p2), (3, .int p3), (4, .int v4)]) (st' := [.int v4]) (M' := v_mk s114) rfl ?_
              obtain ⟨rfl, rfl⟩ := v_so h
              exact v_ret (fun _ => rfl)
            · refine v_i1t (T := 133) rfl rfl c115 ?_
              refine s_ek_bk 2 (P := 135) (ls' := [(7, .int (((60 : Int32) * p1) + (Int64.toInt32 ((Int32.toInt64 p2) + (Int32.toInt64 ((6 : Int32) * v4)))))), (5, .long ((Int32.toInt64 p2) + (Int32.toInt64 ((6 : Int32) * v4)))), (0, .ref 151), (1, .int p1), (2, .int p2), (3, .int p3), (4, .int v4)]) (st' := [.ref 151, .ref 151]) (M' := v_mk s114) rfl ?_
              refine v_gf rfl (v_gr (rfl : v_kd 151 = 11) (rfl : v_sl 151 48 = .ref 183) ⟨rfl, rfl, by decide⟩) ?_
              refine s_ek_bk 3 (P := 142) (ls' := [(7, .int (((60 : Int32) * p1) + (Int64.toInt32 ((Int32.toInt64 p2) + (Int32.toInt64 ((6 : Int32) * v4)))))), (5, .long ((Int32.toInt64 p2) + (Int32.toInt64 ((6 : Int32) * v4)))), (0, .ref 151), (1, .int p1), (2, .int p2), (3, .int p3), (4, .int v4)]) (st' := [.int ((((60 : Int32) * p1) + (Int64.toInt32 ((Int32.toInt64 p2) + (Int32.toInt64 ((6 : Int32) * v4))))) + (3 : Int32)), .ref 183, .ref 151]) (M' := v_mk s114) rfl ?_
              obtain ⟨c116, h⟩ := v_ck h
              refine v_la (i := ((((60 : Int32) * p1) + (Int64.toInt32 ((Int32.toInt64 p2) + (Int32.toInt64 ((6 : Int32) * v4))))) + (3 : Int32))) rfl (v_al (rfl : v_kd 183 = 14) rfl (by decide) v_all14 (v_cn (rfl : v_ln 183 = 360) c116)) ?_
              refine s_ek_bk 2 (P := 145) (ls' := [(7, .int (((60 : Int32) * p1) + (Int64.toInt32 ((Int32.toInt64 p2) + (Int32.toInt64 ((6 : Int32) * v4)))))), (5, .long ((Int32.toInt64 p2) + (Int32.toInt64 ((6 : Int32) * v4)))), (0, .ref 151), (1, .int p1), (2, .int p2), (3, .int p3), (4, .int v4)]) (st' := [.ref 151, .int (Int64.toInt32 (s114.2 183 (Int32.toNatClampNeg ((((60 : Int32) * p1) + (Int64.toInt32 ((Int32.toInt64 p2) + (Int32.toInt64 ((6 : Int32) * v4))))) + (3 : Int32))))), .ref 151]) (M' := v_mk s114) rfl ?_
              refine v_gf rfl (v_gr (rfl : v_kd 151 = 11) (rfl : v_sl 151 48 = .ref 183) ⟨rfl, rfl, by decide⟩) ?_
              refine s_ek_bk 3 (P := 152) (ls' := [(7, .int (((60 : Int32) * p1) + (Int64.toInt32 ((Int32.toInt64 p2) + (Int32.toInt64 ((6 : Int32) * v4)))))), (5, .long ((Int32.toInt64 p2) + (Int32.toInt64 ((6 : Int32) * v4)))), (0, .ref 151), (1, .int p1), (2, .int p2), (3, .int p3), (4, .int v4)]) (st' := [.int ((((60 : Int32) * p1) + (Int64.toInt32 ((Int32.toInt64 p2) + (Int32.toInt64 ((6 : Int32) * v4))))) + (4 : Int32)), .ref 183, .int (Int64.toInt32 (s114.2 183 (Int32.toNatClampNeg ((((60 : Int32) * p1) + (Int64.toInt32 ((Int32.toInt64 p2) + (Int32.toInt64 ((6 : Int32) * v4))))) + (3 : Int32))))), .ref 151]) (M' := v_mk s114) rfl ?_
              obtain ⟨c117, h⟩ := v_ck h
              refine v_la (i := ((((60 : Int32) * p1) + (Int64.toInt32 ((Int32.toInt64 p2) + (Int32.toInt64 ((6 : Int32) * v4))))) + (4 : Int32))) rfl (v_al (rfl : v_kd 183 = 14) rfl (by decide) v_all14 (v_cn (rfl : v_ln 183 = 360) c117)) ?_
              refine s_ek_bk 2 (P := 155) (ls' := [(7, .int (((60 : Int32) * p1) + (Int64.toInt32 ((Int32.toInt64 p2) + (Int32.toInt64 ((6 : Int32) * v4)))))), (5, .long ((Int32.toInt64 p2) + (Int32.toInt64 ((6 : Int32) * v4)))), (0, .ref 151), (1, .int p1), (2, .int p2), (3, .int p3), (4, .int v4)]) (st' := [.ref 151, .int (Int64.toInt32 (s114.2 183 (Int32.toNatClampNeg ((((60 : Int32) * p1) + (Int64.toInt32 ((Int32.toInt64 p2) + (Int32.toInt64 ((6 : Int32) * v4))))) + (4 : Int32))))), .int (Int64.toInt32 (s114.2 183 (Int32.toNatClampNeg ((((60 : Int32) * p1) + (Int64.toInt32 ((Int32.toInt64 p2) + (Int32.toInt64 ((6 : Int32) * v4))))) + (3 : Int32))))), .ref 151]) (M' := v_mk s114) rfl ?_
              refine v_gf rfl (v_gr (rfl : v_kd 151 = 11) (rfl : v_sl 151 48 = .ref 183) ⟨rfl, rfl, by decide⟩) ?_
              refine s_ek_bk 3 (P := 162) (ls' := [(7, .int (((60 : Int32) * p1) + (Int64.toInt32 ((Int32.toInt64 p2) + (Int32.toInt64 ((6 : Int32) * v4)))))), (5, .long ((Int32.toInt64 p2) + (Int32.toInt64 ((6 : Int32) * v4)))), (0, .ref 151), (1, .int p1), (2, .int p2), (3, .int p3), (4, .int v4)]) (st' := [.int ((((60 : Int32) * p1) + (Int64.toInt32 ((Int32.toInt64 p2) + (Int32.toInt64 ((6 : Int32) * v4))))) + (5 : Int32)), .ref 183, .int (Int64.toInt32 (s114.2 183 (Int32.toNatClampNeg ((((60 : Int32) * p1) + (Int64.toInt32 ((Int32.toInt64 p2) + (Int32.toInt64 ((6 : Int32) * v4))))) + (4 : Int32))))), .int (Int64.toInt32 (s114.2 183 (Int32.toNatClampNeg ((((60 : Int32) * p1) + (Int64.toInt32 ((Int32.toInt64 p2) + (Int32.toInt64 ((6 : Int32) * v4))))) + (3 : Int32))))), .ref 151]) (M' := v_mk s114) rfl ?_
              obtain ⟨c118, h⟩ := v_ck h
              refine v_la (i := ((((60 : Int32) * p1) + (Int64.toInt32 ((Int32.toInt64 p2) + (Int32.toInt64 ((6 : Int32) * v4))))) + (5 : Int32))) rfl (v_al (rfl : v_kd 183 = 14) rfl (by decide) v_all14 (v_cn (rfl : v_ln 183 = 360) c118)) ?_
              refine s_ek_bk 1 (P := 164) (ls' := [(7, .int (((60 : Int32) * p1) + (Int64.toInt32 ((Int32.toInt64 p2) + (Int32.toInt64 ((6 : Int32) * v4)))))), (5, .long ((Int32.toInt64 p2) + (Int32.toInt64 ((6 : Int32) * v4)))), (0, .ref 151), (1, .int p1), (2, .int p2), (3, .int p3), (4, .int v4)]) (st' := [.int (Int64.toInt32 (s114.2 183 (Int32.toNatClampNeg ((((60 : Int32) * p1) + (Int64.toInt32 ((Int32.toInt64 p2) + (Int32.toInt64 ((6 : Int32) * v4))))) + (5 : Int32))))), .int (Int64.toInt32 (s114.2 183 (Int32.toNatClampNeg ((((60 : Int32) * p1) + (Int64.toInt32 ((Int32.toInt64 p2) + (Int32.toInt64 ((6 : Int32) * v4))))) + (4 : Int32))))), .int (Int64.toInt32 (s114.2 183 (Int32.toNatClampNeg ((((60 : Int32) * p1) + (Int64.toInt32 ((Int32.toInt64 p2) + (Int32.toInt64 ((6 : Int32) * v4))))) + (3 : Int32))))), .ref 151]) (M' := v_mk s114) rfl ?_
              obtain ⟨r119, s119, e119, h⟩ := v_bd h
              refine v_cV (ν := s_e205.1) (w := 1643) (a := 151) (as' := [.int (Int64.toInt32 (s114.2 183 (Int32.toNatClampNeg ((((60 : Int32) * p1) + (Int64.toInt32 ((Int32.toInt64 p2) + (Int32.toInt64 ((6 : Int32) * v4))))) + (3 : Int32))))), .int (Int64.toInt32 (s114.2 183 (Int32.toNatClampNeg ((((60 : Int32) * p1) + (Int64.toInt32 ((Int32.toInt64 p2) + (Int32.toInt64 ((6 : Int32) * v4))))) + (4 : Int32))))), .int (Int64.toInt32 (s114.2 183 (Int32.toNatClampNeg ((((60 : Int32) * p1) + (Int64.toInt32 ((Int32.toInt64 p2) + (Int32.toInt64 ((6 : Int32) * v4))))) + (5 : Int32)))))]) (r := []) (o := none) (by omega) rfl rfl rfl (v_mk_kd (k := 11) (rfl : v_kd 151 = 11) (by decide)) rfl (t_Md_writeText e119 (by omega)) ?_
              show s_Ek (s_rows 3 L xs) D s_e207.1 167 [(7, .int (((60 : Int32) * p1) + (Int64.toInt32 ((Int32.toInt64 p2) + (Int32.toInt64 ((6 : Int32) * v4)))))), (5, .long ((Int32.toInt64 p2) + (Int32.toInt64 ((6 : Int32) * v4)))), (0, .ref 151), (1, .int p1), (2, .int p2), (3, .int p3), (4, .int v4)] [] (v_mk s119) _
              refine s_ek_bk 2 (P := 169) (ls' := [(7, .int (((60 : Int32) * p1) + (Int64.toInt32 ((Int32.toInt64 p2) + (Int32.toInt64 ((6 : Int32) * v4)))))), (5, .long ((Int32.toInt64 p2) + (Int32.toInt64 ((6 : Int32) * v4)))), (0, .ref 151), (1, .int p1), (2, .int p2), (3, .int p3), (4, .int v4)]) (st' := [.ref 151, .ref 151]) (M' := v_mk s119) rfl ?_
              refine v_gf rfl (v_gr (rfl : v_kd 151 = 11) (rfl : v_sl 151 48 = .ref 183) ⟨rfl, rfl, by decide⟩) ?_
              refine s_ek_bk 1 (P := 174) (ls' := [(7, .int (((60 : Int32) * p1) + (Int64.toInt32 ((Int32.toInt64 p2) + (Int32.toInt64 ((6 : Int32) * v4)))))), (5, .long ((Int32.toInt64 p2) + (Int32.toInt64 ((6 : Int32) * v4)))), (0, .ref 151), (1, .int p1), (2, .int p2), (3, .int p3), (4, .int v4)]) (st' := [.int (((60 : Int32) * p1) + (Int64.toInt32 ((Int32.toInt64 p2) + (Int32.toInt64 ((6 : Int32) * v4))))), .ref 183, .ref 151]) (M' := v_mk s119) rfl ?_
              obtain ⟨c120, h⟩ := v_ck h
              refine v_la (i := (((60 : Int32) * p1) + (Int64.toInt32 ((Int32.toInt64 p2) + (Int32.toInt64 ((6 : Int32) * v4)))))) rfl (v_al (rfl : v_kd 183 = 14) rfl (by decide) v_all14 (v_cn (rfl : v_ln 183 = 360) c120)) ?_
              refine s_ek_bk 2 (P := 177) (ls' := [(7, .int (((60 : Int32) * p1) + (Int64.toInt32 ((Int32.toInt64 p2) + (Int32.toInt64 ((6 : Int32) * v4)))))), (5, .long ((Int32.toInt64 p2) + (Int32.toInt64 ((6 : Int32) * v4)))), (0, .ref 151), (1, .int p1), (2, .int p2), (3, .int p3), (4, .int v4)]) (st' := [.ref 151, .int (Int64.toInt32 (s119.2 183 (Int32.toNatClampNeg (((60 : Int32) * p1) + (Int64.toInt32 ((Int32.toInt64 p2) + (Int32.toInt64 ((6 : Int32) * v4)))))))), .ref 151]) (M' := v_mk s119) rfl ?_
              refine v_gf rfl (v_gr (rfl : v_kd 151 = 11) (rfl : v_sl 151 48 = .ref 183) ⟨rfl, rfl, by decide⟩) ?_
              refine s_ek_bk 3 (P := 184) (ls' := [(7, .int (((60 : Int32) * p1) + (Int64.toInt32 ((Int32.toInt64 p2) + (Int32.toInt64 ((6 : Int32) * v4)))))), (5, .long ((Int32.toInt64 p2) + (Int32.toInt64 ((6 : Int32) * v4)))), (0, .ref 151), (1, .int p1), (2, .int p2), (3, .int p3), (4, .int v4)]) (st' := [.int ((((60 : Int32) * p1) + (Int64.toInt32 ((Int32.toInt64 p2) + (Int32.toInt64 ((6 : Int32) * v4))))) + (1 : Int32)), .ref 183, .int (Int64.toInt32 (s119.2 183 (Int32.toNatClampNeg (((60 : Int32) * p1) + (Int64.toInt32 ((Int32.toInt64 p2) + (Int32.toInt64 ((6 : Int32) * v4)))))))), .ref 151]) (M' := v_mk s119) rfl ?_
              obtain ⟨c121, h⟩ := v_ck h
              refine v_la (i := ((((60 : Int32) * p1) + (Int64.toInt32 ((Int32.toInt64 p2) + (Int32.toInt64 ((6 : Int32) * v4))))) + (1 : Int32))) rfl (v_al (rfl : v_kd 183 = 14) rfl (by decide) v_all14 (v_cn (rfl : v_ln 183 = 360) c121)) ?_
              refine s_ek_bk 2 (P := 187) (ls' := [(7, .int (((60 : Int32) * p1) + (Int64.toInt32 ((Int32.toInt64 p2) + (Int32.toInt64 ((6 : Int32) * v4)))))), (5, .long ((Int32.toInt64 p2) + (Int32.toInt64 ((6 : Int32) * v4)))), (0, .ref 151), (1, .int p1), (2, .int p2), (3, .int p3), (4, .int v4)]) (st' := [.ref 151, .int (Int64.toInt32 (s119.2 183 (Int32.toNatClampNeg ((((60 : Int32) * p1) + (Int64.toInt32 ((Int32.toInt64 p2) + (Int32.toInt64 ((6 : Int32) * v4))))) + (1 : Int32))))), .int (Int64.toInt32 (s119.2 183 (Int32.toNatClampNeg (((60 : Int32) * p1) + (Int64.toInt32 ((Int32.toInt64 p2) + (Int32.toInt64 ((6 : Int32) * v4)))))))), .ref 151]) (M' := v_mk s119) rfl ?_
              refine v_gf rfl (v_gr (rfl : v_kd 151 = 11) (rfl : v_sl 151 48 = .ref 183) ⟨rfl, rfl, by decide⟩) ?_
              refine s_ek_bk 3 (P := 194) (ls' := [(7, .int (((60 : Int32) * p1) + (Int64.toInt32 ((Int32.toInt64 p2) + (Int32.toInt64 ((6 : Int32) * v4)))))), (5, .long ((Int32.toInt64 p2) + (Int32.toInt64 ((6 : Int32) * v4)))), (0, .ref 151), (1, .int p1), (2, .int p2), (3, .int p3), (4, .int v4)]) (st' := [.int ((((60 : Int32) * p1) + (Int64.toInt32 ((Int32.toInt64 p2) + (Int32.toInt64 ((6 : Int32) * v4))))) + (2 : Int32)), .ref 183, .int (Int64.toInt32 (s119.2 183 (Int32.toNatClampNeg ((((60 : Int32) * p1) + (Int64.toInt32 ((Int32.toInt64 p2) + (Int32.toInt64 ((6 : Int32) * v4))))) + (1 : Int32))))), .int (Int64.toInt32 (s119.2 183 (Int32.toNatClampNeg (((60 : Int32) * p1) + (Int64.toInt32 ((Int32.toInt64 p2) + (Int32.toInt64 ((6 : Int32) * v4)))))))), .ref 151]) (M' := v_mk s119) rfl ?_
              obtain ⟨c122, h⟩ := v_ck h
              refine v_la (i := ((((60 : Int32) * p1) + (Int64.toInt32 ((Int32.toInt64 p2) + (Int32.toInt64 ((6 : Int32) * v4))))) + (2 : Int32))) rfl (v_al (rfl : v_kd 183 = 14) rfl (by decide) v_all14 (v_cn (rfl : v_ln 183 = 360) c122)) ?_
              refine s_ek_bk 1 (P := 196) (ls' := [(7, .int (((60 : Int32) * p1) + (Int64.toInt32 ((Int32.toInt64 p2) + (Int32.toInt64 ((6 : Int32) * v4)))))), (5, .long ((Int32.toInt64 p2) + (Int32.toInt64 ((6 : Int32) * v4)))), (0, .ref 151), (1, .int p1), (2, .int p2), (3, .int p3), (4, .int v4)]) (st' := [.int (Int64.toInt32 (s119.2 183 (Int32.toNatClampNeg ((((60 : Int32) * p1) + (Int64.toInt32 ((Int32.toInt64 p2) + (Int32.toInt64 ((6 : Int32) * v4))))) + (2 : Int32))))), .int (Int64.toInt32 (s119.2 183 (Int32.toNatClampNeg ((((60 : Int32) * p1) + (Int64.toInt32 ((Int32.toInt64 p2) + (Int32.toInt64 ((6 : Int32) * v4))))) + (1 : Int32))))), .int (Int64.toInt32 (s119.2 183 (Int32.toNatClampNeg (((60 : Int32) * p1) + (Int64.toInt32 ((Int32.toInt64 p2) + (Int32.toInt64 ((6 : Int32) * v4)))))))), .ref 151]) (M' := v_mk s119) rfl ?_
              obtain ⟨r123, s123, e123, h⟩ := v_bd h
              refine v_cV (ν := s_e203.1) (w := 1627) (a := 151) (as' := [.int (Int64.toInt32 (s119.2 183 (Int32.toNatClampNeg (((60 : Int32) * p1) + (Int64.toInt32 ((Int32.toInt64 p2) + (Int32.toInt64 ((6 : Int32) * v4)))))))), .int (Int64.toInt32 (s119.2 183 (Int32.toNatClampNeg ((((60 : Int32) * p1) + (Int64.toInt32 ((Int32.toInt64 p2) + (Int32.toInt64 ((6 : Int32) * v4))))) + (1 : Int32))))), .int (Int64.toInt32 (s119.2 183 (Int32.toNatClampNeg ((((60 : Int32) * p1) + (Int64.toInt32 ((Int32.toInt64 p2) + (Int32.toInt64 ((6 : Int32) * v4))))) + (2 : Int32)))))]) (r := []) (o := some (.int r123)) (by omega) rfl rfl rfl (v_mk_kd (k := 11) (rfl : v_kd 151 = 11) (by decide)) rfl (t_Md_addLaw e123 (by omega)) ?_
              show s_Ek (s_rows 3 L xs) D s_e207.1 199 [(7, .int (((60 : Int32) * p1) + (Int64.toInt32 ((Int32.toInt64 p2) + (Int32.toInt64 ((6 : Int32) * v4)))))), (5, .long ((Int32.toInt64 p2) + (Int32.toInt64 ((6 : Int32) * v4)))), (0, .ref 151), (1, .int p1), (2, .int p2), (3, .int p3), (4, .int v4)] [.int r123] (v_mk s123) _
              refine s_ek_bk 3 (P := 58) (ls' := [(4, .int (v4 + 1)), (7, .int (((60 : Int32) * p1) + (Int64.toInt32 ((Int32.toInt64 p2) + (Int32.toInt64 ((6 : Int32) * v4)))))), (5, .long ((Int32.toInt64 p2) + (Int32.toInt64 ((6 : Int32) * v4)))), (0, .ref 151), (1, .int p1), (2, .int p2), (3, .int p3)]) (st' := []) (M' := v_mk s123) rfl ?_
              refine v_ls (ls' := [(0, .ref 151), (1, .int p1), (2, .int p2), (3, .int p3), (4, .int (v4 + 1))]) ⟨rfl, rfl, rfl, rfl, rfl, trivial⟩ (show ([0, 1, 2, 3, 4] : List Nat).Nodup from by decide) ?_
              exact ih _ _ h
set_option maxRecDepth 20000 in
set_option maxHeartbeats 4000000 in
theorem t_Md_laws {L : Nat} {xs : Nat → Int32} {b : Int32} {c : Int32} {d : Int32} {D : Nat} {r : Int32} {s s' : vS} (h : f_Md_laws b c d s = some (r, s')) (hD : 393 ≤ D) : s_Ek (s_rows 3 L xs) D s_e207.1 0 (lv_args 0 [.ref 151, .int b, .int c, .int d]) [] (v_mk s) (v_Q (some (.int r)) s') := by
  unfold f_Md_laws at h
  show s_Ek (s_rows 3 L xs) D s_e207.1 0 [(0, .ref 151), (1, .int b), (2, .int c), (3, .int d)] [] (v_mk s) _
  refine s_ek_bk 1 (P := 1) (ls' := [(0, .ref 151), (1, .int b), (2, .int c), (3, .int d)]) (st' := [.int b]) (M' := v_mk s) rfl ?_
  obtain ⟨r1, s1, e1, h⟩ := v_bd h
  refine v_cS (ν := s_e281.1) (w := 2249) (as := [.int b]) (r := []) (o := some (.int r1)) (by omega) rfl rfl rfl rfl (t_Md_isShelf e1 (by omega)) ?_
  show s_Ek (s_rows 3 L xs) D s_e207.1 4 [(0, .ref 151), (1, .int b), (2, .int c), (3, .int d)] [.int r1] (v_mk s1) _
  rcases v_if h with ⟨c2, h⟩ | ⟨c2, h⟩
  · refine v_i1t (T := 17) rfl rfl c2 ?_
    refine s_ek_bk 1 (P := 18) (ls' := [(0, .ref 151), (1, .int b), (2, .int c), (3, .int d)]) (st' := [.int (-1)]) (M' := v_mk s1) rfl ?_
    obtain ⟨rfl, rfl⟩ := v_so h
    exact v_ret (fun _ => rfl)
  · refine v_i1f (T := 17) rfl rfl c2 ?_
    refine s_ek_bk 3 (P := 11) (ls' := [(0, .ref 151), (1, .int b), (2, .int c), (3, .int d)]) (st' := [.int 10, .int 1, .int d]) (M' := v_mk s1) rfl ?_
    obtain ⟨r3, s3, e3, h⟩ := v_bd h
    refine v_cS (ν := s_e181.1) (w := 1451) (as := [.int d, .int 1, .int 10]) (r := []) (o := some (.int r3)) (by omega) rfl rfl rfl rfl (t_Md_in e3 (by omega)) ?_
    show s_Ek (s_rows 3 L xs) D s_e207.1 14 [(0, .ref 151), (1, .int b), (2, .int c), (3, .int d)] [.int r3] (v_mk s3) _
    rcases v_if h with ⟨c4, h⟩ | ⟨c4, h⟩
    · refine v_i1f (T := 19) rfl rfl (fun q => q c4) ?_
      refine s_ek_bk 1 (P := 18) (ls' := [(0, .ref 151), (1, .int b), (2, .int c), (3, .int d)]) (st' := [.int (-1)]) (M' := v_mk s3) rfl ?_
      obtain ⟨rfl, rfl⟩ := v_so h
      exact v_ret (fun _ => rfl)
    · refine v_i1t (T := 19) rfl rfl c4 ?_
      refine s_ek_bk 1 (P := 20) (ls' := [(0, .ref 151), (1, .int b), (2, .int c), (3, .int d)]) (st' := [.ref 151]) (M' := v_mk s3) rfl ?_
      refine v_gf rfl (v_gr (rfl : v_kd 151 = 11) (rfl : v_sl 151 46 = .ref 181) ⟨rfl, rfl, by decide⟩) ?_
      refine s_ek_bk 1 (P := 24) (ls' := [(0, .ref 151), (1, .int b), (2, .int c), (3, .int d)]) (st' := [.int b, .ref 181]) (M' := v_mk s3) rfl ?_
      obtain ⟨c5, h⟩ := v_ck h
      refine v_ia (i := b) rfl (v_ai (rfl : v_kd 181 = 13) rfl (by decide) v_all13 (v_cn (rfl : v_ln 181 = 6) c5)) ?_
      refine s_ek_bk 1 (P := 26) (ls' := [(0, .ref 151), (1, .int b), (2, .int c), (3, .int d)]) (st' := [.int (-1), .int (s3.1 181 (Int32.toNatClampNeg b))]) (M' := v_mk s3) rfl ?_
      rcases v_if h with ⟨c6, h⟩ | ⟨c6, h⟩
      · refine v_i2t (T := 43) rfl rfl c6 ?_
        refine s_ek_bk 1 (P := 44) (ls' := [(0, .ref 151), (1, .int b), (2, .int c), (3, .int d)]) (st' := [.ref 151]) (M' := v_mk s3) rfl ?_
        refine v_gf rfl (v_gr (rfl : v_kd 151 = 11) (rfl : v_sl 151 46 = .ref 181) ⟨rfl, rfl, by decide⟩) ?_
        refine s_ek_bk 1 (P := 48) (ls' := [(0, .ref 151), (1, .int b), (2, .int c), (3, .int d)]) (st' := [.int b, .ref 181]) (M' := v_mk s3) rfl ?_
        obtain ⟨c7, h⟩ := v_ck h
        refine v_ia (i := b) rfl (v_ai (rfl : v_kd 181 = 13) rfl (by decide) v_all13 (v_cn (rfl : v_ln 181 = 6) c7)) ?_
        refine s_ek_bk 1 (P := 50) (ls' := [(0, .ref 151), (1, .int b), (2, .int c), (3, .int d)]) (st' := [.int (-1), .int (s3.1 181 (Int32.toNatClampNeg b))]) (M' := v_mk s3) rfl ?_
        rcases v_if h with ⟨c8, h⟩ | ⟨c8, h⟩
        · refine v_i2f (T := 55) rfl rfl (fun q => q c8) ?_
          refine s_ek_bk 1 (P := 54) (ls' := [(0, .ref 151), (1, .int b), (2, .int c), (3, .int d)]) (st' := [.int 0]) (M' := v_mk s3) rfl ?_
          obtain ⟨rfl, rfl⟩ := v_so h
          exact v_ret (fun _ => rfl)
        · refine v_i2t (T := 55) rfl rfl c8 ?_
          refine s_ek_bk 2 (P := 58) (ls' := [(4, .int 0), (0, .ref 151), (1, .int b), (2, .int c), (3, .int d)]) (st' := []) (M' := v_mk s3) rfl ?_
          refine v_ls (ls' := [(0, .ref 151), (1, .int b), (2, .int c), (3, .int d), (4, .int 0)]) ⟨rfl, rfl, rfl, rfl, rfl, trivial⟩ (show ([0, 1, 2, 3, 4] : List Nat).Nodup from by decide) ?_
          refine t_Md_laws_L58 (by omega) (fun w9 s10 h => ?_) (fun s11 h => ?_) 4096 _ _ h
          · show s_Ek (s_rows 3 L xs) D s_e207.1 108 [(4, .int w9)] [] (v_mk s10) _
            refine s_ek_bk 1 (P := 110) (ls' := [(4, .int w9)]) (st' := [.int w9]) (M' := v_mk s10) rfl ?_
            obtain ⟨rfl, rfl⟩ := v_so h
            exact v_ret (fun _ => rfl)
          · show s_Ek (s_rows 3 L xs) D s_e207.1 206 [(3, .int d)] [] (v_mk s11) _
            refine s_ek_bk 1 (P := 207) (ls' := [(3, .int d)]) (st' := [.int d]) (M' := v_mk s11) rfl ?_
            obtain ⟨rfl, rfl⟩ := v_so h
            exact v_ret (fun _ => rfl)
      · refine v_i2f (T := 43) rfl rfl c6 ?_
        refine s_ek_bk 1 (P := 30) (ls' := [(0, .ref 151), (1, .int b), (2, .int c), (3, .int d)]) (st' := [.ref 151]) (M' := v_mk s3) rfl ?_
        refine v_gf rfl (v_gr (rfl : v_kd 151 = 11) (rfl : v_sl 151 46 = .ref 181) ⟨rfl, rfl, by decide⟩) ?_
        refine s_ek_bk 1 (P := 34) (ls' := [(0, .ref 151), (1, .int b), (2, .int c), (3, .int d)]) (st' := [.int b, .ref 181]) (M' := v_mk s3) rfl ?_
        obtain ⟨c12, h⟩ := v_ck h
        refine v_ia (i := b) rfl (v_ai (rfl : v_kd 181 = 13) rfl (by decide) v_all13 (v_cn (rfl : v_ln 181 = 6) c12)) ?_
        refine s_ek_bk 1 (P := 37) (ls' := [(0, .ref 151), (1, .int b), (2, .int c), (3, .int d)]) (st' := [.int (-2), .int (s3.1 181 (Int32.toNatClampNeg b))]) (M' := v_mk s3) rfl ?_
        rcases v_if h with ⟨c13, h⟩ | ⟨c13, h⟩
        · refine v_i2t (T := 43) rfl rfl c13 ?_
          refine s_ek_bk 1 (P := 44) (ls' := [(0, .ref 151), (1, .int b), (2, .int c), (3, .int d)]) (st' := [.ref 151]) (M' := v_mk s3) rfl ?_
          refine v_gf rfl (v_gr (rfl : v_kd 151 = 11) (rfl : v_sl 151 46 = .ref 181) ⟨rfl, rfl, by decide⟩) ?_
          refine s_ek_bk 1 (P := 48) (ls' := [(0, .ref 151), (1, .int b), (2, .int c), (3, .int d)]) (st' := [.int b, .ref 181]) (M' := v_mk s3) rfl ?_
          obtain ⟨c14, h⟩ := v_ck h
          refine v_ia (i := b) rfl (v_ai (rfl : v_kd 181 = 13) rfl (by decide) v_all13 (v_cn (rfl : v_ln 181 = 6) c14)) ?_
          refine s_ek_bk 1 (P := 50) (ls' := [(0, .ref 151), (1, .int b), (2, .int c), (3, .int d)]) (st' := [.int (-1), .int (s3.1 181 (Int32.toNatClampNeg b))]) (M' := v_mk s3) rfl ?_
          rcases v_if h with ⟨c15, h⟩ | ⟨c15, h⟩
          · refine v_i2f (T := 55) rfl rfl (fun q => q c15) ?_
            refine s_ek_bk 1 (P := 54) (ls' := [(0, .ref 151), (1, .int b), (2, .int c), (3, .int d)]) (st' := [.int 0]) (M' := v_mk s3) rfl ?_
            obtain ⟨rfl, rfl⟩ := v_so h
            exact v_ret (fun _ => rfl)
          · refine v_i2t (T := 55) rfl rfl c15 ?_
            refine s_ek_bk 2 (P := 58) (ls' := [(4, .int 0), (0, .ref 151), (1, .int b), (2, .int c), (3, .int d)]) (st' := []) (M' := v_mk s3) rfl ?_
            refine v_ls (ls' := [(0, .ref 151), (1, .int b), (2, .int c), (3, .int d), (4, .int 0)]) ⟨rfl, rfl, rfl, rfl, rfl, trivial⟩ (show ([0, 1, 2, 3, 4] : List Nat).Nodup from by decide) ?_
            refine t_Md_laws_L58 (by omega) (fun w16 s17 h => ?_) (fun s18 h => ?_) 4096 _ _ h
            · show s_Ek (s_rows 3 L xs) D s_e207.1 108 [(4, .int w16)] [] (v_mk s17) _
              refine s_ek_bk 1 (P := 110) (ls' := [(4, .int w16)]) (st' := [.int w16]) (M' := v_mk s17) rfl ?_
              obtain ⟨rfl, rfl⟩ := v_so h
              exact v_ret (fun _ => rfl)
            · show s_Ek (s_rows 3 L xs) D s_e207.1 206 [(3, .int d)] [] (v_mk s18) _
              refine s_ek_bk 1 (P := 207) (ls' := [(3, .int d)]) (st' := [.int d]) (M' := v_mk s18) rfl ?_
              obtain ⟨rfl, rfl⟩ := v_so h
              exact v_ret (fun _ => rfl)
        · refine v_i2f (T := 43) rfl rfl c13 ?_
          refine s_ek_bk 1 (P := 42) (ls' := [(0, .ref 151), (1, .int b), (2, .int c), (3, .int d)]) (st' := [.int (-12)]) (M' := v_mk s3) rfl ?_
          obtain ⟨rfl, rfl⟩ := v_so h
          exact v_ret (fun _ => rfl)
noncomputable def f_Md_valueAt (b : Int32) (c : Int32) (s : vS) : Option (Int32 × vS) := (if b.toInt = 0 then (if v_in c 11 then (some ((s.1 160 (Int32.toNatClampNeg c)), s)) else none) else (if b.toInt = 1 then (if v_in c 11 then (some ((s.1 161 (Int32.toNatClampNeg c)), s)) else none) else (if b.toInt = 2 then (if v_in c 11 then (some ((s.1 162 (Int32.toNatClampNeg c)), s)) else none) else (if b.toInt = 3 then (some ((s.1 151 18), s)) else (some ((s.1 151 19), s))))))
set_option maxRecDepth 20000 in
set_option maxHeartbeats 4000000 in
theorem t_Md_valueAt {L : Nat} {xs : Nat → Int32} {b : Int32} {c : Int32} {D : Nat} {r : Int32} {s s' : vS} (h : f_Md_valueAt b c s = some (r, s')) (hD : 0 ≤ D) : s_Ek (s_rows 3 L xs) D s_e208.1 0 (lv_args 0 [.ref 151, .int b, .int c]) [] (v_mk s) (v_Q (some (.int r)) s') := by
  unfold f_Md_valueAt at h
  show s_Ek (s_rows 3 L xs) D s_e208.1 0 [(0, .ref 151), (1, .int b), (2, .int c)] [] (v_mk s) _
  refine s_ek_bk 1 (P := 1) (ls' := [(0, .ref 151), (1, .int b), (2, .int c)]) (st' := [.int b]) (M' := v_mk s) rfl ?_
  rcases v_if h with ⟨c1, h⟩ | ⟨c1, h⟩
  · refine v_i1f (T := 13) rfl rfl (fun q => q c1) ?_
    refine s_ek_bk 1 (P := 5) (ls' := [(0, .ref 151), (1, .int b), (2, .int c)]) (st' := [.ref 151]) (M' := v_mk s) rfl ?_
    refine v_gf rfl (v_gr (rfl : v_kd 151 = 11) (rfl : v_sl 151 15 = .ref 160) ⟨rfl, rfl, by decide⟩) ?_
    refine s_ek_bk 1 (P := 9) (ls' := [(0, .ref 151), (1, .int b), (2, .int c)]) (st' := [.int c, .ref 160]) (M' := v_mk s) rfl ?_
    obtain ⟨c2, h⟩ := v_ck h
    refine v_ia (i := c) rfl (v_ai (rfl : v_kd 160 = 13) rfl (by decide) v_all13 (v_cn (rfl : v_ln 160 = 11) c2)) ?_
    refine s_ek_bk 1 (P := 57) (ls' := [(0, .ref 151), (1, .int b), (2, .int c)]) (st' := [.int (s.1 160 (Int32.toNatClampNeg c))]) (M' := v_mk s) rfl ?_
    obtain ⟨rfl, rfl⟩ := v_so h
    exact v_ret (fun _ => rfl)
  · refine v_i1t (T := 13) rfl rfl c1 ?_
    refine s_ek_bk 2 (P := 15) (ls' := [(0, .ref 151), (1, .int b), (2, .int c)]) (st' := [.int 1, .int b]) (M' := v_mk s) rfl ?_
    rcases v_if h with ⟨c3, h⟩ | ⟨c3, h⟩
    · refine v_i2f (T := 27) rfl rfl (fun q => q c3) ?_
      refine s_ek_bk 1 (P := 19) (ls' := [(0, .ref 151), (1, .int b), (2, .int c)]) (st' := [.ref 151]) (M' := v_mk s) rfl ?_
      refine v_gf rfl (v_gr (rfl : v_kd 151 = 11) (rfl : v_sl 151 16 = .ref 161) ⟨rfl, rfl, by decide⟩) ?_
      refine s_ek_bk 1 (P := 23) (ls' := [(0, .ref 151), (1, .int b), (2, .int c)]) (st' := [.int c, .ref 161]) (M' := v_mk s) rfl ?_
      obtain ⟨c4, h⟩ := v_ck h
      refine v_ia (i := c) rfl (v_ai (rfl : v_kd 161 = 13) rfl (by decide) v_all13 (v_cn (rfl : v_ln 161 = 11) c4)) ?_
      refine s_ek_bk 1 (P := 57) (ls' := [(0, .ref 151), (1, .int b), (2, .int c)]) (st' := [.int (s.1 161 (Int32.toNatClampNeg c))]) (M' := v_mk s) rfl ?_
      obtain ⟨rfl, rfl⟩ := v_so h
      exact v_ret (fun _ => rfl)
    · refine v_i2t (T := 27) rfl rfl c3 ?_
      refine s_ek_bk 2 (P := 29) (ls' := [(0, .ref 151), (1, .int b), (2, .int c)]) (st' := [.int 2, .int b]) (M' := v_mk s) rfl ?_
      rcases v_if h with ⟨c5, h⟩ | ⟨c5, h⟩
      · refine v_i2f (T := 41) rfl rfl (fun q => q c5) ?_
        refine s_ek_bk 1 (P := 33) (ls' := [(0, .ref 151), (1, .int b), (2, .int c)]) (st' := [.ref 151]) (M' := v_mk s) rfl ?_
        refine v_gf rfl (v_gr (rfl : v_kd 151 = 11) (rfl : v_sl 151 17 = .ref 162) ⟨rfl, rfl, by decide⟩) ?_
        refine s_ek_bk 1 (P := 37) (ls' := [(0, .ref 151), (1, .int b), (2, .int c)]) (st' := [.int c, .ref 162]) (M' := v_mk s) rfl ?_
        obtain ⟨c6, h⟩ := v_ck h
        refine v_ia (i := c) rfl (v_ai (rfl : v_kd 162 = 13) rfl (by decide) v_all13 (v_cn (rfl : v_ln 162 = 11) c6)) ?_
        refine s_ek_bk 1 (P := 57) (ls' := [(0, .ref 151), (1, .int b), (2, .int c)]) (st' := [.int (s.1 162 (Int32.toNatClampNeg c))]) (M' := v_mk s) rfl ?_
        obtain ⟨rfl, rfl⟩ := v_so h
        exact v_ret (fun _ => rfl)
      · refine v_i2t (T := 41) rfl rfl c5 ?_
        refine s_ek_bk 2 (P := 43) (ls' := [(0, .ref 151), (1, .int b), (2, .int c)]) (st' := [.int 3, .int b]) (M' := v_mk s) rfl ?_
        rcases v_if h with ⟨c7, h⟩ | ⟨c7, h⟩
        · refine v_i2f (T := 53) rfl rfl (fun q => q c7) ?_
          refine s_ek_bk 1 (P := 47) (ls' := [(0, .ref 151), (1, .int b), (2, .int c)]) (st' := [.ref 151]) (M' := v_mk s) rfl ?_
          refine v_gf rfl (v_gi (rfl : v_kd 151 = 11) rfl ⟨rfl, rfl, by decide⟩) ?_
          refine s_ek_bk 1 (P := 57) (ls' := [(0, .ref 151), (1, .int b), (2, .int c)]) (st' := [.int (s.1 151 18)]) (M' := v_mk s) rfl ?_
          obtain ⟨rfl, rfl⟩ := v_so h
          exact v_ret (fun _ => rfl)
        · refine v_i2t (T := 53) rfl rfl c7 ?_
          refine s_ek_bk 1 (P := 54) (ls' := [(0, .ref 151), (1, .int b), (2, .int c)]) (st' := [.ref 151]) (M' := v_mk s) rfl ?_
          refine v_gf rfl (v_gi (rfl : v_kd 151 = 11) rfl ⟨rfl, rfl, by decide⟩) ?_
          obtain ⟨rfl, rfl⟩ := v_so h
          exact v_ret (fun _ => rfl)
noncomputable def f_Md_lays (b : Int32) (c : Int32) (d : Int32) (s : vS) : Option (Unit × vS) := (if b.toInt = 0 then (if v_in c 11 then (v_let (v_w1 s 160 (Int32.toNatClampNeg c) d) (fun s3 => (some ((), s3)))) else none) else (if b.toInt = 1 then (if v_in c 11 then (v_let (v_w1 s 161 (Int32.toNatClampNeg c) d) (fun s6 => (some ((), s6)))) else none) else (if b.toInt = 2 then (if v_in c 11 then (v_let (v_w1 s 162 (Int32.toNatClampNeg c) d) (fun s9 => (some ((), s9)))) else none) else (if b.toInt = 3 then (v_let (v_w1 s 151 18 d) (fun s11 => (some ((), s11)))) else (v_let (v_w1 s 151 19 d) (fun s12 => (some ((), s12))))))))
set_option maxRecDepth 20000 in
set_option maxHeartbeats 4000000 in
theorem t_Md_lays {L : Nat} {xs : Nat → Int32} {b : Int32} {c : Int32} {d : Int32} {D : Nat} {r : Unit} {s s' : vS} (h : f_Md_lays b c d s = some (r, s')) (hD : 0 ≤ D) : s_Ek (s_rows 3 L xs) D s_e209.1 0 (lv_args 0 [.ref 151, .int b, .int c, .int d]) [] (v_mk s) (v_Q none s') := by
  unfold f_Md_lays at h
  show s_Ek (s_rows 3 L xs) D s_e209.1 0 [(0, .ref 151), (1, .int b), (2, .int c), (3, .int d)] [] (v_mk s) _
  refine s_ek_bk 1 (P := 1) (ls' := [(0, .ref 151), (1, .int b), (2, .int c), (3, .int d)]) (st' := [.int b]) (M' := v_mk s) rfl ?_
  rcases v_if h with ⟨c1, h⟩ | ⟨c1, h⟩
  · refine v_i1f (T := 14) rfl rfl (fun q => q c1) ?_
    refine s_ek_bk 1 (P := 5) (ls' := [(0, .ref 151), (1, .int b), (2, .int c), (3, .int d)]) (st' := [.ref 151]) (M' := v_mk s) rfl ?_
    refine v_gf rfl (v_gr (rfl : v_kd 151 = 11) (rfl : v_sl 151 15 = .ref 160) ⟨rfl, rfl, by decide⟩) ?_
    refine s_ek_bk 2 (P := 10) (ls' := [(0, .ref 151), (1, .int b), (2, .int c), (3, .int d)]) (st' := [.int d, .int c, .ref 160]) (M' := v_mk s) rfl ?_
    obtain ⟨c2, h⟩ := v_ck h
    obtain ⟨s3, es3, h⟩ := v_ld h
    refine v_ist (M' := v_mk s3) (i := c) rfl (by rw [es3]; exact v_pai (rfl : v_kd 160 = 13) rfl (by decide) v_all13 (v_cn (rfl : v_ln 160 = 11) c2)) ?_
    refine s_ek_bk 1 (P := 62) (ls' := [(0, .ref 151), (1, .int b), (2, .int c), (3, .int d)]) (st' := []) (M' := v_mk s3) rfl ?_
    obtain ⟨rfl, rfl⟩ := v_so h
    exact v_ret (fun _ => rfl)
  · refine v_i1t (T := 14) rfl rfl c1 ?_
    refine s_ek_bk 2 (P := 16) (ls' := [(0, .ref 151), (1, .int b), (2, .int c), (3, .int d)]) (st' := [.int 1, .int b]) (M' := v_mk s) rfl ?_
    rcases v_if h with ⟨c4, h⟩ | ⟨c4, h⟩
    · refine v_i2f (T := 29) rfl rfl (fun q => q c4) ?_
      refine s_ek_bk 1 (P := 20) (ls' := [(0, .ref 151), (1, .int b), (2, .int c), (3, .int d)]) (st' := [.ref 151]) (M' := v_mk s) rfl ?_
      refine v_gf rfl (v_gr (rfl : v_kd 151 = 11) (rfl : v_sl 151 16 = .ref 161) ⟨rfl, rfl, by decide⟩) ?_
      refine s_ek_bk 2 (P := 25) (ls' := [(0, .ref 151), (1, .int b), (2, .int c), (3, .int d)]) (st' := [.int d, .int c, .ref 161]) (M' := v_mk s) rfl ?_
      obtain ⟨c5, h⟩ := v_ck h
      obtain ⟨s6, es6, h⟩ := v_ld h
      refine v_ist (M' := v_mk s6) (i := c) rfl (by rw [es6]; exact v_pai (rfl : v_kd 161 = 13) rfl (by decide) v_all13 (v_cn (rfl : v_ln 161 = 11) c5)) ?_
      refine s_ek_bk 1 (P := 62) (ls' := [(0, .ref 151), (1, .int b), (2, .int c), (3, .int d)]) (st' := []) (M' := v_mk s6) rfl ?_
      obtain ⟨rfl, rfl⟩ := v_so h
      exact v_ret (fun _ => rfl)
    · refine v_i2t (T := 29) rfl rfl c4 ?_
      refine s_ek_bk 2 (P := 31) (ls' := [(0, .ref 151), (1, .int b), (2, .int c), (3, .int d)]) (st' := [.int 2, .int b]) (M' := v_mk s) rfl ?_
      rcases v_if h with ⟨c7, h⟩ | ⟨c7, h⟩
      · refine v_i2f (T := 44) rfl rfl (fun q => q c7) ?_
        refine s_ek_bk 1 (P := 35) (ls' := [(0, .ref 151), (1, .int b), (2, .int c), (3, .int d)]) (st' := [.ref 151]) (M' := v_mk s) rfl ?_
        refine v_gf rfl (v_gr (rfl : v_kd 151 = 11) (rfl : v_sl 151 17 = .ref 162) ⟨rfl, rfl, by decide⟩) ?_
        refine s_ek_bk 2 (P := 40) (ls' := [(0, .ref 151), (1, .int b), (2, .int c), (3, .int d)]) (st' := [.int d, .int c, .ref 162]) (M' := v_mk s) rfl ?_
        obtain ⟨c8, h⟩ := v_ck h
        obtain ⟨s9, es9, h⟩ := v_ld h
        refine v_ist (M' := v_mk s9) (i := c) rfl (by rw [es9]; exact v_pai (rfl : v_kd 162 = 13) rfl (by decide) v_all13 (v_cn (rfl : v_ln 162 = 11) c8)) ?_
        refine s_ek_bk 1 (P := 62) (ls' := [(0, .ref 151), (1, .int b), (2, .int c), (3, .int d)]) (st' := []) (M' := v_mk s9) rfl ?_
        obtain ⟨rfl, rfl⟩ := v_so h
        exact v_ret (fun _ => rfl)
      · refine v_i2t (T := 44) rfl rfl c7 ?_
        refine s_ek_bk 2 (P := 46) (ls' := [(0, .ref 151), (1, .int b), (2, .int c), (3, .int d)]) (st' := [.int 3, .int b]) (M' := v_mk s) rfl ?_
        rcases v_if h with ⟨c10, h⟩ | ⟨c10, h⟩
        · refine v_i2f (T := 57) rfl rfl (fun q => q c10) ?_
          refine s_ek_bk 2 (P := 51) (ls' := [(0, .ref 151), (1, .int b), (2, .int c), (3, .int d)]) (st' := [.int d, .ref 151]) (M' := v_mk s) rfl ?_
          obtain ⟨s11, es11, h⟩ := v_ld h
          refine v_pf (M' := v_mk s11) rfl (by rw [es11]; exact v_pi (rfl : v_kd 151 = 11) rfl ⟨rfl, rfl, by decide⟩ rfl) ?_
          refine s_ek_bk 1 (P := 62) (ls' := [(0, .ref 151), (1, .int b), (2, .int c), (3, .int d)]) (st' := []) (M' := v_mk s11) rfl ?_
          obtain ⟨rfl, rfl⟩ := v_so h
          exact v_ret (fun _ => rfl)
        · refine v_i2t (T := 57) rfl rfl c10 ?_
          refine s_ek_bk 2 (P := 59) (ls' := [(0, .ref 151), (1, .int b), (2, .int c), (3, .int d)]) (st' := [.int d, .ref 151]) (M' := v_mk s) rfl ?_
          obtain ⟨s12, es12, h⟩ := v_ld h
          refine v_pf (M' := v_mk s12) rfl (by rw [es12]; exact v_pi (rfl : v_kd 151 = 11) rfl ⟨rfl, rfl, by decide⟩ rfl) ?_
          obtain ⟨rfl, rfl⟩ := v_so h
          exact v_ret (fun _ => rfl)
