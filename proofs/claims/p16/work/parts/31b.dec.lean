/-! functions over the store, and the runs that they stand for: Cl_own Cl_note Cl_codeOf Cl_atTop Cl_changed Cl_from Cl_perform Ct_knows Ct_at Ct_numbers Tx_copyFrom Ct_admit Ct_valueOf Ct_set Ct_isThere Ct_there Lw_isOlderThan Ct_sortByAge Ct_standWithout Tx_valueAt Tx_named Tx_bit Tx_alone -/
noncomputable def f_Cl_own (rec : Int32 → Int32 → Int32 → Int32 → Int32 → vS → Option (Int32 × vS)) (b : Int32) (c : Int32) (d : Int32) (e : Int32) (s : vS) : Option (Int32 × vS) := (v_bi (f_Cl_kindOf b s) (fun r1 s1 => (v_bi (rec r1 b c d e s1) (fun r2 s2 => (some (r2, s2))))))
set_option maxRecDepth 20000 in
set_option maxHeartbeats 4000000 in
theorem t_Cl_own {L : Nat} {xs : Nat → Int32} {H : Nat} {rec : Int32 → Int32 → Int32 → Int32 → Int32 → vS → Option (Int32 × vS)} (hrec : ∀ {D : Nat} {b : Int32} {c : Int32} {d : Int32} {e : Int32} {f : Int32} {r : Int32} {s s' : vS}, H ≤ D → rec b c d e f s = some (r, s') → s_Ek (s_rows 3 L xs) D s_e36.1 0 (lv_args 0 [.ref 132, .int b, .int c, .int d, .int e, .int f]) [] (v_mk s) (v_Q (some (.int r)) s')) {b : Int32} {c : Int32} {d : Int32} {e : Int32} {D : Nat} {r : Int32} {s s' : vS} (h : f_Cl_own rec b c d e s = some (r, s')) (hD : H + 1 ≤ D) : s_Ek (s_rows 3 L xs) D s_e35.1 0 (lv_args 0 [.ref 132, .int b, .int c, .int d, .int e]) [] (v_mk s) (v_Q (some (.int r)) s') := by
  unfold f_Cl_own at h
  show s_Ek (s_rows 3 L xs) D s_e35.1 0 [(0, .ref 132), (1, .int b), (2, .int c), (3, .int d), (4, .int e)] [] (v_mk s) _
  refine s_ek_bk 3 (P := 3) (ls' := [(0, .ref 132), (1, .int b), (2, .int c), (3, .int d), (4, .int e)]) (st' := [.int b, .ref 132, .ref 132]) (M' := v_mk s) rfl ?_
  obtain ⟨r1, s1, e1, h⟩ := v_bd h
  refine v_cV (ν := s_e30.1) (w := 241) (a := 132) (as' := [.int b]) (r := [.ref 132]) (o := some (.int r1)) (by omega) rfl rfl rfl (v_mk_kd (k := 2) (rfl : v_kd 132 = 2) (by decide)) rfl (t_Cl_kindOf e1 (by omega)) ?_
  show s_Ek (s_rows 3 L xs) D s_e35.1 6 [(0, .ref 132), (1, .int b), (2, .int c), (3, .int d), (4, .int e)] [.int r1, .ref 132] (v_mk s1) _
  refine s_ek_bk 4 (P := 11) (ls' := [(0, .ref 132), (1, .int b), (2, .int c), (3, .int d), (4, .int e)]) (st' := [.int e, .int d, .int c, .int b, .int r1, .ref 132]) (M' := v_mk s1) rfl ?_
  obtain ⟨r2, s2, e2, h⟩ := v_bd h
  refine v_cV (ν := s_e36.1) (w := 293) (a := 132) (as' := [.int r1, .int b, .int c, .int d, .int e]) (r := []) (o := some (.int r2)) (by omega) rfl rfl rfl (v_mk_kd (k := 2) (rfl : v_kd 132 = 2) (by decide)) rfl (hrec (by omega) e2) ?_
  show s_Ek (s_rows 3 L xs) D s_e35.1 14 [(0, .ref 132), (1, .int b), (2, .int c), (3, .int d), (4, .int e)] [.int r2] (v_mk s2) _
  obtain ⟨rfl, rfl⟩ := v_so h
  exact v_ret (fun _ => rfl)
noncomputable def f_Cl_note (b : Int32) (s : vS) : Option (Unit × vS) := (if (s.1 132 1).toInt < 0 then (v_let (v_w1 s 132 1 ((s.1 132 1) + (1 : Int32))) (fun s2 => (some ((), s2)))) else (if 24 ≤ (s.1 132 1).toInt then (v_let (v_w1 s 132 1 ((s.1 132 1) + (1 : Int32))) (fun s4 => (some ((), s4)))) else (if v_in (s.1 132 1) 24 then (v_let (v_w1 s 134 (Int32.toNatClampNeg (s.1 132 1)) b) (fun s6 => (v_let (v_w1 s6 132 1 ((s6.1 132 1) + (1 : Int32))) (fun s7 => (some ((), s7)))))) else none)))
set_option maxRecDepth 20000 in
set_option maxHeartbeats 4000000 in
theorem t_Cl_note {L : Nat} {xs : Nat → Int32} {b : Int32} {D : Nat} {r : Unit} {s s' : vS} (h : f_Cl_note b s = some (r, s')) (hD : 0 ≤ D) : s_Ek (s_rows 3 L xs) D s_e33.1 0 (lv_args 0 [.ref 132, .int b]) [] (v_mk s) (v_Q none s') := by
  unfold f_Cl_note at h
  show s_Ek (s_rows 3 L xs) D s_e33.1 0 [(0, .ref 132), (1, .int b)] [] (v_mk s) _
  refine s_ek_bk 1 (P := 1) (ls' := [(0, .ref 132), (1, .int b)]) (st' := [.ref 132]) (M' := v_mk s) rfl ?_
  refine v_gf rfl (v_gi (rfl : v_kd 132 = 2) rfl ⟨rfl, rfl, by decide⟩) ?_
  rcases v_if h with ⟨c1, h⟩ | ⟨c1, h⟩
  · refine v_i1t (T := 29) rfl rfl c1 ?_
    refine s_ek_bk 2 (P := 31) (ls' := [(0, .ref 132), (1, .int b)]) (st' := [.ref 132, .ref 132]) (M' := v_mk s) rfl ?_
    refine v_gf rfl (v_gi (rfl : v_kd 132 = 2) rfl ⟨rfl, rfl, by decide⟩) ?_
    refine s_ek_bk 2 (P := 36) (ls' := [(0, .ref 132), (1, .int b)]) (st' := [.int ((s.1 132 1) + (1 : Int32)), .ref 132]) (M' := v_mk s) rfl ?_
    obtain ⟨s2, es2, h⟩ := v_ld h
    refine v_pf (M' := v_mk s2) rfl (by rw [es2]; exact v_pi (rfl : v_kd 132 = 2) rfl ⟨rfl, rfl, by decide⟩ rfl) ?_
    obtain ⟨rfl, rfl⟩ := v_so h
    exact v_ret (fun _ => rfl)
  · refine v_i1f (T := 29) rfl rfl c1 ?_
    refine s_ek_bk 1 (P := 8) (ls' := [(0, .ref 132), (1, .int b)]) (st' := [.ref 132]) (M' := v_mk s) rfl ?_
    refine v_gf rfl (v_gi (rfl : v_kd 132 = 2) rfl ⟨rfl, rfl, by decide⟩) ?_
    refine s_ek_bk 1 (P := 12) (ls' := [(0, .ref 132), (1, .int b)]) (st' := [.ref 132, .int (s.1 132 1)]) (M' := v_mk s) rfl ?_
    refine v_gf rfl (v_gr (rfl : v_kd 132 = 2) (rfl : v_sl 132 3 = .ref 134) ⟨rfl, rfl, by decide⟩) ?_
    refine v_alen (x := 24) rfl (by rw [v_len (rfl : v_kd 134 = 13) (by decide), (rfl : v_ln 134 = 24)]; rfl) ?_
    rcases v_if h with ⟨c3, h⟩ | ⟨c3, h⟩
    · refine v_i2t (T := 29) rfl rfl c3 ?_
      refine s_ek_bk 2 (P := 31) (ls' := [(0, .ref 132), (1, .int b)]) (st' := [.ref 132, .ref 132]) (M' := v_mk s) rfl ?_
      refine v_gf rfl (v_gi (rfl : v_kd 132 = 2) rfl ⟨rfl, rfl, by decide⟩) ?_
      refine s_ek_bk 2 (P := 36) (ls' := [(0, .ref 132), (1, .int b)]) (st' := [.int ((s.1 132 1) + (1 : Int32)), .ref 132]) (M' := v_mk s) rfl ?_
      obtain ⟨s4, es4, h⟩ := v_ld h
      refine v_pf (M' := v_mk s4) rfl (by rw [es4]; exact v_pi (rfl : v_kd 132 = 2) rfl ⟨rfl, rfl, by decide⟩ rfl) ?_
      obtain ⟨rfl, rfl⟩ := v_so h
      exact v_ret (fun _ => rfl)
    · refine v_i2f (T := 29) rfl rfl c3 ?_
      refine s_ek_bk 1 (P := 20) (ls' := [(0, .ref 132), (1, .int b)]) (st' := [.ref 132]) (M' := v_mk s) rfl ?_
      refine v_gf rfl (v_gr (rfl : v_kd 132 = 2) (rfl : v_sl 132 3 = .ref 134) ⟨rfl, rfl, by decide⟩) ?_
      refine s_ek_bk 1 (P := 24) (ls' := [(0, .ref 132), (1, .int b)]) (st' := [.ref 132, .ref 134]) (M' := v_mk s) rfl ?_
      refine v_gf rfl (v_gi (rfl : v_kd 132 = 2) rfl ⟨rfl, rfl, by decide⟩) ?_
      refine s_ek_bk 1 (P := 28) (ls' := [(0, .ref 132), (1, .int b)]) (st' := [.int b, .int (s.1 132 1), .ref 134]) (M' := v_mk s) rfl ?_
      obtain ⟨c5, h⟩ := v_ck h
      obtain ⟨s6, es6, h⟩ := v_ld h
      refine v_ist (M' := v_mk s6) (i := (s.1 132 1)) rfl (by rw [es6]; exact v_pai (rfl : v_kd 134 = 13) rfl (by decide) v_all13 (v_cn (rfl : v_ln 134 = 24) c5)) ?_
      refine s_ek_bk 2 (P := 31) (ls' := [(0, .ref 132), (1, .int b)]) (st' := [.ref 132, .ref 132]) (M' := v_mk s6) rfl ?_
      refine v_gf rfl (v_gi (rfl : v_kd 132 = 2) rfl ⟨rfl, rfl, by decide⟩) ?_
      refine s_ek_bk 2 (P := 36) (ls' := [(0, .ref 132), (1, .int b)]) (st' := [.int ((s6.1 132 1) + (1 : Int32)), .ref 132]) (M' := v_mk s6) rfl ?_
      obtain ⟨s7, es7, h⟩ := v_ld h
      refine v_pf (M' := v_mk s7) rfl (by rw [es7]; exact v_pi (rfl : v_kd 132 = 2) rfl ⟨rfl, rfl, by decide⟩ rfl) ?_
      obtain ⟨rfl, rfl⟩ := v_so h
      exact v_ret (fun _ => rfl)
noncomputable def f_Cl_codeOf (b : Int32) (c : Int32) (s : vS) : Option (Int32 × vS) := (if b.toInt < 0 then (some (0, s)) else (if c.toInt < 0 then (some (0, s)) else (if 4 ≤ c.toInt then (some (0, s)) else (if 32 ≤ ((b * (4 : Int32)) + c).toInt then (some (0, s)) else (if v_in ((b * (4 : Int32)) + c) 32 then (some ((s_own.getD (Int32.toNatClampNeg ((b * (4 : Int32)) + c)) 0), s)) else none)))))
set_option maxRecDepth 20000 in
set_option maxHeartbeats 4000000 in
theorem t_Cl_codeOf {L : Nat} {xs : Nat → Int32} {b : Int32} {c : Int32} {D : Nat} {r : Int32} {s s' : vS} (h : f_Cl_codeOf b c s = some (r, s')) (hD : 0 ≤ D) : s_Ek (s_rows 3 L xs) D s_e34.1 0 (lv_args 0 [.int b, .int c]) [] (v_mk s) (v_Q (some (.int r)) s') := by
  unfold f_Cl_codeOf at h
  show s_Ek (s_rows 3 L xs) D s_e34.1 0 [(0, .int b), (1, .int c)] [] (v_mk s) _
  refine s_ek_bk 7 (P := 7) (ls' := [(2, .int ((b * (4 : Int32)) + c)), (0, .int b), (1, .int c)]) (st' := [.int b]) (M' := v_mk s) rfl ?_
  rcases v_if h with ⟨c1, h⟩ | ⟨c1, h⟩
  · refine v_i1t (T := 35) rfl rfl c1 ?_
    refine s_ek_bk 1 (P := 36) (ls' := [(2, .int ((b * (4 : Int32)) + c)), (0, .int b), (1, .int c)]) (st' := [.int 0]) (M' := v_mk s) rfl ?_
    obtain ⟨rfl, rfl⟩ := v_so h
    exact v_ret (fun _ => rfl)
  · refine v_i1f (T := 35) rfl rfl c1 ?_
    refine s_ek_bk 1 (P := 11) (ls' := [(2, .int ((b * (4 : Int32)) + c)), (0, .int b), (1, .int c)]) (st' := [.int c]) (M' := v_mk s) rfl ?_
    rcases v_if h with ⟨c2, h⟩ | ⟨c2, h⟩
    · refine v_i1t (T := 35) rfl rfl c2 ?_
      refine s_ek_bk 1 (P := 36) (ls' := [(2, .int ((b * (4 : Int32)) + c)), (0, .int b), (1, .int c)]) (st' := [.int 0]) (M' := v_mk s) rfl ?_
      obtain ⟨rfl, rfl⟩ := v_so h
      exact v_ret (fun _ => rfl)
    · refine v_i1f (T := 35) rfl rfl c2 ?_
      refine s_ek_bk 2 (P := 16) (ls' := [(2, .int ((b * (4 : Int32)) + c)), (0, .int b), (1, .int c)]) (st' := [.int 4, .int c]) (M' := v_mk s) rfl ?_
      rcases v_if h with ⟨c3, h⟩ | ⟨c3, h⟩
      · refine v_i2t (T := 35) rfl rfl c3 ?_
        refine s_ek_bk 1 (P := 36) (ls' := [(2, .int ((b * (4 : Int32)) + c)), (0, .int b), (1, .int c)]) (st' := [.int 0]) (M' := v_mk s) rfl ?_
        obtain ⟨rfl, rfl⟩ := v_so h
        exact v_ret (fun _ => rfl)
      · refine v_i2f (T := 35) rfl rfl c3 ?_
        refine s_ek_bk 3 (P := 24) (ls' := [(2, .int ((b * (4 : Int32)) + c)), (0, .int b), (1, .int c)]) (st' := [.int 32, .int ((b * (4 : Int32)) + c)]) (M' := v_mk s) rfl ?_
        rcases v_if h with ⟨c4, h⟩ | ⟨c4, h⟩
        · refine v_i2t (T := 35) rfl rfl c4 ?_
          refine s_ek_bk 1 (P := 36) (ls' := [(2, .int ((b * (4 : Int32)) + c)), (0, .int b), (1, .int c)]) (st' := [.int 0]) (M' := v_mk s) rfl ?_
          obtain ⟨rfl, rfl⟩ := v_so h
          exact v_ret (fun _ => rfl)
        · refine v_i2f (T := 35) rfl rfl c4 ?_
          refine s_ek_bk 2 (P := 31) (ls' := [(2, .int ((b * (4 : Int32)) + c)), (0, .int b), (1, .int c)]) (st' := [.int ((b * (4 : Int32)) + c), .retAddr 1]) (M' := v_mk s) rfl ?_
          obtain ⟨c5, h⟩ := v_ck h
          refine v_ias (j := 1) rfl c5 rfl ?_
          show s_Ek (s_rows 3 L xs) D s_e34.1 32 [(2, .int ((b * (4 : Int32)) + c)), (0, .int b), (1, .int c)] [.int (s_own.getD (Int32.toNatClampNeg ((b * (4 : Int32)) + c)) 0)] (v_mk s) _
          refine s_ek_bk 1 (P := 36) (ls' := [(2, .int ((b * (4 : Int32)) + c)), (0, .int b), (1, .int c)]) (st' := [.int (s_own.getD (Int32.toNatClampNeg ((b * (4 : Int32)) + c)) 0)]) (M' := v_mk s) rfl ?_
          obtain ⟨rfl, rfl⟩ := v_so h
          exact v_ret (fun _ => rfl)
noncomputable def f_Cl_atTop (rec : Int32 → Int32 → Int32 → Int32 → Int32 → vS → Option (Int32 × vS)) (b : Int32) (c : Int32) (d : Int32) (e : Int32) (s : vS) : Option (Int32 × vS) := (if b.toInt = 1 then (some ((d + c), s)) else (if b.toInt = 2 then (v_bi (f_Cl_own rec c 1 d e s) (fun r3 s3 => (v_bi (f_Cl_own rec c 2 1 e s3) (fun r4 s4 => (some ((r3 - r4), s4)))))) else (if b.toInt = 10 then (v_bi (f_Cl_own rec c 0 d e s) (fun r6 s6 => (some ((r6 * (2 : Int32)), s6)))) else (if b.toInt = 11 then (some ((d ^^^ c), s)) else (some (0, s))))))
set_option maxRecDepth 20000 in
set_option maxHeartbeats 4000000 in
theorem t_Cl_atTop {L : Nat} {xs : Nat → Int32} {H : Nat} {rec : Int32 → Int32 → Int32 → Int32 → Int32 → vS → Option (Int32 × vS)} (hrec : ∀ {D : Nat} {b : Int32} {c : Int32} {d : Int32} {e : Int32} {f : Int32} {r : Int32} {s s' : vS}, H ≤ D → rec b c d e f s = some (r, s') → s_Ek (s_rows 3 L xs) D s_e36.1 0 (lv_args 0 [.ref 132, .int b, .int c, .int d, .int e, .int f]) [] (v_mk s) (v_Q (some (.int r)) s')) {b : Int32} {c : Int32} {d : Int32} {e : Int32} {D : Nat} {r : Int32} {s s' : vS} (h : f_Cl_atTop rec b c d e s = some (r, s')) (hD : H + 2 ≤ D) : s_Ek (s_rows 3 L xs) D s_e37.1 0 (lv_args 0 [.ref 132, .int b, .int c, .int d, .int e]) [] (v_mk s) (v_Q (some (.int r)) s') := by
  unfold f_Cl_atTop at h
  show s_Ek (s_rows 3 L xs) D s_e37.1 0 [(0, .ref 132), (1, .int b), (2, .int c), (3, .int d), (4, .int e)] [] (v_mk s) _
  refine s_ek_bk 1 (P := 1) (ls' := [(0, .ref 132), (1, .int b), (2, .int c), (3, .int d), (4, .int e)]) (st' := [.int b]) (M' := v_mk s) rfl ?_
  rcases v_if h with ⟨c1, h⟩ | ⟨c1, h⟩
  · refine v_lki (T := 44) (c := 1) rfl c1 rfl rfl ?_
    refine s_ek_bk 3 (P := 47) (ls' := [(0, .ref 132), (1, .int b), (2, .int c), (3, .int d), (4, .int e)]) (st' := [.int (d + c)]) (M' := v_mk s) rfl ?_
    obtain ⟨rfl, rfl⟩ := v_so h
    exact v_ret (fun _ => rfl)
  · rcases v_if h with ⟨c2, h⟩ | ⟨c2, h⟩
    · refine v_lki (T := 48) (c := 2) rfl c2 rfl rfl ?_
      refine s_ek_bk 5 (P := 54) (ls' := [(0, .ref 132), (1, .int b), (2, .int c), (3, .int d), (4, .int e)]) (st' := [.int e, .int d, .int 1, .int c, .ref 132]) (M' := v_mk s) rfl ?_
      obtain ⟨r3, s3, e3, h⟩ := v_bd h
      refine v_cV (ν := s_e35.1) (w := 284) (a := 132) (as' := [.int c, .int 1, .int d, .int e]) (r := []) (o := some (.int r3)) (by omega) rfl rfl rfl (v_mk_kd (k := 2) (rfl : v_kd 132 = 2) (by decide)) rfl (t_Cl_own hrec e3 (by omega)) ?_
      show s_Ek (s_rows 3 L xs) D s_e37.1 57 [(0, .ref 132), (1, .int b), (2, .int c), (3, .int d), (4, .int e)] [.int r3] (v_mk s3) _
      refine s_ek_bk 5 (P := 63) (ls' := [(0, .ref 132), (1, .int b), (2, .int c), (3, .int d), (4, .int e)]) (st' := [.int e, .int 1, .int 2, .int c, .ref 132, .int r3]) (M' := v_mk s3) rfl ?_
      obtain ⟨r4, s4, e4, h⟩ := v_bd h
      refine v_cV (ν := s_e35.1) (w := 284) (a := 132) (as' := [.int c, .int 2, .int 1, .int e]) (r := [.int r3]) (o := some (.int r4)) (by omega) rfl rfl rfl (v_mk_kd (k := 2) (rfl : v_kd 132 = 2) (by decide)) rfl (t_Cl_own hrec e4 (by omega)) ?_
      show s_Ek (s_rows 3 L xs) D s_e37.1 66 [(0, .ref 132), (1, .int b), (2, .int c), (3, .int d), (4, .int e)] [.int r4, .int r3] (v_mk s4) _
      refine s_ek_bk 1 (P := 67) (ls' := [(0, .ref 132), (1, .int b), (2, .int c), (3, .int d), (4, .int e)]) (st' := [.int (r3 - r4)]) (M' := v_mk s4) rfl ?_
      obtain ⟨rfl, rfl⟩ := v_so h
      exact v_ret (fun _ => rfl)
    · rcases v_if h with ⟨c5, h⟩ | ⟨c5, h⟩
      · refine v_lki (T := 68) (c := 10) rfl c5 rfl rfl ?_
        refine s_ek_bk 5 (P := 74) (ls' := [(0, .ref 132), (1, .int b), (2, .int c), (3, .int d), (4, .int e)]) (st' := [.int e, .int d, .int 0, .int c, .ref 132]) (M' := v_mk s) rfl ?_
        obtain ⟨r6, s6, e6, h⟩ := v_bd h
        refine v_cV (ν := s_e35.1) (w := 284) (a := 132) (as' := [.int c, .int 0, .int d, .int e]) (r := []) (o := some (.int r6)) (by omega) rfl rfl rfl (v_mk_kd (k := 2) (rfl : v_kd 132 = 2) (by decide)) rfl (t_Cl_own hrec e6 (by omega)) ?_
        show s_Ek (s_rows 3 L xs) D s_e37.1 77 [(0, .ref 132), (1, .int b), (2, .int c), (3, .int d), (4, .int e)] [.int r6] (v_mk s6) _
        refine s_ek_bk 2 (P := 79) (ls' := [(0, .ref 132), (1, .int b), (2, .int c), (3, .int d), (4, .int e)]) (st' := [.int (r6 * (2 : Int32))]) (M' := v_mk s6) rfl ?_
        obtain ⟨rfl, rfl⟩ := v_so h
        exact v_ret (fun _ => rfl)
      · rcases v_if h with ⟨c7, h⟩ | ⟨c7, h⟩
        · refine v_lki (T := 80) (c := 11) rfl c7 rfl rfl ?_
          refine s_ek_bk 3 (P := 83) (ls' := [(0, .ref 132), (1, .int b), (2, .int c), (3, .int d), (4, .int e)]) (st' := [.int (d ^^^ c)]) (M' := v_mk s) rfl ?_
          obtain ⟨rfl, rfl⟩ := v_so h
          exact v_ret (fun _ => rfl)
        · refine v_lko (T := 84) rfl ⟨c1, c2, c5, c7, trivial⟩ rfl rfl ?_
          refine s_ek_bk 1 (P := 85) (ls' := [(0, .ref 132), (1, .int b), (2, .int c), (3, .int d), (4, .int e)]) (st' := [.int 0]) (M' := v_mk s) rfl ?_
          obtain ⟨rfl, rfl⟩ := v_so h
          exact v_ret (fun _ => rfl)
noncomputable def f_Cl_changed (rec : Int32 → Int32 → Int32 → Int32 → Int32 → vS → Option (Int32 × vS)) (b : Int32) (c : Int32) (d : Int32) (e : Int32) (s : vS) : Option (Int32 × vS) := (if b.toInt = 20 then (some ((c + (3 : Int32)), s)) else (if b.toInt = 30 then (some ((-c), s)) else (if b.toInt = 40 then (some ((c * (3 : Int32)), s)) else (if b.toInt = 41 then (some (c, s)) else (if b.toInt = 50 then (some ((c ^^^ (5 : Int32)), s)) else (if b.toInt = 60 then (v_bi (f_Cl_own rec d 0 2 e s) (fun r7 s7 => (some ((c - r7), s7)))) else (if b.toInt = 61 then (some ((c + (1 : Int32)), s)) else (if b.toInt = 70 then (some ((c * (2 : Int32)), s)) else (if b.toInt = 80 then (v_bi (f_Cl_own rec d 2 2 e s) (fun r11 s11 => (some ((c + r11), s11)))) else (if b.toInt = 81 then (some ((c - (1 : Int32)), s)) else (some (0, s))))))))))))
set_option maxRecDepth 20000 in
set_option maxHeartbeats 4000000 in
theorem t_Cl_changed {L : Nat} {xs : Nat → Int32} {H : Nat} {rec : Int32 → Int32 → Int32 → Int32 → Int32 → vS → Option (Int32 × vS)} (hrec : ∀ {D : Nat} {b : Int32} {c : Int32} {d : Int32} {e : Int32} {f : Int32} {r : Int32} {s s' : vS}, H ≤ D → rec b c d e f s = some (r, s') → s_Ek (s_rows 3 L xs) D s_e36.1 0 (lv_args 0 [.ref 132, .int b, .int c, .int d, .int e, .int f]) [] (v_mk s) (v_Q (some (.int r)) s')) {b : Int32} {c : Int32} {d : Int32} {e : Int32} {D : Nat} {r : Int32} {s s' : vS} (h : f_Cl_changed rec b c d e s = some (r, s')) (hD : H + 2 ≤ D) : s_Ek (s_rows 3 L xs) D s_e38.1 0 (lv_args 0 [.ref 132, .int b, .int c, .int d, .int e]) [] (v_mk s) (v_Q (some (.int r)) s') := by
  unfold f_Cl_changed at h
  show s_Ek (s_rows 3 L xs) D s_e38.1 0 [(0, .ref 132), (1, .int b), (2, .int c), (3, .int d), (4, .int e)] [] (v_mk s) _
  refine s_ek_bk 1 (P := 1) (ls' := [(0, .ref 132), (1, .int b), (2, .int c), (3, .int d), (4, .int e)]) (st' := [.int b]) (M' := v_mk s) rfl ?_
  rcases v_if h with ⟨c1, h⟩ | ⟨c1, h⟩
  · refine v_lki (T := 92) (c := 20) rfl c1 rfl rfl ?_
    refine s_ek_bk 3 (P := 95) (ls' := [(0, .ref 132), (1, .int b), (2, .int c), (3, .int d), (4, .int e)]) (st' := [.int (c + (3 : Int32))]) (M' := v_mk s) rfl ?_
    obtain ⟨rfl, rfl⟩ := v_so h
    exact v_ret (fun _ => rfl)
  · rcases v_if h with ⟨c2, h⟩ | ⟨c2, h⟩
    · refine v_lki (T := 96) (c := 30) rfl c2 rfl rfl ?_
      refine s_ek_bk 2 (P := 98) (ls' := [(0, .ref 132), (1, .int b), (2, .int c), (3, .int d), (4, .int e)]) (st' := [.int (-c)]) (M' := v_mk s) rfl ?_
      obtain ⟨rfl, rfl⟩ := v_so h
      exact v_ret (fun _ => rfl)
    · rcases v_if h with ⟨c3, h⟩ | ⟨c3, h⟩
      · refine v_lki (T := 99) (c := 40) rfl c3 rfl rfl ?_
        refine s_ek_bk 3 (P := 102) (ls' := [(0, .ref 132), (1, .int b), (2, .int c), (3, .int d), (4, .int e)]) (st' := [.int (c * (3 : Int32))]) (M' := v_mk s) rfl ?_
        obtain ⟨rfl, rfl⟩ := v_so h
        exact v_ret (fun _ => rfl)
      · rcases v_if h with ⟨c4, h⟩ | ⟨c4, h⟩
        · refine v_lki (T := 103) (c := 41) rfl c4 rfl rfl ?_
          refine s_ek_bk 1 (P := 104) (ls' := [(0, .ref 132), (1, .int b), (2, .int c), (3, .int d), (4, .int e)]) (st' := [.int c]) (M' := v_mk s) rfl ?_
          obtain ⟨rfl, rfl⟩ := v_so h
          exact v_ret (fun _ => rfl)
        · rcases v_if h with ⟨c5, h⟩ | ⟨c5, h⟩
          · refine v_lki (T := 105) (c := 50) rfl c5 rfl rfl ?_
            refine s_ek_bk 3 (P := 108) (ls' := [(0, .ref 132), (1, .int b), (2, .int c), (3, .int d), (4, .int e)]) (st' := [.int (c ^^^ (5 : Int32))]) (M' := v_mk s) rfl ?_
            obtain ⟨rfl, rfl⟩ := v_so h
            exact v_ret (fun _ => rfl)
          · rcases v_if h with ⟨c6, h⟩ | ⟨c6, h⟩
            · refine v_lki (T := 109) (c := 60) rfl c6 rfl rfl ?_
              refine s_ek_bk 6 (P := 116) (ls' := [(0, .ref 132), (1, .int b), (2, .int c), (3, .int d), (4, .int e)]) (st' := [.int e, .int 2, .int 0, .int d, .ref 132, .int c]) (M' := v_mk s) rfl ?_
              obtain ⟨r7, s7, e7, h⟩ := v_bd h
              refine v_cV (ν := s_e35.1) (w := 284) (a := 132) (as' := [.int d, .int 0, .int 2, .int e]) (r := [.int c]) (o := some (.int r7)) (by omega) rfl rfl rfl (v_mk_kd (k := 2) (rfl : v_kd 132 = 2) (by decide)) rfl (t_Cl_own hrec e7 (by omega)) ?_
              show s_Ek (s_rows 3 L xs) D s_e38.1 119 [(0, .ref 132), (1, .int b), (2, .int c), (3, .int d), (4, .int e)] [.int r7, .int c] (v_mk s7) _
              refine s_ek_bk 1 (P := 120) (ls' := [(0, .ref 132), (1, .int b), (2, .int c), (3, .int d), (4, .int e)]) (st' := [.int (c - r7)]) (M' := v_mk s7) rfl ?_
              obtain ⟨rfl, rfl⟩ := v_so h
              exact v_ret (fun _ => rfl)
            · rcases v_if h with ⟨c8, h⟩ | ⟨c8, h⟩
              · refine v_lki (T := 121) (c := 61) rfl c8 rfl rfl ?_
                refine s_ek_bk 3 (P := 124) (ls' := [(0, .ref 132), (1, .int b), (2, .int c), (3, .int d), (4, .int e)]) (st' := [.int (c + (1 : Int32))]) (M' := v_mk s) rfl ?_
                obtain ⟨rfl, rfl⟩ := v_so h
                exact v_ret (fun _ => rfl)
              · rcases v_if h with ⟨c9, h⟩ | ⟨c9, h⟩
                · refine v_lki (T := 125) (c := 70) rfl c9 rfl rfl ?_
                  refine s_ek_bk 3 (P := 128) (ls' := [(0, .ref 132), (1, .int b), (2, .int c), (3, .int d), (4, .int e)]) (st' := [.int (c * (2 : Int32))]) (M' := v_mk s) rfl ?_
                  obtain ⟨rfl, rfl⟩ := v_so h
                  exact v_ret (fun _ => rfl)
                · rcases v_if h with ⟨c10, h⟩ | ⟨c10, h⟩
                  · refine v_lki (T := 129) (c := 80) rfl c10 rfl rfl ?_
                    refine s_ek_bk 6 (P := 136) (ls' := [(0, .ref 132), (1, .int b), (2, .int c), (3, .int d), (4, .int e)]) (st' := [.int e, .int 2, .int 2, .int d, .ref 132, .int c]) (M' := v_mk s) rfl ?_
                    obtain ⟨r11, s11, e11, h⟩ := v_bd h
                    refine v_cV (ν := s_e35.1) (w := 284) (a := 132) (as' := [.int d, .int 2, .int 2, .int e]) (r := [.int c]) (o := some (.int r11)) (by omega) rfl rfl rfl (v_mk_kd (k := 2) (rfl : v_kd 132 = 2) (by decide)) rfl (t_Cl_own hrec e11 (by omega)) ?_
                    show s_Ek (s_rows 3 L xs) D s_e38.1 139 [(0, .ref 132), (1, .int b), (2, .int c), (3, .int d), (4, .int e)] [.int r11, .int c] (v_mk s11) _
                    refine s_ek_bk 1 (P := 140) (ls' := [(0, .ref 132), (1, .int b), (2, .int c), (3, .int d), (4, .int e)]) (st' := [.int (c + r11)]) (M' := v_mk s11) rfl ?_
                    obtain ⟨rfl, rfl⟩ := v_so h
                    exact v_ret (fun _ => rfl)
                  · rcases v_if h with ⟨c12, h⟩ | ⟨c12, h⟩
                    · refine v_lki (T := 141) (c := 81) rfl c12 rfl rfl ?_
                      refine s_ek_bk 3 (P := 144) (ls' := [(0, .ref 132), (1, .int b), (2, .int c), (3, .int d), (4, .int e)]) (st' := [.int (c - (1 : Int32))]) (M' := v_mk s) rfl ?_
                      obtain ⟨rfl, rfl⟩ := v_so h
                      exact v_ret (fun _ => rfl)
                    · refine v_lko (T := 145) rfl ⟨c1, c2, c3, c4, c5, c6, c8, c9, c10, c12, trivial⟩ rfl rfl ?_
                      refine s_ek_bk 1 (P := 146) (ls' := [(0, .ref 132), (1, .int b), (2, .int c), (3, .int d), (4, .int e)]) (st' := [.int 0]) (M' := v_mk s) rfl ?_
                      obtain ⟨rfl, rfl⟩ := v_so h
                      exact v_ret (fun _ => rfl)
noncomputable def f_Cl_from_L6b (rec : Int32 → Int32 → Int32 → Int32 → Int32 → vS → Option (Int32 × vS)) (p2 : Int32) (p3 : Int32) (p4 : Int32) (p5 : Int32) (k40 : Int32 → vS → Option (Int32 × vS)) (again : Int32 → Int32 → vS → Option (Int32 × vS)) (v6 : Int32) (v7 : Int32) (s : vS) : Option (Int32 × vS) := (if 8 ≤ v7.toInt then (k40 v6 s) else (if v6.toInt < 0 then (k40 v6 s) else (v_bi (f_Cl_codeOf v6 p3 s) (fun r103 s103 => (if r103.toInt = 0 then (v_bi (f_Cl_above v6 s103) (fun r105 s105 => (again r105 (v7 + 1) s105))) else (k40 v6 s103))))))
noncomputable def f_Cl_from_L6 (rec : Int32 → Int32 → Int32 → Int32 → Int32 → vS → Option (Int32 × vS)) (p2 : Int32) (p3 : Int32) (p4 : Int32) (p5 : Int32) (k40 : Int32 → vS → Option (Int32 × vS)) (n : Nat) : Int32 → Int32 → vS → Option (Int32 × vS) := Nat.rec (motive := fun _ => Int32 → Int32 → vS → Option (Int32 × vS)) (fun _ _ _ => none) (fun _ again => f_Cl_from_L6b rec p2 p3 p4 p5 k40 again) n
noncomputable def f_Cl_fromb (rec : Int32 → Int32 → Int32 → Int32 → Int32 → vS → Option (Int32 × vS)) (b : Int32) (c : Int32) (d : Int32) (e : Int32) (f : Int32) (s : vS) : Option (Int32 × vS) := (f_Cl_from_L6 rec c d e f (fun w1 s2 => (if w1.toInt < 0 then (some (0, s2)) else (if f.toInt ≤ 40 then (v_bi (f_Cl_codeOf w1 d s2) (fun r5 s5 => (v_bi (f_Cl_note r5 s5) (fun _ s6 => (if w1.toInt = 0 then (v_bi (f_Cl_atTop rec r5 c e (f + (1 : Int32)) s6) (fun r8 s8 => (some (r8, s8)))) else (v_bi (f_Cl_above w1 s6) (fun r9 s9 => (if r5.toInt = 41 then (v_bi (rec r9 c d (e + (1 : Int32)) (f + (1 : Int32)) s9) (fun r11 s11 => (v_bi (f_Cl_changed rec r5 r11 c (f + (1 : Int32)) s11) (fun r12 s12 => (some (r12, s12)))))) else (v_bi (rec r9 c d e (f + (1 : Int32)) s9) (fun r13 s13 => (v_bi (f_Cl_changed rec r5 r13 c (f + (1 : Int32)) s13) (fun r14 s14 => (some (r14, s14)))))))))))))) else (some (0, s2))))) 4096 b 0 s)
noncomputable def f_Cl_from (n : Nat) : Int32 → Int32 → Int32 → Int32 → Int32 → vS → Option (Int32 × vS) := Nat.rec (motive := fun _ => Int32 → Int32 → Int32 → Int32 → Int32 → vS → Option (Int32 × vS)) (fun _ _ _ _ _ _ => none) (fun _ rec => f_Cl_fromb rec) n
set_option maxRecDepth 20000 in
set_option maxHeartbeats 4000000 in
theorem t_Cl_from_L6 {L : Nat} {xs : Nat → Int32} {H : Nat} {rec : Int32 → Int32 → Int32 → Int32 → Int32 → vS → Option (Int32 × vS)} (hrec : ∀ {D : Nat} {b : Int32} {c : Int32} {d : Int32} {e : Int32} {f : Int32} {r : Int32} {s s' : vS}, H ≤ D → rec b c d e f s = some (r, s') → s_Ek (s_rows 3 L xs) D s_e36.1 0 (lv_args 0 [.ref 132, .int b, .int c, .int d, .int e, .int f]) [] (v_mk s) (v_Q (some (.int r)) s')) {p2 : Int32} {p3 : Int32} {p4 : Int32} {p5 : Int32} {k40 : Int32 → vS → Option (Int32 × vS)} {D : Nat} (hD : H + 3 ≤ D) {r : Int32} {s' : vS} (hk40 : ∀ (v6 : Int32) (s : vS), k40 v6 s = some (r, s') → s_Ek (s_rows 3 L xs) D s_e36.1 40 [(0, .ref 132), (2, .int p2), (3, .int p3), (4, .int p4), (5, .int p5), (6, .int v6)] [] (v_mk s) (v_Q (some (.int r)) s')) : ∀ (n : Nat) (v6 : Int32) (v7 : Int32) (s : vS), f_Cl_from_L6 rec p2 p3 p4 p5 k40 n v6 v7 s = some (r, s') → s_Ek (s_rows 3 L xs) D s_e36.1 6 [(0, .ref 132), (2, .int p2), (3, .int p3), (4, .int p4), (5, .int p5), (6, .int v6), (7, .int v7)] [] (v_mk s) (v_Q (some (.int r)) s') := by
  intro n
  induction n with
  | zero => intro v6 v7 s h; exact nomatch (show (none : Option (Int32 × vS)) = some (r, s') from h)
  | succ n ih =>
    intro v6 v7 s h
    replace h : f_Cl_from_L6b rec p2 p3 p4 p5 k40 (f_Cl_from_L6 rec p2 p3 p4 p5 k40 n) v6 v7 s = some (r, s') := h
    unfold f_Cl_from_L6b at h
    refine s_ek_bk 2 (P := 10) (ls' := [(0, .ref 132), (2, .int p2), (3, .int p3), (4, .int p4), (5, .int p5), (6, .int v6), (7, .int v7)]) (st' := [.int 8, .int v7]) (M' := v_mk s) rfl ?_
    rcases v_if h with ⟨c101, h⟩ | ⟨c101, h⟩
    · refine v_i2t (T := 40) rfl rfl c101 ?_
      refine v_ls (ls' := [(0, .ref 132), (2, .int p2), (3, .int p3), (4, .int p4), (5, .int p5), (6, .int v6)]) ⟨rfl, rfl, rfl, rfl, rfl, rfl, trivial⟩ (show ([0, 2, 3, 4, 5, 6] : List Nat).Nodup from by decide) ?_
      exact hk40 _ _ h
    · refine v_i2f (T := 40) rfl rfl c101 ?_
      refine s_ek_bk 1 (P := 15) (ls' := [(0, .ref 132), (2, .int p2), (3, .int p3), (4, .int p4), (5, .int p5), (6, .int v6), (7, .int v7)]) (st' := [.int v6]) (M' := v_mk s) rfl ?_
      rcases v_if h with ⟨c102, h⟩ | ⟨c102, h⟩
      · refine v_i1t (T := 40) rfl rfl c102 ?_
        refine v_ls (ls' := [(0, .ref 132), (2, .int p2), (3, .int p3), (4, .int p4), (5, .int p5), (6, .int v6)]) ⟨rfl, rfl, rfl, rfl, rfl, rfl, trivial⟩ (show ([0, 2, 3, 4, 5, 6] : List Nat).Nodup from by decide) ?_
        exact hk40 _ _ h
      · refine v_i1f (T := 40) rfl rfl c102 ?_
        refine s_ek_bk 2 (P := 21) (ls' := [(0, .ref 132), (2, .int p2), (3, .int p3), (4, .int p4), (5, .int p5), (6, .int v6), (7, .int v7)]) (st' := [.int p3, .int v6]) (M' := v_mk s) rfl ?_
        obtain ⟨r103, s103, e103, h⟩ := v_bd h
        refine v_cS (ν := s_e34.1) (w := 274) (as := [.int v6, .int p3]) (r := []) (o := some (.int r103)) (by omega) rfl rfl rfl rfl (t_Cl_codeOf e103 (by omega)) ?_
        show s_Ek (s_rows 3 L xs) D s_e36.1 24 [(0, .ref 132), (2, .int p2), (3, .int p3), (4, .int p4), (5, .int p5), (6, .int v6), (7, .int v7)] [.int r103] (v_mk s103) _
        rcases v_if h with ⟨c104, h⟩ | ⟨c104, h⟩
        · refine v_i1f (T := 40) rfl rfl (fun q => q c104) ?_
          refine s_ek_bk 1 (P := 29) (ls' := [(0, .ref 132), (2, .int p2), (3, .int p3), (4, .int p4), (5, .int p5), (6, .int v6), (7, .int v7)]) (st' := [.int v6]) (M' := v_mk s103) rfl ?_
          obtain ⟨r105, s105, e105, h⟩ := v_bd h
          refine v_cS (ν := s_e26.1) (w := 209) (as := [.int v6]) (r := []) (o := some (.int r105)) (by omega) rfl rfl rfl rfl (t_Cl_above e105 (by omega)) ?_
          show s_Ek (s_rows 3 L xs) D s_e36.1 32 [(0, .ref 132), (2, .int p2), (3, .int p3), (4, .int p4), (5, .int p5), (6, .int v6), (7, .int v7)] [.int r105] (v_mk s105) _
          refine s_ek_bk 3 (P := 6) (ls' := [(7, .int (v7 + 1)), (6, .int r105), (0, .ref 132), (2, .int p2), (3, .int p3), (4, .int p4), (5, .int p5)]) (st' := []) (M' := v_mk s105) rfl ?_
          refine v_ls (ls' := [(0, .ref 132), (2, .int p2), (3, .int p3), (4, .int p4), (5, .int p5), (6, .int r105), (7, .int (v7 + 1))]) ⟨rfl, rfl, rfl, rfl, rfl, rfl, rfl, trivial⟩ (show ([0, 2, 3, 4, 5, 6, 7] : List Nat).Nodup from by decide) ?_
          exact ih _ _ _ h
        · refine v_i1t (T := 40) rfl rfl c104 ?_
          refine v_ls (ls' := [(0, .ref 132), (2, .int p2), (3, .int p3), (4, .int p4), (5, .int p5), (6, .int v6)]) ⟨rfl, rfl, rfl, rfl, rfl, rfl, trivial⟩ (show ([0, 2, 3, 4, 5, 6] : List Nat).Nodup from by decide) ?_
          exact hk40 _ _ h
set_option maxRecDepth 20000 in
set_option maxHeartbeats 4000000 in
theorem t_Cl_fromb {L : Nat} {xs : Nat → Int32} {H : Nat} {rec : Int32 → Int32 → Int32 → Int32 → Int32 → vS → Option (Int32 × vS)} (hrec : ∀ {D : Nat} {b : Int32} {c : Int32} {d : Int32} {e : Int32} {f : Int32} {r : Int32} {s s' : vS}, H ≤ D → rec b c d e f s = some (r, s') → s_Ek (s_rows 3 L xs) D s_e36.1 0 (lv_args 0 [.ref 132, .int b, .int c, .int d, .int e, .int f]) [] (v_mk s) (v_Q (some (.int r)) s')) {b : Int32} {c : Int32} {d : Int32} {e : Int32} {f : Int32} {D : Nat} {r : Int32} {s s' : vS} (h : f_Cl_fromb rec b c d e f s = some (r, s')) (hD : H + 3 ≤ D) : s_Ek (s_rows 3 L xs) D s_e36.1 0 (lv_args 0 [.ref 132, .int b, .int c, .int d, .int e, .int f]) [] (v_mk s) (v_Q (some (.int r)) s') := by
  unfold f_Cl_fromb at h
  show s_Ek (s_rows 3 L xs) D s_e36.1 0 [(0, .ref 132), (1, .int b), (2, .int c), (3, .int d), (4, .int e), (5, .int f)] [] (v_mk s) _
  refine s_ek_bk 4 (P := 6) (ls' := [(7, .int 0), (6, .int b), (0, .ref 132), (1, .int b), (2, .int c), (3, .int d), (4, .int e), (5, .int f)]) (st' := []) (M' := v_mk s) rfl ?_
  refine v_ls (ls' := [(0, .ref 132), (2, .int c), (3, .int d), (4, .int e), (5, .int f), (6, .int b), (7, .int 0)]) ⟨rfl, rfl, rfl, rfl, rfl, rfl, rfl, trivial⟩ (show ([0, 2, 3, 4, 5, 6, 7] : List Nat).Nodup from by decide) ?_
  refine t_Cl_from_L6 hrec (by omega) (fun w1 s2 h => ?_) 4096 _ _ _ h
  show s_Ek (s_rows 3 L xs) D s_e36.1 40 [(0, .ref 132), (2, .int c), (3, .int d), (4, .int e), (5, .int f), (6, .int w1)] [] (v_mk s2) _
  refine s_ek_bk 1 (P := 42) (ls' := [(0, .ref 132), (2, .int c), (3, .int d), (4, .int e), (5, .int f), (6, .int w1)]) (st' := [.int w1]) (M' := v_mk s2) rfl ?_
  rcases v_if h with ⟨c3, h⟩ | ⟨c3, h⟩
  · refine v_i1t (T := 52) rfl rfl c3 ?_
    refine s_ek_bk 1 (P := 53) (ls' := [(0, .ref 132), (2, .int c), (3, .int d), (4, .int e), (5, .int f), (6, .int w1)]) (st' := [.int 0]) (M' := v_mk s2) rfl ?_
    obtain ⟨rfl, rfl⟩ := v_so h
    exact v_ret (fun _ => rfl)
  · refine v_i1f (T := 52) rfl rfl c3 ?_
    refine s_ek_bk 2 (P := 49) (ls' := [(0, .ref 132), (2, .int c), (3, .int d), (4, .int e), (5, .int f), (6, .int w1)]) (st' := [.int 40, .int f]) (M' := v_mk s2) rfl ?_
    rcases v_if h with ⟨c4, h⟩ | ⟨c4, h⟩
    · refine v_i2t (T := 54) rfl rfl c4 ?_
      refine s_ek_bk 2 (P := 57) (ls' := [(0, .ref 132), (2, .int c), (3, .int d), (4, .int e), (5, .int f), (6, .int w1)]) (st' := [.int d, .int w1]) (M' := v_mk s2) rfl ?_
      obtain ⟨r5, s5, e5, h⟩ := v_bd h
      refine v_cS (ν := s_e34.1) (w := 274) (as := [.int w1, .int d]) (r := []) (o := some (.int r5)) (by omega) rfl rfl rfl rfl (t_Cl_codeOf e5 (by omega)) ?_
      show s_Ek (s_rows 3 L xs) D s_e36.1 60 [(0, .ref 132), (2, .int c), (3, .int d), (4, .int e), (5, .int f), (6, .int w1)] [.int r5] (v_mk s5) _
      refine s_ek_bk 3 (P := 65) (ls' := [(7, .int r5), (0, .ref 132), (2, .int c), (3, .int d), (4, .int e), (5, .int f), (6, .int w1)]) (st' := [.int r5, .ref 132]) (M' := v_mk s5) rfl ?_
      obtain ⟨r6, s6, e6, h⟩ := v_bd h
      refine v_cV (ν := s_e33.1) (w := 265) (a := 132) (as' := [.int r5]) (r := []) (o := none) (by omega) rfl rfl rfl (v_mk_kd (k := 2) (rfl : v_kd 132 = 2) (by decide)) rfl (t_Cl_note e6 (by omega)) ?_
      show s_Ek (s_rows 3 L xs) D s_e36.1 68 [(7, .int r5), (0, .ref 132), (2, .int c), (3, .int d), (4, .int e), (5, .int f), (6, .int w1)] [] (v_mk s6) _
      refine s_ek_bk 1 (P := 70) (ls' := [(7, .int r5), (0, .ref 132), (2, .int c), (3, .int d), (4, .int e), (5, .int f), (6, .int w1)]) (st' := [.int w1]) (M' := v_mk s6) rfl ?_
      rcases v_if h with ⟨c7, h⟩ | ⟨c7, h⟩
      · refine v_i1f (T := 87) rfl rfl (fun q => q c7) ?_
        refine s_ek_bk 7 (P := 83) (ls' := [(7, .int r5), (0, .ref 132), (2, .int c), (3, .int d), (4, .int e), (5, .int f), (6, .int w1)]) (st' := [.int (f + (1 : Int32)), .int e, .int c, .int r5, .ref 132]) (M' := v_mk s6) rfl ?_
        obtain ⟨r8, s8, e8, h⟩ := v_bd h
        refine v_cV (ν := s_e37.1) (w := 300) (a := 132) (as' := [.int r5, .int c, .int e, .int (f + (1 : Int32))]) (r := []) (o := some (.int r8)) (by omega) rfl rfl rfl (v_mk_kd (k := 2) (rfl : v_kd 132 = 2) (by decide)) rfl (t_Cl_atTop hrec e8 (by omega)) ?_
        show s_Ek (s_rows 3 L xs) D s_e36.1 86 [(7, .int r5), (0, .ref 132), (2, .int c), (3, .int d), (4, .int e), (5, .int f), (6, .int w1)] [.int r8] (v_mk s8) _
        obtain ⟨rfl, rfl⟩ := v_so h
        exact v_ret (fun _ => rfl)
      · refine v_i1t (T := 87) rfl rfl c7 ?_
        refine s_ek_bk 2 (P := 90) (ls' := [(7, .int r5), (0, .ref 132), (2, .int c), (3, .int d), (4, .int e), (5, .int f), (6, .int w1)]) (st' := [.int w1, .ref 132]) (M' := v_mk s6) rfl ?_
        obtain ⟨r9, s9, e9, h⟩ := v_bd h
        refine v_cS (ν := s_e26.1) (w := 209) (as := [.int w1]) (r := [.ref 132]) (o := some (.int r9)) (by omega) rfl rfl rfl rfl (t_Cl_above e9 (by omega)) ?_
        show s_Ek (s_rows 3 L xs) D s_e36.1 93 [(7, .int r5), (0, .ref 132), (2, .int c), (3, .int d), (4, .int e), (5, .int f), (6, .int w1)] [.int r9, .ref 132] (v_mk s9) _
        refine s_ek_bk 4 (P := 99) (ls' := [(7, .int r5), (0, .ref 132), (2, .int c), (3, .int d), (4, .int e), (5, .int f), (6, .int w1)]) (st' := [.int 41, .int r5, .int d, .int c, .int r9, .ref 132]) (M' := v_mk s9) rfl ?_
        rcases v_if h with ⟨c10, h⟩ | ⟨c10, h⟩
        · refine v_i2f (T := 109) rfl rfl (fun q => q c10) ?_
          refine s_ek_bk 7 (P := 115) (ls' := [(7, .int r5), (0, .ref 132), (2, .int c), (3, .int d), (4, .int e), (5, .int f), (6, .int w1)]) (st' := [.int (f + (1 : Int32)), .int (e + (1 : Int32)), .int d, .int c, .int r9, .ref 132]) (M' := v_mk s9) rfl ?_
          obtain ⟨r11, s11, e11, h⟩ := v_bd h
          refine v_cV (ν := s_e36.1) (w := 293) (a := 132) (as' := [.int r9, .int c, .int d, .int (e + (1 : Int32)), .int (f + (1 : Int32))]) (r := []) (o := some (.int r11)) (by omega) rfl rfl rfl (v_mk_kd (k := 2) (rfl : v_kd 132 = 2) (by decide)) rfl (hrec (by omega) e11) ?_
          show s_Ek (s_rows 3 L xs) D s_e36.1 118 [(7, .int r5), (0, .ref 132), (2, .int c), (3, .int d), (4, .int e), (5, .int f), (6, .int w1)] [.int r11] (v_mk s11) _
          refine s_ek_bk 8 (P := 130) (ls' := [(8, .int r11), (7, .int r5), (0, .ref 132), (2, .int c), (3, .int d), (4, .int e), (5, .int f), (6, .int w1)]) (st' := [.int (f + (1 : Int32)), .int c, .int r11, .int r5, .ref 132]) (M' := v_mk s11) rfl ?_
          obtain ⟨r12, s12, e12, h⟩ := v_bd h
          refine v_cV (ν := s_e38.1) (w := 308) (a := 132) (as' := [.int r5, .int r11, .int c, .int (f + (1 : Int32))]) (r := []) (o := some (.int r12)) (by omega) rfl rfl rfl (v_mk_kd (k := 2) (rfl : v_kd 132 = 2) (by decide)) rfl (t_Cl_changed hrec e12 (by omega)) ?_
          show s_Ek (s_rows 3 L xs) D s_e36.1 133 [(8, .int r11), (7, .int r5), (0, .ref 132), (2, .int c), (3, .int d), (4, .int e), (5, .int f), (6, .int w1)] [.int r12] (v_mk s12) _
          obtain ⟨rfl, rfl⟩ := v_so h
          exact v_ret (fun _ => rfl)
        · refine v_i2t (T := 109) rfl rfl c10 ?_
          refine s_ek_bk 4 (P := 115) (ls' := [(7, .int r5), (0, .ref 132), (2, .int c), (3, .int d), (4, .int e), (5, .int f), (6, .int w1)]) (st' := [.int (f + (1 : Int32)), .int e, .int d, .int c, .int r9, .ref 132]) (M' := v_mk s9) rfl ?_
          obtain ⟨r13, s13, e13, h⟩ := v_bd h
          refine v_cV (ν := s_e36.1) (w := 293) (a := 132) (as' := [.int r9, .int c, .int d, .int e, .int (f + (1 : Int32))]) (r := []) (o := some (.int r13)) (by omega) rfl rfl rfl (v_mk_kd (k := 2) (rfl : v_kd 132 = 2) (by decide)) rfl (hrec (by omega) e13) ?_
          show s_Ek (s_rows 3 L xs) D s_e36.1 118 [(7, .int r5), (0, .ref 132), (2, .int c), (3, .int d), (4, .int e), (5, .int f), (6, .int w1)] [.int r13] (v_mk s13) _
          refine s_ek_bk 8 (P := 130) (ls' := [(8, .int r13), (7, .int r5), (0, .ref 132), (2, .int c), (3, .int d), (4, .int e), (5, .int f), (6, .int w1)]) (st' := [.int (f + (1 : Int32)), .int c, .int r13, .int r5, .ref 132]) (M' := v_mk s13) rfl ?_
          obtain ⟨r14, s14, e14, h⟩ := v_bd h
          refine v_cV (ν := s_e38.1) (w := 308) (a := 132) (as' := [.int r5, .int r13, .int c, .int (f + (1 : Int32))]) (r := []) (o := some (.int r14)) (by omega) rfl rfl rfl (v_mk_kd (k := 2) (rfl : v_kd 132 = 2) (by decide)) rfl (t_Cl_changed hrec e14 (by omega)) ?_
          show s_Ek (s_rows 3 L xs) D s_e36.1 133 [(8, .int r13), (7, .int r5), (0, .ref 132), (2, .int c), (3, .int d), (4, .int e), (5, .int f), (6, .int w1)] [.int r14] (v_mk s14) _
          obtain ⟨rfl, rfl⟩ := v_so h
          exact v_ret (fun _ => rfl)
    · refine v_i2f (T := 54) rfl rfl c4 ?_
      refine s_ek_bk 1 (P := 53) (ls' := [(0, .ref 132), (2, .int c), (3, .int d), (4, .int e), (5, .int f), (6, .int w1)]) (st' := [.int 0]) (M' := v_mk s2) rfl ?_
      obtain ⟨rfl, rfl⟩ := v_so h
      exact v_ret (fun _ => rfl)
set_option maxRecDepth 20000 in
set_option maxHeartbeats 4000000 in
theorem t_Cl_from {L : Nat} {xs : Nat → Int32} : ∀ (n : Nat) {D : Nat} {b : Int32} {c : Int32} {d : Int32} {e : Int32} {f : Int32} {r : Int32} {s s' : vS}, 3 * n ≤ D → f_Cl_from n b c d e f s = some (r, s') → s_Ek (s_rows 3 L xs) D s_e36.1 0 (lv_args 0 [.ref 132, .int b, .int c, .int d, .int e, .int f]) [] (v_mk s) (v_Q (some (.int r)) s') := by
  intro n
  induction n with
  | zero => intro D b c d e f r s s' hD h; exact nomatch (show (none : Option (Int32 × vS)) = some (r, s') from h)
  | succ n ih =>
    intro D b c d e f r s s' hD h
    exact t_Cl_fromb (H := 3 * n) (rec := f_Cl_from n) (fun hD e => ih hD e) h (by omega)
noncomputable def f_Cl_perform (b : Int32) (c : Int32) (d : Int32) (s : vS) : Option (Int32 × vS) := (v_let (v_w1 s 132 1 0) (fun s1 => (v_bi (f_Cl_knows b s1) (fun r2 s2 => (if r2.toInt = 0 then (some (0, s2)) else (if c.toInt < 0 then (some (0, s2)) else (if c.toInt < 4 then (v_bi (f_Cl_own (f_Cl_from 64) b c d 0 s2) (fun r6 s6 => (some (r6, s6)))) else (some (0, s2)))))))))
set_option maxRecDepth 20000 in
set_option maxHeartbeats 4000000 in
theorem t_Cl_perform {L : Nat} {xs : Nat → Int32} {b : Int32} {c : Int32} {d : Int32} {D : Nat} {r : Int32} {s s' : vS} (h : f_Cl_perform b c d s = some (r, s')) (hD : 194 ≤ D) : s_Ek (s_rows 3 L xs) D s_e32.1 0 (lv_args 0 [.ref 132, .int b, .int c, .int d]) [] (v_mk s) (v_Q (some (.int r)) s') := by
  unfold f_Cl_perform at h
  show s_Ek (s_rows 3 L xs) D s_e32.1 0 [(0, .ref 132), (1, .int b), (2, .int c), (3, .int d)] [] (v_mk s) _
  refine s_ek_bk 2 (P := 2) (ls' := [(0, .ref 132), (1, .int b), (2, .int c), (3, .int d)]) (st' := [.int 0, .ref 132]) (M' := v_mk s) rfl ?_
  obtain ⟨s1, es1, h⟩ := v_ld h
  refine v_pf (M' := v_mk s1) rfl (by rw [es1]; exact v_pi (rfl : v_kd 132 = 2) rfl ⟨rfl, rfl, by decide⟩ rfl) ?_
  refine s_ek_bk 2 (P := 7) (ls' := [(0, .ref 132), (1, .int b), (2, .int c), (3, .int d)]) (st' := [.int b, .ref 132]) (M' := v_mk s1) rfl ?_
  obtain ⟨r2, s2, e2, h⟩ := v_bd h
  refine v_cV (ν := s_e29.1) (w := 233) (a := 132) (as' := [.int b]) (r := []) (o := some (.int r2)) (by omega) rfl rfl rfl (v_mk_kd (k := 2) (rfl : v_kd 132 = 2) (by decide)) rfl (t_Cl_knows e2 (by omega)) ?_
  show s_Ek (s_rows 3 L xs) D s_e32.1 10 [(0, .ref 132), (1, .int b), (2, .int c), (3, .int d)] [.int r2] (v_mk s2) _
  rcases v_if h with ⟨c3, h⟩ | ⟨c3, h⟩
  · refine v_i1t (T := 22) rfl rfl c3 ?_
    refine s_ek_bk 1 (P := 23) (ls' := [(0, .ref 132), (1, .int b), (2, .int c), (3, .int d)]) (st' := [.int 0]) (M' := v_mk s2) rfl ?_
    obtain ⟨rfl, rfl⟩ := v_so h
    exact v_ret (fun _ => rfl)
  · refine v_i1f (T := 22) rfl rfl c3 ?_
    refine s_ek_bk 1 (P := 14) (ls' := [(0, .ref 132), (1, .int b), (2, .int c), (3, .int d)]) (st' := [.int c]) (M' := v_mk s2) rfl ?_
    rcases v_if h with ⟨c4, h⟩ | ⟨c4, h⟩
    · refine v_i1t (T := 22) rfl rfl c4 ?_
      refine s_ek_bk 1 (P := 23) (ls' := [(0, .ref 132), (1, .int b), (2, .int c), (3, .int d)]) (st' := [.int 0]) (M' := v_mk s2) rfl ?_
      obtain ⟨rfl, rfl⟩ := v_so h
      exact v_ret (fun _ => rfl)
    · refine v_i1f (T := 22) rfl rfl c4 ?_
      refine s_ek_bk 2 (P := 19) (ls' := [(0, .ref 132), (1, .int b), (2, .int c), (3, .int d)]) (st' := [.int 4, .int c]) (M' := v_mk s2) rfl ?_
      rcases v_if h with ⟨c5, h⟩ | ⟨c5, h⟩
      · refine v_i2t (T := 24) rfl rfl c5 ?_
        refine s_ek_bk 5 (P := 29) (ls' := [(0, .ref 132), (1, .int b), (2, .int c), (3, .int d)]) (st' := [.int 0, .int d, .int c, .int b, .ref 132]) (M' := v_mk s2) rfl ?_
        obtain ⟨r6, s6, e6, h⟩ := v_bd h
        refine v_cV (ν := s_e35.1) (w := 284) (a := 132) (as' := [.int b, .int c, .int d, .int 0]) (r := []) (o := some (.int r6)) (by omega) rfl rfl rfl (v_mk_kd (k := 2) (rfl : v_kd 132 = 2) (by decide)) rfl (t_Cl_own (H := 192) (rec := f_Cl_from 64) (fun hD e => t_Cl_from 64 hD e) e6 (by omega)) ?_
        show s_Ek (s_rows 3 L xs) D s_e32.1 32 [(0, .ref 132), (1, .int b), (2, .int c), (3, .int d)] [.int r6] (v_mk s6) _
        obtain ⟨rfl, rfl⟩ := v_so h
        exact v_ret (fun _ => rfl)
      · refine v_i2f (T := 24) rfl rfl c5 ?_
        refine s_ek_bk 1 (P := 23) (ls' := [(0, .ref 132), (1, .int b), (2, .int c), (3, .int d)]) (st' := [.int 0]) (M' := v_mk s2) rfl ?_
        obtain ⟨rfl, rfl⟩ := v_so h
        exact v_ret (fun _ => rfl)
noncomputable def f_Ct_knows (b : Int32) (s : vS) : Option (Int32 × vS) := (if b.toInt < 0 then (some (0, s)) else (if (s.1 8 1).toInt ≤ b.toInt then (some (0, s)) else (some (1, s))))
set_option maxRecDepth 20000 in
set_option maxHeartbeats 4000000 in
theorem t_Ct_knows {L : Nat} {xs : Nat → Int32} {b : Int32} {D : Nat} {r : Int32} {s s' : vS} (h : f_Ct_knows b s = some (r, s')) (hD : 0 ≤ D) : s_Ek (s_rows 3 L xs) D s_e40.1 0 (lv_args 0 [.ref 8, .int b]) [] (v_mk s) (v_Q (some (.int r)) s') := by
  unfold f_Ct_knows at h
  show s_Ek (s_rows 3 L xs) D s_e40.1 0 [(0, .ref 8), (1, .int b)] [] (v_mk s) _
  refine s_ek_bk 1 (P := 1) (ls' := [(0, .ref 8), (1, .int b)]) (st' := [.int b]) (M' := v_mk s) rfl ?_
  rcases v_if h with ⟨c1, h⟩ | ⟨c1, h⟩
  · refine v_i1t (T := 16) rfl rfl c1 ?_
    refine s_ek_bk 1 (P := 17) (ls' := [(0, .ref 8), (1, .int b)]) (st' := [.int 0]) (M' := v_mk s) rfl ?_
    obtain ⟨rfl, rfl⟩ := v_so h
    exact v_ret (fun _ => rfl)
  · refine v_i1f (T := 16) rfl rfl c1 ?_
    refine s_ek_bk 2 (P := 6) (ls' := [(0, .ref 8), (1, .int b)]) (st' := [.ref 8, .int b]) (M' := v_mk s) rfl ?_
    refine v_gf rfl (v_gi (rfl : v_kd 8 = 3) rfl ⟨rfl, rfl, by decide⟩) ?_
    rcases v_if h with ⟨c2, h⟩ | ⟨c2, h⟩
    · refine v_i2t (T := 16) rfl rfl c2 ?_
      refine s_ek_bk 1 (P := 17) (ls' := [(0, .ref 8), (1, .int b)]) (st' := [.int 0]) (M' := v_mk s) rfl ?_
      obtain ⟨rfl, rfl⟩ := v_so h
      exact v_ret (fun _ => rfl)
    · refine v_i2f (T := 16) rfl rfl c2 ?_
      refine s_ek_bk 2 (P := 17) (ls' := [(0, .ref 8), (1, .int b)]) (st' := [.int 1]) (M' := v_mk s) rfl ?_
      obtain ⟨rfl, rfl⟩ := v_so h
      exact v_ret (fun _ => rfl)
noncomputable def f_Ct_at (b : Int32) (s : vS) : Option (Nat × vS) := (if b.toInt < 0 then (some (15, s)) else (if 10 ≤ b.toInt then (some (15, s)) else (if v_in b 10 then (if v_in b 10 then (some ((23 + 5 * (Int32.toNatClampNeg b)), s)) else none) else none)))
set_option maxRecDepth 20000 in
set_option maxHeartbeats 4000000 in
theorem t_Ct_at {L : Nat} {xs : Nat → Int32} {b : Int32} {D : Nat} {r : Nat} {s s' : vS} (h : f_Ct_at b s = some (r, s')) (hD : 0 ≤ D) : s_Ek (s_rows 3 L xs) D s_e41.1 0 (lv_args 0 [.ref 8, .int b]) [] (v_mk s) (v_Q (some (.ref r)) s') := by
  unfold f_Ct_at at h
  show s_Ek (s_rows 3 L xs) D s_e41.1 0 [(0, .ref 8), (1, .int b)] [] (v_mk s) _
  refine s_ek_bk 1 (P := 1) (ls' := [(0, .ref 8), (1, .int b)]) (st' := [.int b]) (M' := v_mk s) rfl ?_
  rcases v_if h with ⟨c1, h⟩ | ⟨c1, h⟩
  · refine v_i1t (T := 22) rfl rfl c1 ?_
    refine s_ek_bk 1 (P := 23) (ls' := [(0, .ref 8), (1, .int b)]) (st' := [.ref 8]) (M' := v_mk s) rfl ?_
    refine v_gf rfl (v_gr (rfl : v_kd 8 = 3) (rfl : v_sl 8 6 = .ref 15) ⟨rfl, rfl, by decide⟩) ?_
    obtain ⟨rfl, rfl⟩ := v_so h
    exact v_ret (fun _ => rfl)
  · refine v_i1f (T := 22) rfl rfl c1 ?_
    refine s_ek_bk 2 (P := 6) (ls' := [(0, .ref 8), (1, .int b)]) (st' := [.ref 8, .int b]) (M' := v_mk s) rfl ?_
    refine v_gf rfl (v_gr (rfl : v_kd 8 = 3) (rfl : v_sl 8 5 = .ref 14) ⟨rfl, rfl, by decide⟩) ?_
    refine v_alen (x := 10) rfl (by rw [v_len (rfl : v_kd 14 = 18) (by decide), (rfl : v_ln 14 = 10)]; rfl) ?_
    rcases v_if h with ⟨c2, h⟩ | ⟨c2, h⟩
    · refine v_i2t (T := 22) rfl rfl c2 ?_
      refine s_ek_bk 1 (P := 23) (ls' := [(0, .ref 8), (1, .int b)]) (st' := [.ref 8]) (M' := v_mk s) rfl ?_
      refine v_gf rfl (v_gr (rfl : v_kd 8 = 3) (rfl : v_sl 8 6 = .ref 15) ⟨rfl, rfl, by decide⟩) ?_
      obtain ⟨rfl, rfl⟩ := v_so h
      exact v_ret (fun _ => rfl)
    · refine v_i2f (T := 22) rfl rfl c2 ?_
      refine s_ek_bk 1 (P := 14) (ls' := [(0, .ref 8), (1, .int b)]) (st' := [.ref 8]) (M' := v_mk s) rfl ?_
      refine v_gf rfl (v_gr (rfl : v_kd 8 = 3) (rfl : v_sl 8 5 = .ref 14) ⟨rfl, rfl, by decide⟩) ?_
      refine s_ek_bk 1 (P := 18) (ls' := [(0, .ref 8), (1, .int b)]) (st' := [.int b, .ref 14]) (M' := v_mk s) rfl ?_
      obtain ⟨c3, h⟩ := v_ck h
      refine v_aa (i := b) rfl (v_ar (rfl : v_kd 14 = 18) rfl (by decide) (v_laws (v_ii c3.1 c3.2)).1 c3.1) ?_
      refine s_ek_bk 2 (P := 28) (ls' := [(0, .ref 8), (1, .int b)]) (st' := [.ref 8]) (M' := v_mk s) rfl ?_
      refine v_gf rfl (v_gr (rfl : v_kd 8 = 3) (rfl : v_sl 8 5 = .ref 14) ⟨rfl, rfl, by decide⟩) ?_
      refine s_ek_bk 1 (P := 32) (ls' := [(0, .ref 8), (1, .int b)]) (st' := [.int b, .ref 14]) (M' := v_mk s) rfl ?_
      obtain ⟨c4, h⟩ := v_ck h
      refine v_aa (i := b) rfl (v_ar (rfl : v_kd 14 = 18) rfl (by decide) (v_laws (v_ii c4.1 c4.2)).1 c4.1) ?_
      obtain ⟨rfl, rfl⟩ := v_so h
      exact v_ret (fun _ => rfl)
noncomputable def f_Ct_numbers (s : vS) : Option (Int32 × vS) := (some ((((1 : Int32) <<< ((s.1 8 1) &&& 31)) - (1 : Int32)), s))
set_option maxRecDepth 20000 in
set_option maxHeartbeats 4000000 in
theorem t_Ct_numbers {L : Nat} {xs : Nat → Int32} {D : Nat} {r : Int32} {s s' : vS} (h : f_Ct_numbers s = some (r, s')) (hD : 0 ≤ D) : s_Ek (s_rows 3 L xs) D s_e42.1 0 (lv_args 0 [.ref 8]) [] (v_mk s) (v_Q (some (.int r)) s') := by
  unfold f_Ct_numbers at h
  show s_Ek (s_rows 3 L xs) D s_e42.1 0 [(0, .ref 8)] [] (v_mk s) _
  refine s_ek_bk 2 (P := 2) (ls' := [(0, .ref 8)]) (st' := [.ref 8, .int 1]) (M' := v_mk s) rfl ?_
  refine v_gf rfl (v_gi (rfl : v_kd 8 = 3) rfl ⟨rfl, rfl, by decide⟩) ?_
  refine s_ek_bk 3 (P := 8) (ls' := [(0, .ref 8)]) (st' := [.int (((1 : Int32) <<< ((s.1 8 1) &&& 31)) - (1 : Int32))]) (M' := v_mk s) rfl ?_
  obtain ⟨rfl, rfl⟩ := v_so h
  exact v_ret (fun _ => rfl)
noncomputable def f_Tx_copyFrom (a : Nat) (b : Nat) (s : vS) : Option (Unit × vS) := (if v_cok (0 : Int32) (0 : Int32) (61 : Int32) 61 61 then (v_let (v_cp1 s (b + 1) 0 (a + 1) 0 61) (fun s2 => (v_let (v_w1 s2 a 2 (s2.1 b 2)) (fun s3 => (some ((), s3)))))) else none)
set_option maxRecDepth 20000 in
set_option maxHeartbeats 4000000 in
theorem t_Tx_copyFrom {L : Nat} {xs : Nat → Int32} {a : Nat} {b : Nat} (ha : v_kd a = 7) (hb : v_kd b = 7) {D : Nat} {r : Unit} {s s' : vS} (h : f_Tx_copyFrom a b s = some (r, s')) (hD : 1 ≤ D) : s_Ek (s_rows 3 L xs) D s_e104.1 0 (lv_args 0 [.ref a, .ref b]) [] (v_mk s) (v_Q none s') := by
  unfold f_Tx_copyFrom at h
  show s_Ek (s_rows 3 L xs) D s_e104.1 0 [(0, .ref a), (1, .ref b)] [] (v_mk s) _
  refine s_ek_bk 1 (P := 1) (ls' := [(0, .ref a), (1, .ref b)]) (st' := [.ref b]) (M' := v_mk s) rfl ?_
  refine v_gf rfl (v_gr hb (v_rK v_r7_0 (by decide) hb).1 ⟨rfl, rfl, by decide⟩) ?_
  refine s_ek_bk 2 (P := 6) (ls' := [(0, .ref a), (1, .ref b)]) (st' := [.ref a, .int 0, .ref (b + 1)]) (M' := v_mk s) rfl ?_
  refine v_gf rfl (v_gr ha (v_rK v_r7_0 (by decide) ha).1 ⟨rfl, rfl, by decide⟩) ?_
  refine s_ek_bk 2 (P := 11) (ls' := [(0, .ref a), (1, .ref b)]) (st' := [.ref a, .int 0, .ref (a + 1), .int 0, .ref (b + 1)]) (M' := v_mk s) rfl ?_
  refine v_gf rfl (v_gr ha (v_rK v_r7_0 (by decide) ha).1 ⟨rfl, rfl, by decide⟩) ?_
  refine v_alen (x := 61) rfl (by rw [v_len (v_rK v_r7_0 (by decide) ha).2.1 (by decide), (v_rK v_r7_0 (by decide) ha).2.2]; rfl) ?_
  obtain ⟨c1, h⟩ := v_ck h
  obtain ⟨s2, es2, h⟩ := v_ld h
  refine v_acp (by omega) (M2 := v_mk s2) (r := []) rfl (by rw [es2]; exact v_ac1 (v_rK v_r7_0 (by decide) hb).2.1 (v_rK v_r7_0 (by decide) ha).2.1 (v_ckn (v_rK v_r7_0 (by decide) hb).2.2 (v_rK v_r7_0 (by decide) ha).2.2 c1) rfl) v_keep ?_
  refine s_ek_bk 2 (P := 20) (ls' := [(0, .ref a), (1, .ref b)]) (st' := [.ref b, .ref a]) (M' := v_mk s2) rfl ?_
  refine v_gf rfl (v_gi hb (v_tK (j := 2) v_is7 (by decide) hb) ⟨rfl, rfl, by decide⟩) ?_
  obtain ⟨s3, es3, h⟩ := v_ld h
  refine v_pf (M' := v_mk s3) rfl (by rw [es3]; exact v_pi ha (v_tK (j := 2) v_is7 (by decide) ha) ⟨rfl, rfl, by decide⟩ rfl) ?_
  obtain ⟨rfl, rfl⟩ := v_so h
  exact v_ret (fun _ => rfl)
noncomputable def f_Ct_admit (b : Int32) (c : Int32) (d : Int32) (e : Nat) (s : vS) : Option (Int32 × vS) := (if (s.1 8 1).toInt < 10 then (v_bi (f_Ct_at (s.1 8 1) s) (fun r2 s2 => if v_kd r2 = 4 then (v_let (v_w1 s2 r2 1 b) (fun s4 => (v_let (v_w1 s4 r2 2 c) (fun s5 => (v_let (v_w1 s5 r2 3 d) (fun s6 => (v_bi (f_Tx_copyFrom (r2 + 1) e s6) (fun _ s7 => (v_let (v_w1 s7 8 1 ((s7.1 8 1) + (1 : Int32))) (fun s8 => (some ((s8.1 r2 0), s8)))))))))))) else none)) else (some ((-1), s)))
set_option maxRecDepth 20000 in
set_option maxHeartbeats 4000000 in
theorem t_Ct_admit {L : Nat} {xs : Nat → Int32} {b : Int32} {c : Int32} {d : Int32} {e : Nat} (he : v_kd e = 7) {D : Nat} {r : Int32} {s s' : vS} (h : f_Ct_admit b c d e s = some (r, s')) (hD : 2 ≤ D) : s_Ek (s_rows 3 L xs) D s_e43.1 0 (lv_args 0 [.ref 8, .int b, .int c, .int d, .ref e]) [] (v_mk s) (v_Q (some (.int r)) s') := by
  unfold f_Ct_admit at h
  show s_Ek (s_rows 3 L xs) D s_e43.1 0 [(0, .ref 8), (1, .int b), (2, .int c), (3, .int d), (4, .ref e)] [] (v_mk s) _
  refine s_ek_bk 1 (P := 1) (ls' := [(0, .ref 8), (1, .int b), (2, .int c), (3, .int d), (4, .ref e)]) (st' := [.ref 8]) (M' := v_mk s) rfl ?_
  refine v_gf rfl (v_gi (rfl : v_kd 8 = 3) rfl ⟨rfl, rfl, by decide⟩) ?_
  refine s_ek_bk 1 (P := 6) (ls' := [(0, .ref 8), (1, .int b), (2, .int c), (3, .int d), (4, .ref e)]) (st' := [.int 10, .int (s.1 8 1)]) (M' := v_mk s) rfl ?_
  rcases v_if h with ⟨c1, h⟩ | ⟨c1, h⟩
  · refine v_i2t (T := 11) rfl rfl c1 ?_
    refine s_ek_bk 2 (P := 13) (ls' := [(0, .ref 8), (1, .int b), (2, .int c), (3, .int d), (4, .ref e)]) (st' := [.ref 8, .ref 8]) (M' := v_mk s) rfl ?_
    refine v_gf rfl (v_gi (rfl : v_kd 8 = 3) rfl ⟨rfl, rfl, by decide⟩) ?_
    obtain ⟨r2, s2, e2, h⟩ := v_bd h
    refine v_cV (ν := s_e41.1) (w := 329) (a := 8) (as' := [.int (s.1 8 1)]) (r := []) (o := some (.ref r2)) (by omega) rfl rfl rfl (v_mk_kd (k := 3) (rfl : v_kd 8 = 3) (by decide)) rfl (t_Ct_at e2 (by omega)) ?_
    obtain ⟨c3, h⟩ := v_ck h
    show s_Ek (s_rows 3 L xs) D s_e43.1 19 [(0, .ref 8), (1, .int b), (2, .int c), (3, .int d), (4, .ref e)] [.ref r2] (v_mk s2) _
    refine s_ek_bk 3 (P := 24) (ls' := [(5, .ref r2), (0, .ref 8), (1, .int b), (2, .int c), (3, .int d), (4, .ref e)]) (st' := [.int b, .ref r2]) (M' := v_mk s2) rfl ?_
    obtain ⟨s4, es4, h⟩ := v_ld h
    refine v_pf (M' := v_mk s4) rfl (by rw [es4]; exact v_pi c3 (v_tK (j := 1) v_is4 (by decide) c3) ⟨rfl, rfl, by decide⟩ rfl) ?_
    refine s_ek_bk 2 (P := 30) (ls' := [(5, .ref r2), (0, .ref 8), (1, .int b), (2, .int c), (3, .int d), (4, .ref e)]) (st' := [.int c, .ref r2]) (M' := v_mk s4) rfl ?_
    obtain ⟨s5, es5, h⟩ := v_ld h
    refine v_pf (M' := v_mk s5) rfl (by rw [es5]; exact v_pi c3 (v_tK (j := 2) v_is4 (by decide) c3) ⟨rfl, rfl, by decide⟩ rfl) ?_
    refine s_ek_bk 2 (P := 36) (ls' := [(5, .ref r2), (0, .ref 8), (1, .int b), (2, .int c), (3, .int d), (4, .ref e)]) (st' := [.int d, .ref r2]) (M' := v_mk s5) rfl ?_
    obtain ⟨s6, es6, h⟩ := v_ld h
    refine v_pf (M' := v_mk s6) rfl (by rw [es6]; exact v_pi c3 (v_tK (j := 3) v_is4 (by decide) c3) ⟨rfl, rfl, by decide⟩ rfl) ?_
    refine s_ek_bk 1 (P := 41) (ls' := [(5, .ref r2), (0, .ref 8), (1, .int b), (2, .int c), (3, .int d), (4, .ref e)]) (st' := [.ref r2]) (M' := v_mk s6) rfl ?_
    refine v_gf rfl (v_gr c3 (v_rK v_r4_4 (by decide) c3).1 ⟨rfl, rfl, by decide⟩) ?_
    refine s_ek_bk 1 (P := 46) (ls' := [(5, .ref r2), (0, .ref 8), (1, .int b), (2, .int c), (3, .int d), (4, .ref e)]) (st' := [.ref e, .ref (r2 + 1)]) (M' := v_mk s6) rfl ?_
    obtain ⟨r7, s7, e7, h⟩ := v_bd h
    refine v_cV (ν := s_e104.1) (w := 833) (a := (r2 + 1)) (as' := [.ref e]) (r := []) (o := none) (by omega) rfl rfl rfl (v_mk_kd (k := 7) (v_rK v_r4_4 (by decide) c3).2.1 (by decide)) rfl (t_Tx_copyFrom (v_rK v_r4_4 (by decide) c3).2.1 he e7 (by omega)) ?_
    show s_Ek (s_rows 3 L xs) D s_e43.1 49 [(5, .ref r2), (0, .ref 8), (1, .int b), (2, .int c), (3, .int d), (4, .ref e)] [] (v_mk s7) _
    refine s_ek_bk 2 (P := 51) (ls' := [(5, .ref r2), (0, .ref 8), (1, .int b), (2, .int c), (3, .int d), (4, .ref e)]) (st' := [.ref 8, .ref 8]) (M' := v_mk s7) rfl ?_
    refine v_gf rfl (v_gi (rfl : v_kd 8 = 3) rfl ⟨rfl, rfl, by decide⟩) ?_
    refine s_ek_bk 2 (P := 56) (ls' := [(5, .ref r2), (0, .ref 8), (1, .int b), (2, .int c), (3, .int d), (4, .ref e)]) (st' := [.int ((s7.1 8 1) + (1 : Int32)), .ref 8]) (M' := v_mk s7) rfl ?_
    obtain ⟨s8, es8, h⟩ := v_ld h
    refine v_pf (M' := v_mk s8) rfl (by rw [es8]; exact v_pi (rfl : v_kd 8 = 3) rfl ⟨rfl, rfl, by decide⟩ rfl) ?_
    refine s_ek_bk 1 (P := 61) (ls' := [(5, .ref r2), (0, .ref 8), (1, .int b), (2, .int c), (3, .int d), (4, .ref e)]) (st' := [.ref r2]) (M' := v_mk s8) rfl ?_
    refine v_gf rfl (v_gi c3 (v_tK (j := 0) v_is4 (by decide) c3) ⟨rfl, rfl, by decide⟩) ?_
    obtain ⟨rfl, rfl⟩ := v_so h
    exact v_ret (fun _ => rfl)
  · refine v_i2f (T := 11) rfl rfl c1 ?_
    refine s_ek_bk 1 (P := 10) (ls' := [(0, .ref 8), (1, .int b), (2, .int c), (3, .int d), (4, .ref e)]) (st' := [.int (-1)]) (M' := v_mk s) rfl ?_
    obtain ⟨rfl, rfl⟩ := v_so h
    exact v_ret (fun _ => rfl)
noncomputable def f_Ct_valueOf (b : Int32) (c : Int32) (s : vS) : Option (Int32 × vS) := (v_bi (f_Ct_at b s) (fun r1 s1 => if v_kd r1 = 4 then (if c.toInt < 0 ∨ 3 < c.toInt then (some ((s1.1 8 3), s1)) else (if c.toInt = 0 then (some ((s1.1 r1 1), s1)) else (if c.toInt = 1 then (some ((s1.1 r1 2), s1)) else (if c.toInt = 2 then (some ((s1.1 r1 3), s1)) else (some ((s1.1 8 2), s1)))))) else none))
set_option maxRecDepth 20000 in
set_option maxHeartbeats 4000000 in
theorem t_Ct_valueOf {L : Nat} {xs : Nat → Int32} {b : Int32} {c : Int32} {D : Nat} {r : Int32} {s s' : vS} (h : f_Ct_valueOf b c s = some (r, s')) (hD : 1 ≤ D) : s_Ek (s_rows 3 L xs) D s_e44.1 0 (lv_args 0 [.ref 8, .int b, .int c]) [] (v_mk s) (v_Q (some (.int r)) s') := by
  unfold f_Ct_valueOf at h
  show s_Ek (s_rows 3 L xs) D s_e44.1 0 [(0, .ref 8), (1, .int b), (2, .int c)] [] (v_mk s) _
  refine s_ek_bk 2 (P := 2) (ls' := [(0, .ref 8), (1, .int b), (2, .int c)]) (st' := [.int b, .ref 8]) (M' := v_mk s) rfl ?_
  obtain ⟨r1, s1, e1, h⟩ := v_bd h
  refine v_cV (ν := s_e41.1) (w := 329) (a := 8) (as' := [.int b]) (r := []) (o := some (.ref r1)) (by omega) rfl rfl rfl (v_mk_kd (k := 3) (rfl : v_kd 8 = 3) (by decide)) rfl (t_Ct_at e1 (by omega)) ?_
  obtain ⟨c2, h⟩ := v_ck h
  show s_Ek (s_rows 3 L xs) D s_e44.1 5 [(0, .ref 8), (1, .int b), (2, .int c)] [.ref r1] (v_mk s1) _
  refine s_ek_bk 2 (P := 7) (ls' := [(3, .ref r1), (0, .ref 8), (1, .int b), (2, .int c)]) (st' := [.int c]) (M' := v_mk s1) rfl ?_
  rcases v_if h with ⟨c3, h⟩ | ⟨c3, h⟩
  · refine v_tso (T := 56) rfl rfl c3 ?_
    refine s_ek_bk 1 (P := 57) (ls' := [(3, .ref r1), (0, .ref 8), (1, .int b), (2, .int c)]) (st' := [.ref 8]) (M' := v_mk s1) rfl ?_
    refine v_gf rfl (v_gi (rfl : v_kd 8 = 3) rfl ⟨rfl, rfl, by decide⟩) ?_
    obtain ⟨rfl, rfl⟩ := v_so h
    exact v_ret (fun _ => rfl)
  · rcases v_if h with ⟨c4, h⟩ | ⟨c4, h⟩
    · refine v_tsi (T := 36) (c := 0) rfl c4 rfl ?_
      refine s_ek_bk 1 (P := 37) (ls' := [(3, .ref r1), (0, .ref 8), (1, .int b), (2, .int c)]) (st' := [.ref r1]) (M' := v_mk s1) rfl ?_
      refine v_gf rfl (v_gi c2 (v_tK (j := 1) v_is4 (by decide) c2) ⟨rfl, rfl, by decide⟩) ?_
      obtain ⟨rfl, rfl⟩ := v_so h
      exact v_ret (fun _ => rfl)
    · rcases v_if h with ⟨c5, h⟩ | ⟨c5, h⟩
      · refine v_tsi (T := 41) (c := 1) rfl c5 rfl ?_
        refine s_ek_bk 1 (P := 42) (ls' := [(3, .ref r1), (0, .ref 8), (1, .int b), (2, .int c)]) (st' := [.ref r1]) (M' := v_mk s1) rfl ?_
        refine v_gf rfl (v_gi c2 (v_tK (j := 2) v_is4 (by decide) c2) ⟨rfl, rfl, by decide⟩) ?_
        obtain ⟨rfl, rfl⟩ := v_so h
        exact v_ret (fun _ => rfl)
      · rcases v_if h with ⟨c6, h⟩ | ⟨c6, h⟩
        · refine v_tsi (T := 46) (c := 2) rfl c6 rfl ?_
          refine s_ek_bk 1 (P := 47) (ls' := [(3, .ref r1), (0, .ref 8), (1, .int b), (2, .int c)]) (st' := [.ref r1]) (M' := v_mk s1) rfl ?_
          refine v_gf rfl (v_gi c2 (v_tK (j := 3) v_is4 (by decide) c2) ⟨rfl, rfl, by decide⟩) ?_
          obtain ⟨rfl, rfl⟩ := v_so h
          exact v_ret (fun _ => rfl)
        · refine v_tsi (T := 51) (c := 3) rfl (by omega) rfl ?_
          refine s_ek_bk 1 (P := 52) (ls' := [(3, .ref r1), (0, .ref 8), (1, .int b), (2, .int c)]) (st' := [.ref 8]) (M' := v_mk s1) rfl ?_
          refine v_gf rfl (v_gi (rfl : v_kd 8 = 3) rfl ⟨rfl, rfl, by decide⟩) ?_
          obtain ⟨rfl, rfl⟩ := v_so h
          exact v_ret (fun _ => rfl)
noncomputable def f_Ct_set (b : Int32) (c : Int32) (d : Int32) (s : vS) : Option (Unit × vS) := (v_bi (f_Ct_at b s) (fun r1 s1 => if v_kd r1 = 4 then (if c.toInt < 0 ∨ 3 < c.toInt then (v_let (v_w1 s1 8 3 d) (fun s4 => (some ((), s4)))) else (if c.toInt = 0 then (v_let (v_w1 s1 r1 1 d) (fun s6 => (some ((), s6)))) else (if c.toInt = 1 then (v_let (v_w1 s1 r1 2 d) (fun s8 => (some ((), s8)))) else (if c.toInt = 2 then (v_let (v_w1 s1 r1 3 d) (fun s10 => (some ((), s10)))) else (v_let (v_w1 s1 8 2 d) (fun s11 => (some ((), s11)))))))) else none))
set_option maxRecDepth 20000 in
set_option maxHeartbeats 4000000 in
theorem t_Ct_set {L : Nat} {xs : Nat → Int32} {b : Int32} {c : Int32} {d : Int32} {D : Nat} {r : Unit} {s s' : vS} (h : f_Ct_set b c d s = some (r, s')) (hD : 1 ≤ D) : s_Ek (s_rows 3 L xs) D s_e45.1 0 (lv_args 0 [.ref 8, .int b, .int c, .int d]) [] (v_mk s) (v_Q none s') := by
  unfold f_Ct_set at h
  show s_Ek (s_rows 3 L xs) D s_e45.1 0 [(0, .ref 8), (1, .int b), (2, .int c), (3, .int d)] [] (v_mk s) _
  refine s_ek_bk 2 (P := 2) (ls' := [(0, .ref 8), (1, .int b), (2, .int c), (3, .int d)]) (st' := [.int b, .ref 8]) (M' := v_mk s) rfl ?_
  obtain ⟨r1, s1, e1, h⟩ := v_bd h
  refine v_cV (ν := s_e41.1) (w := 329) (a := 8) (as' := [.int b]) (r := []) (o := some (.ref r1)) (by omega) rfl rfl rfl (v_mk_kd (k := 3) (rfl : v_kd 8 = 3) (by decide)) rfl (t_Ct_at e1 (by omega)) ?_
  obtain ⟨c2, h⟩ := v_ck h
  show s_Ek (s_rows 3 L xs) D s_e45.1 5 [(0, .ref 8), (1, .int b), (2, .int c), (3, .int d)] [.ref r1] (v_mk s1) _
  refine s_ek_bk 2 (P := 8) (ls' := [(4, .ref r1), (0, .ref 8), (1, .int b), (2, .int c), (3, .int d)]) (st' := [.int c]) (M' := v_mk s1) rfl ?_
  rcases v_if h with ⟨c3, h⟩ | ⟨c3, h⟩
  · refine v_tso (T := 75) rfl rfl c3 ?_
    refine s_ek_bk 2 (P := 77) (ls' := [(4, .ref r1), (0, .ref 8), (1, .int b), (2, .int c), (3, .int d)]) (st' := [.int d, .ref 8]) (M' := v_mk s1) rfl ?_
    obtain ⟨s4, es4, h⟩ := v_ld h
    refine v_pf (M' := v_mk s4) rfl (by rw [es4]; exact v_pi (rfl : v_kd 8 = 3) rfl ⟨rfl, rfl, by decide⟩ rfl) ?_
    obtain ⟨rfl, rfl⟩ := v_so h
    exact v_ret (fun _ => rfl)
  · rcases v_if h with ⟨c5, h⟩ | ⟨c5, h⟩
    · refine v_tsi (T := 40) (c := 0) rfl c5 rfl ?_
      refine s_ek_bk 2 (P := 43) (ls' := [(4, .ref r1), (0, .ref 8), (1, .int b), (2, .int c), (3, .int d)]) (st' := [.int d, .ref r1]) (M' := v_mk s1) rfl ?_
      obtain ⟨s6, es6, h⟩ := v_ld h
      refine v_pf (M' := v_mk s6) rfl (by rw [es6]; exact v_pi c2 (v_tK (j := 1) v_is4 (by decide) c2) ⟨rfl, rfl, by decide⟩ rfl) ?_
      refine s_ek_bk 1 (P := 80) (ls' := [(4, .ref r1), (0, .ref 8), (1, .int b), (2, .int c), (3, .int d)]) (st' := []) (M' := v_mk s6) rfl ?_
      obtain ⟨rfl, rfl⟩ := v_so h
      exact v_ret (fun _ => rfl)
    · rcases v_if h with ⟨c7, h⟩ | ⟨c7, h⟩
      · refine v_tsi (T := 49) (c := 1) rfl c7 rfl ?_
        refine s_ek_bk 2 (P := 52) (ls' := [(4, .ref r1), (0, .ref 8), (1, .int b), (2, .int c), (3, .int d)]) (st' := [.int d, .ref r1]) (M' := v_mk s1) rfl ?_
        obtain ⟨s8, es8, h⟩ := v_ld h
        refine v_pf (M' := v_mk s8) rfl (by rw [es8]; exact v_pi c2 (v_tK (j := 2) v_is4 (by decide) c2) ⟨rfl, rfl, by decide⟩ rfl) ?_
        refine s_ek_bk 1 (P := 80) (ls' := [(4, .ref r1), (0, .ref 8), (1, .int b), (2, .int c), (3, .int d)]) (st' := []) (M' := v_mk s8) rfl ?_
        obtain ⟨rfl, rfl⟩ := v_so h
        exact v_ret (fun _ => rfl)
      · rcases v_if h with ⟨c9, h⟩ | ⟨c9, h⟩
        · refine v_tsi (T := 58) (c := 2) rfl c9 rfl ?_
          refine s_ek_bk 2 (P := 61) (ls' := [(4, .ref r1), (0, .ref 8), (1, .int b), (2, .int c), (3, .int d)]) (st' := [.int d, .ref r1]) (M' := v_mk s1) rfl ?_
          obtain ⟨s10, es10, h⟩ := v_ld h
          refine v_pf (M' := v_mk s10) rfl (by rw [es10]; exact v_pi c2 (v_tK (j := 3) v_is4 (by decide) c2) ⟨rfl, rfl, by decide⟩ rfl) ?_
          refine s_ek_bk 1 (P := 80) (ls' := [(4, .ref r1), (0, .ref 8), (1, .int b), (2, .int c), (3, .int d)]) (st' := []) (M' := v_mk s10) rfl ?_
          obtain ⟨rfl, rfl⟩ := v_so h
          exact v_ret (fun _ => rfl)
        · refine v_tsi (T := 67) (c := 3) rfl (by omega) rfl ?_
          refine s_ek_bk 2 (P := 69) (ls' := [(4, .ref r1), (0, .ref 8), (1, .int b), (2, .int c), (3, .int d)]) (st' := [.int d, .ref 8]) (M' := v_mk s1) rfl ?_
          obtain ⟨s11, es11, h⟩ := v_ld h
          refine v_pf (M' := v_mk s11) rfl (by rw [es11]; exact v_pi (rfl : v_kd 8 = 3) rfl ⟨rfl, rfl, by decide⟩ rfl) ?_
          refine s_ek_bk 1 (P := 80) (ls' := [(4, .ref r1), (0, .ref 8), (1, .int b), (2, .int c), (3, .int d)]) (st' := []) (M' := v_mk s11) rfl ?_
          obtain ⟨rfl, rfl⟩ := v_so h
          exact v_ret (fun _ => rfl)
noncomputable def f_Ct_isThere (b : Int32) (s : vS) : Option (Int32 × vS) := (v_bi (f_Ct_knows b s) (fun r1 s1 => (if r1.toInt = 0 then (some (0, s1)) else (v_bi (f_Ct_at b s1) (fun r3 s3 => if v_kd r3 = 4 then (if (s3.1 8 3).toInt < (s3.1 r3 1).toInt then (some (0, s3)) else (some (1, s3))) else none)))))
set_option maxRecDepth 20000 in
set_option maxHeartbeats 4000000 in
theorem t_Ct_isThere {L : Nat} {xs : Nat → Int32} {b : Int32} {D : Nat} {r : Int32} {s s' : vS} (h : f_Ct_isThere b s = some (r, s')) (hD : 1 ≤ D) : s_Ek (s_rows 3 L xs) D s_e46.1 0 (lv_args 0 [.ref 8, .int b]) [] (v_mk s) (v_Q (some (.int r)) s') := by
  unfold f_Ct_isThere at h
  show s_Ek (s_rows 3 L xs) D s_e46.1 0 [(0, .ref 8), (1, .int b)] [] (v_mk s) _
  refine s_ek_bk 2 (P := 2) (ls' := [(0, .ref 8), (1, .int b)]) (st' := [.int b, .ref 8]) (M' := v_mk s) rfl ?_
  obtain ⟨r1, s1, e1, h⟩ := v_bd h
  refine v_cV (ν := s_e40.1) (w := 321) (a := 8) (as' := [.int b]) (r := []) (o := some (.int r1)) (by omega) rfl rfl rfl (v_mk_kd (k := 3) (rfl : v_kd 8 = 3) (by decide)) rfl (t_Ct_knows e1 (by omega)) ?_
  show s_Ek (s_rows 3 L xs) D s_e46.1 5 [(0, .ref 8), (1, .int b)] [.int r1] (v_mk s1) _
  rcases v_if h with ⟨c2, h⟩ | ⟨c2, h⟩
  · refine v_i1t (T := 27) rfl rfl c2 ?_
    refine s_ek_bk 1 (P := 28) (ls' := [(0, .ref 8), (1, .int b)]) (st' := [.int 0]) (M' := v_mk s1) rfl ?_
    obtain ⟨rfl, rfl⟩ := v_so h
    exact v_ret (fun _ => rfl)
  · refine v_i1f (T := 27) rfl rfl c2 ?_
    refine s_ek_bk 2 (P := 10) (ls' := [(0, .ref 8), (1, .int b)]) (st' := [.int b, .ref 8]) (M' := v_mk s1) rfl ?_
    obtain ⟨r3, s3, e3, h⟩ := v_bd h
    refine v_cV (ν := s_e41.1) (w := 329) (a := 8) (as' := [.int b]) (r := []) (o := some (.ref r3)) (by omega) rfl rfl rfl (v_mk_kd (k := 3) (rfl : v_kd 8 = 3) (by decide)) rfl (t_Ct_at e3 (by omega)) ?_
    obtain ⟨c4, h⟩ := v_ck h
    show s_Ek (s_rows 3 L xs) D s_e46.1 13 [(0, .ref 8), (1, .int b)] [.ref r3] (v_mk s3) _
    refine v_gf rfl (v_gi c4 (v_tK (j := 1) v_is4 (by decide) c4) ⟨rfl, rfl, by decide⟩) ?_
    refine s_ek_bk 1 (P := 17) (ls' := [(0, .ref 8), (1, .int b)]) (st' := [.ref 8, .int (s3.1 r3 1)]) (M' := v_mk s3) rfl ?_
    refine v_gf rfl (v_gi (rfl : v_kd 8 = 3) rfl ⟨rfl, rfl, by decide⟩) ?_
    rcases v_if h with ⟨c5, h⟩ | ⟨c5, h⟩
    · refine v_i2t (T := 27) rfl rfl c5 ?_
      refine s_ek_bk 1 (P := 28) (ls' := [(0, .ref 8), (1, .int b)]) (st' := [.int 0]) (M' := v_mk s3) rfl ?_
      obtain ⟨rfl, rfl⟩ := v_so h
      exact v_ret (fun _ => rfl)
    · refine v_i2f (T := 27) rfl rfl c5 ?_
      refine s_ek_bk 2 (P := 28) (ls' := [(0, .ref 8), (1, .int b)]) (st' := [.int 1]) (M' := v_mk s3) rfl ?_
      obtain ⟨rfl, rfl⟩ := v_so h
      exact v_ret (fun _ => rfl)
noncomputable def f_Ct_there_L4b (k32 : Int32 → vS → Option (Int32 × vS)) (again : Int32 → Int32 → vS → Option (Int32 × vS)) (v1 : Int32) (v2 : Int32) (s : vS) : Option (Int32 × vS) := (if (s.1 8 1).toInt ≤ v2.toInt then (k32 v1 s) else (v_bi (f_Ct_isThere v2 s) (fun r102 s102 => (if r102.toInt = 0 then (again v1 (v2 + 1) s102) else (again (v1 ||| ((1 : Int32) <<< (v2 &&& 31))) (v2 + 1) s102)))))
noncomputable def f_Ct_there_L4 (k32 : Int32 → vS → Option (Int32 × vS)) (n : Nat) : Int32 → Int32 → vS → Option (Int32 × vS) := Nat.rec (motive := fun _ => Int32 → Int32 → vS → Option (Int32 × vS)) (fun _ _ _ => none) (fun _ again => f_Ct_there_L4b k32 again) n
noncomputable def f_Ct_there (s : vS) : Option (Int32 × vS) := (f_Ct_there_L4 (fun w1 s2 => (some (w1, s2))) 4096 0 0 s)
set_option maxRecDepth 20000 in
set_option maxHeartbeats 4000000 in
theorem t_Ct_there_L4 {L : Nat} {xs : Nat → Int32} {k32 : Int32 → vS → Option (Int32 × vS)} {D : Nat} (hD : 2 ≤ D) {r : Int32} {s' : vS} (hk32 : ∀ (v1 : Int32) (s : vS), k32 v1 s = some (r, s') → s_Ek (s_rows 3 L xs) D s_e47.1 32 [(1, .int v1)] [] (v_mk s) (v_Q (some (.int r)) s')) : ∀ (n : Nat) (v1 : Int32) (v2 : Int32) (s : vS), f_Ct_there_L4 k32 n v1 v2 s = some (r, s') → s_Ek (s_rows 3 L xs) D s_e47.1 4 [(0, .ref 8), (1, .int v1), (2, .int v2)] [] (v_mk s) (v_Q (some (.int r)) s') := by
  intro n
  induction n with
  | zero => intro v1 v2 s h; exact nomatch (show (none : Option (Int32 × vS)) = some (r, s') from h)
  | succ n ih =>
    intro v1 v2 s h
    replace h : f_Ct_there_L4b k32 (f_Ct_there_L4 k32 n) v1 v2 s = some (r, s') := h
    unfold f_Ct_there_L4b at h
    refine s_ek_bk 2 (P := 6) (ls' := [(0, .ref 8), (1, .int v1), (2, .int v2)]) (st' := [.ref 8, .int v2]) (M' := v_mk s) rfl ?_
    refine v_gf rfl (v_gi (rfl : v_kd 8 = 3) rfl ⟨rfl, rfl, by decide⟩) ?_
    rcases v_if h with ⟨c101, h⟩ | ⟨c101, h⟩
    · refine v_i2t (T := 32) rfl rfl c101 ?_
      refine v_ls (ls' := [(1, .int v1)]) ⟨rfl, trivial⟩ (show ([1] : List Nat).Nodup from by decide) ?_
      exact hk32 _ _ h
    · refine v_i2f (T := 32) rfl rfl c101 ?_
      refine s_ek_bk 2 (P := 14) (ls' := [(0, .ref 8), (1, .int v1), (2, .int v2)]) (st' := [.int v2, .ref 8]) (M' := v_mk s) rfl ?_
      obtain ⟨r102, s102, e102, h⟩ := v_bd h
      refine v_cV (ν := s_e46.1) (w := 369) (a := 8) (as' := [.int v2]) (r := []) (o := some (.int r102)) (by omega) rfl rfl rfl (v_mk_kd (k := 3) (rfl : v_kd 8 = 3) (by decide)) rfl (t_Ct_isThere e102 (by omega)) ?_
      show s_Ek (s_rows 3 L xs) D s_e47.1 17 [(0, .ref 8), (1, .int v1), (2, .int v2)] [.int r102] (v_mk s102) _
      rcases v_if h with ⟨c103, h⟩ | ⟨c103, h⟩
      · refine v_i1t (T := 26) rfl rfl c103 ?_
        refine s_ek_bk 2 (P := 4) (ls' := [(2, .int (v2 + 1)), (0, .ref 8), (1, .int v1)]) (st' := []) (M' := v_mk s102) rfl ?_
        refine v_ls (ls' := [(0, .ref 8), (1, .int v1), (2, .int (v2 + 1))]) ⟨rfl, rfl, rfl, trivial⟩ (show ([0, 1, 2] : List Nat).Nodup from by decide) ?_
        exact ih _ _ _ h
      · refine v_i1f (T := 26) rfl rfl c103 ?_
        refine s_ek_bk 8 (P := 4) (ls' := [(2, .int (v2 + 1)), (1, .int (v1 ||| ((1 : Int32) <<< (v2 &&& 31)))), (0, .ref 8)]) (st' := []) (M' := v_mk s102) rfl ?_
        refine v_ls (ls' := [(0, .ref 8), (1, .int (v1 ||| ((1 : Int32) <<< (v2 &&& 31)))), (2, .int (v2 + 1))]) ⟨rfl, rfl, rfl, trivial⟩ (show ([0, 1, 2] : List Nat).Nodup from by decide) ?_
        exact ih _ _ _ h
set_option maxRecDepth 20000 in
set_option maxHeartbeats 4000000 in
theorem t_Ct_there {L : Nat} {xs : Nat → Int32} {D : Nat} {r : Int32} {s s' : vS} (h : f_Ct_there s = some (r, s')) (hD : 2 ≤ D) : s_Ek (s_rows 3 L xs) D s_e47.1 0 (lv_args 0 [.ref 8]) [] (v_mk s) (v_Q (some (.int r)) s') := by
  unfold f_Ct_there at h
  show s_Ek (s_rows 3 L xs) D s_e47.1 0 [(0, .ref 8)] [] (v_mk s) _
  refine s_ek_bk 4 (P := 4) (ls' := [(2, .int 0), (1, .int 0), (0, .ref 8)]) (st' := []) (M' := v_mk s) rfl ?_
  refine v_ls (ls' := [(0, .ref 8), (1, .int 0), (2, .int 0)]) ⟨rfl, rfl, rfl, trivial⟩ (show ([0, 1, 2] : List Nat).Nodup from by decide) ?_
  refine t_Ct_there_L4 (by omega) (fun w1 s2 h => ?_) 4096 _ _ _ h
  show s_Ek (s_rows 3 L xs) D s_e47.1 32 [(1, .int w1)] [] (v_mk s2) _
  refine s_ek_bk 1 (P := 33) (ls' := [(1, .int w1)]) (st' := [.int w1]) (M' := v_mk s2) rfl ?_
  obtain ⟨rfl, rfl⟩ := v_so h
  exact v_ret (fun _ => rfl)
noncomputable def f_Lw_isOlderThan (a : Nat) (b : Nat) (s : vS) : Option (Int32 × vS) := (if (s.1 a 1).toInt < (s.1 b 1).toInt then (some (1, s)) else (if (s.1 a 1).toInt = (s.1 b 1).toInt then (if (s.1 b 0).toInt ≤ (s.1 a 0).toInt then (some (0, s)) else (some (1, s))) else (some (0, s))))
set_option maxRecDepth 20000 in
set_option maxHeartbeats 4000000 in
theorem t_Lw_isOlderThan {L : Nat} {xs : Nat → Int32} {a : Nat} {b : Nat} (ha : v_kd a = 4) (hb : v_kd b = 4) {D : Nat} {r : Int32} {s s' : vS} (h : f_Lw_isOlderThan a b s = some (r, s')) (hD : 0 ≤ D) : s_Ek (s_rows 3 L xs) D s_e61.1 0 (lv_args 0 [.ref a, .ref b]) [] (v_mk s) (v_Q (some (.int r)) s') := by
  unfold f_Lw_isOlderThan at h
  show s_Ek (s_rows 3 L xs) D s_e61.1 0 [(0, .ref a), (1, .ref b)] [] (v_mk s) _
  refine s_ek_bk 1 (P := 1) (ls' := [(0, .ref a), (1, .ref b)]) (st' := [.ref a]) (M' := v_mk s) rfl ?_
  refine v_gf rfl (v_gi ha (v_tK (j := 1) v_is4 (by decide) ha) ⟨rfl, rfl, by decide⟩) ?_
  refine s_ek_bk 1 (P := 5) (ls' := [(0, .ref a), (1, .ref b)]) (st' := [.ref b, .int (s.1 a 1)]) (M' := v_mk s) rfl ?_
  refine v_gf rfl (v_gi hb (v_tK (j := 1) v_is4 (by decide) hb) ⟨rfl, rfl, by decide⟩) ?_
  rcases v_if h with ⟨c1, h⟩ | ⟨c1, h⟩
  · refine v_i2t (T := 33) rfl rfl c1 ?_
    refine s_ek_bk 2 (P := 38) (ls' := [(0, .ref a), (1, .ref b)]) (st' := [.int 1]) (M' := v_mk s) rfl ?_
    obtain ⟨rfl, rfl⟩ := v_so h
    exact v_ret (fun _ => rfl)
  · refine v_i2f (T := 33) rfl rfl c1 ?_
    refine s_ek_bk 1 (P := 12) (ls' := [(0, .ref a), (1, .ref b)]) (st' := [.ref a]) (M' := v_mk s) rfl ?_
    refine v_gf rfl (v_gi ha (v_tK (j := 1) v_is4 (by decide) ha) ⟨rfl, rfl, by decide⟩) ?_
    refine s_ek_bk 1 (P := 16) (ls' := [(0, .ref a), (1, .ref b)]) (st' := [.ref b, .int (s.1 a 1)]) (M' := v_mk s) rfl ?_
    refine v_gf rfl (v_gi hb (v_tK (j := 1) v_is4 (by decide) hb) ⟨rfl, rfl, by decide⟩) ?_
    rcases v_if h with ⟨c2, h⟩ | ⟨c2, h⟩
    · refine v_i2f (T := 37) rfl rfl (fun q => q c2) ?_
      refine s_ek_bk 1 (P := 23) (ls' := [(0, .ref a), (1, .ref b)]) (st' := [.ref a]) (M' := v_mk s) rfl ?_
      refine v_gf rfl (v_gi ha (v_tK (j := 0) v_is4 (by decide) ha) ⟨rfl, rfl, by decide⟩) ?_
      refine s_ek_bk 1 (P := 27) (ls' := [(0, .ref a), (1, .ref b)]) (st' := [.ref b, .int (s.1 a 0)]) (M' := v_mk s) rfl ?_
      refine v_gf rfl (v_gi hb (v_tK (j := 0) v_is4 (by decide) hb) ⟨rfl, rfl, by decide⟩) ?_
      rcases v_if h with ⟨c3, h⟩ | ⟨c3, h⟩
      · refine v_i2t (T := 37) rfl rfl c3 ?_
        refine s_ek_bk 1 (P := 38) (ls' := [(0, .ref a), (1, .ref b)]) (st' := [.int 0]) (M' := v_mk s) rfl ?_
        obtain ⟨rfl, rfl⟩ := v_so h
        exact v_ret (fun _ => rfl)
      · refine v_i2f (T := 37) rfl rfl c3 ?_
        refine s_ek_bk 2 (P := 38) (ls' := [(0, .ref a), (1, .ref b)]) (st' := [.int 1]) (M' := v_mk s) rfl ?_
        obtain ⟨rfl, rfl⟩ := v_so h
        exact v_ret (fun _ => rfl)
    · refine v_i2t (T := 37) rfl rfl c2 ?_
      refine s_ek_bk 1 (P := 38) (ls' := [(0, .ref a), (1, .ref b)]) (st' := [.int 0]) (M' := v_mk s) rfl ?_
      obtain ⟨rfl, rfl⟩ := v_so h
      exact v_ret (fun _ => rfl)
noncomputable def f_Ct_sortByAge_L21b (p1 : Int32) (k68 : Int32 → vS → Option (Unit × vS)) (again : Int32 → vS → Option (Unit × vS)) (v2 : Int32) (s : vS) : Option (Unit × vS) := (if v2.toInt ≤ 0 then (k68 v2 s) else (v_bi (f_Ct_at p1 s) (fun r304 s304 => if v_kd r304 = 4 then (if v_in (v2 - (1 : Int32)) 10 then (v_bi (f_Ct_at (s304.1 20 (Int32.toNatClampNeg (v2 - (1 : Int32)))) s304) (fun r307 s307 => if v_kd r307 = 4 then (v_bi (f_Lw_isOlderThan r304 r307 s307) (fun r309 s309 => (if r309.toInt = 0 then (k68 v2 s309) else (if v_in (v2 - (1 : Int32)) 10 then (if v_in v2 10 then (v_let (v_w1 s309 20 (Int32.toNatClampNeg v2) (s309.1 20 (Int32.toNatClampNeg (v2 - (1 : Int32))))) (fun s313 => (again (v2 + (-1)) s313))) else none) else none)))) else none)) else none) else none)))
noncomputable def f_Ct_sortByAge_L21 (p1 : Int32) (k68 : Int32 → vS → Option (Unit × vS)) (n : Nat) : Int32 → vS → Option (Unit × vS) := Nat.rec (motive := fun _ => Int32 → vS → Option (Unit × vS)) (fun _ _ => none) (fun _ again => f_Ct_sortByAge_L21b p1 k68 again) n
noncomputable def f_Ct_sortByAge_L2b (k81 : vS → Option (Unit × vS)) (again : Int32 → vS → Option (Unit × vS)) (v1 : Int32) (s : vS) : Option (Unit × vS) := (if (s.1 8 1).toInt ≤ v1.toInt then (k81 s) else (if 10 ≤ v1.toInt then (k81 s) else (f_Ct_sortByAge_L21 v1 (fun w103 s104 => (if v_in w103 10 then (v_let (v_w1 s104 20 (Int32.toNatClampNeg w103) v1) (fun s106 => (again (v1 + 1) s106))) else none)) 4096 v1 s)))
noncomputable def f_Ct_sortByAge_L2 (k81 : vS → Option (Unit × vS)) (n : Nat) : Int32 → vS → Option (Unit × vS) := Nat.rec (motive := fun _ => Int32 → vS → Option (Unit × vS)) (fun _ _ => none) (fun _ again => f_Ct_sortByAge_L2b k81 again) n
noncomputable def f_Ct_sortByAge (s : vS) : Option (Unit × vS) := (f_Ct_sortByAge_L2 (fun s1 => (some ((), s1))) 4096 0 s)
set_option maxRecDepth 20000 in
set_option maxHeartbeats 4000000 in
theorem t_Ct_sortByAge_L21 {L : Nat} {xs : Nat → Int32} {p1 : Int32} {k68 : Int32 → vS → Option (Unit × vS)} {D : Nat} (hD : 1 ≤ D) {r : Unit} {s' : vS} (hk68 : ∀ (v2 : Int32) (s : vS), k68 v2 s = some (r, s') → s_Ek (s_rows 3 L xs) D s_e49.1 68 [(0, .ref 8), (1, .int p1), (2, .int v2)] [] (v_mk s) (v_Q none s')) : ∀ (n : Nat) (v2 : Int32) (s : vS), f_Ct_sortByAge_L21 p1 k68 n v2 s = some (r, s') → s_Ek (s_rows 3 L xs) D s_e49.1 21 [(0, .ref 8), (1, .int p1), (2, .int v2)] [] (v_mk s) (v_Q none s') := by
  intro n
  induction n with
  | zero => intro v2 s h; exact nomatch (show (none : Option (Unit × vS)) = some (r, s') from h)
  | succ n ih =>
    intro v2 s h
    replace h : f_Ct_sortByAge_L21b p1 k68 (f_Ct_sortByAge_L21 p1 k68 n) v2 s = some (r, s') := h
    unfold f_Ct_sortByAge_L21b at h
    refine s_ek_bk 1 (P := 22) (ls' := [(0, .ref 8), (1, .int p1), (2, .int v2)]) (st' := [.int v2]) (M' := v_mk s) rfl ?_
    rcases v_if h with ⟨c303, h⟩ | ⟨c303, h⟩
    · refine v_i1t (T := 68) rfl rfl c303 ?_
      refine v_ls (ls' := [(0, .ref 8), (1, .int p1), (2, .int v2)]) ⟨rfl, rfl, rfl, trivial⟩ (show ([0, 1, 2] : List Nat).Nodup from by decide) ?_
      exact hk68 _ _ h
    · refine v_i1f (T := 68) rfl rfl c303 ?_
      refine s_ek_bk 2 (P := 27) (ls' := [(0, .ref 8), (1, .int p1), (2, .int v2)]) (st' := [.int p1, .ref 8]) (M' := v_mk s) rfl ?_
      obtain ⟨r304, s304, e304, h⟩ := v_bd h
      refine v_cV (ν := s_e41.1) (w := 329) (a := 8) (as' := [.int p1]) (r := []) (o := some (.ref r304)) (by omega) rfl rfl rfl (v_mk_kd (k := 3) (rfl : v_kd 8 = 3) (by decide)) rfl (t_Ct_at e304 (by omega)) ?_
      obtain ⟨c305, h⟩ := v_ck h
      show s_Ek (s_rows 3 L xs) D s_e49.1 30 [(0, .ref 8), (1, .int p1), (2, .int v2)] [.ref r304] (v_mk s304) _
      refine s_ek_bk 2 (P := 32) (ls' := [(0, .ref 8), (1, .int p1), (2, .int v2)]) (st' := [.ref 8, .ref 8, .ref r304]) (M' := v_mk s304) rfl ?_
      refine v_gf rfl (v_gr (rfl : v_kd 8 = 3) (rfl : v_sl 8 7 = .ref 20) ⟨rfl, rfl, by decide⟩) ?_
      refine s_ek_bk 3 (P := 38) (ls' := [(0, .ref 8), (1, .int p1), (2, .int v2)]) (st' := [.int (v2 - (1 : Int32)), .ref 20, .ref 8, .ref r304]) (M' := v_mk s304) rfl ?_
      obtain ⟨c306, h⟩ := v_ck h
      refine v_ia (i := (v2 - (1 : Int32))) rfl (v_ai (rfl : v_kd 20 = 13) rfl (by decide) v_all13 (v_cn (rfl : v_ln 20 = 10) c306)) ?_
      obtain ⟨r307, s307, e307, h⟩ := v_bd h
      refine v_cV (ν := s_e41.1) (w := 329) (a := 8) (as' := [.int (s304.1 20 (Int32.toNatClampNeg (v2 - (1 : Int32))))]) (r := [.ref r304]) (o := some (.ref r307)) (by omega) rfl rfl rfl (v_mk_kd (k := 3) (rfl : v_kd 8 = 3) (by decide)) rfl (t_Ct_at e307 (by omega)) ?_
      obtain ⟨c308, h⟩ := v_ck h
      show s_Ek (s_rows 3 L xs) D s_e49.1 42 [(0, .ref 8), (1, .int p1), (2, .int v2)] [.ref r307, .ref r304] (v_mk s307) _
      obtain ⟨r309, s309, e309, h⟩ := v_bd h
      refine v_cV (ν := s_e61.1) (w := 489) (a := r304) (as' := [.ref r307]) (r := []) (o := some (.int r309)) (by omega) rfl rfl rfl (v_mk_kd (k := 4) c305 (by decide)) rfl (t_Lw_isOlderThan c305 c308 e309 (by omega)) ?_
      show s_Ek (s_rows 3 L xs) D s_e49.1 45 [(0, .ref 8), (1, .int p1), (2, .int v2)] [.int r309] (v_mk s309) _
      rcases v_if h with ⟨c310, h⟩ | ⟨c310, h⟩
      · refine v_i1t (T := 68) rfl rfl c310 ?_
        refine v_ls (ls' := [(0, .ref 8), (1, .int p1), (2, .int v2)]) ⟨rfl, rfl, rfl, trivial⟩ (show ([0, 1, 2] : List Nat).Nodup from by decide) ?_
        exact hk68 _ _ h
      · refine v_i1f (T := 68) rfl rfl c310 ?_
        refine s_ek_bk 1 (P := 49) (ls' := [(0, .ref 8), (1, .int p1), (2, .int v2)]) (st' := [.ref 8]) (M' := v_mk s309) rfl ?_
        refine v_gf rfl (v_gr (rfl : v_kd 8 = 3) (rfl : v_sl 8 7 = .ref 20) ⟨rfl, rfl, by decide⟩) ?_
        refine s_ek_bk 2 (P := 54) (ls' := [(0, .ref 8), (1, .int p1), (2, .int v2)]) (st' := [.ref 8, .int v2, .ref 20]) (M' := v_mk s309) rfl ?_
        refine v_gf rfl (v_gr (rfl : v_kd 8 = 3) (rfl : v_sl 8 7 = .ref 20) ⟨rfl, rfl, by decide⟩) ?_
        refine s_ek_bk 3 (P := 60) (ls' := [(0, .ref 8), (1, .int p1), (2, .int v2)]) (st' := [.int (v2 - (1 : Int32)), .ref 20, .int v2, .ref 20]) (M' := v_mk s309) rfl ?_
        obtain ⟨c311, h⟩ := v_ck h
        refine v_ia (i := (v2 - (1 : Int32))) rfl (v_ai (rfl : v_kd 20 = 13) rfl (by decide) v_all13 (v_cn (rfl : v_ln 20 = 10) c311)) ?_
        obtain ⟨c312, h⟩ := v_ck h
        obtain ⟨s313, es313, h⟩ := v_ld h
        refine v_ist (M' := v_mk s313) (i := v2) rfl (by rw [es313]; exact v_pai (rfl : v_kd 20 = 13) rfl (by decide) v_all13 (v_cn (rfl : v_ln 20 = 10) c312)) ?_
        refine s_ek_bk 2 (P := 21) (ls' := [(2, .int (v2 + (-1))), (0, .ref 8), (1, .int p1)]) (st' := []) (M' := v_mk s313) rfl ?_
        refine v_ls (ls' := [(0, .ref 8), (1, .int p1), (2, .int (v2 + (-1)))]) ⟨rfl, rfl, rfl, trivial⟩ (show ([0, 1, 2] : List Nat).Nodup from by decide) ?_
        exact ih _ _ h
set_option maxRecDepth 20000 in
set_option maxHeartbeats 4000000 in
theorem t_Ct_sortByAge_L2 {L : Nat} {xs : Nat → Int32} {k81 : vS → Option (Unit × vS)} {D : Nat} (hD : 1 ≤ D) {r : Unit} {s' : vS} (hk81 : ∀ (s : vS), k81 s = some (r, s') → s_Ek (s_rows 3 L xs) D s_e49.1 81 [] [] (v_mk s) (v_Q none s')) : ∀ (n : Nat) (v1 : Int32) (s : vS), f_Ct_sortByAge_L2 k81 n v1 s = some (r, s') → s_Ek (s_rows 3 L xs) D s_e49.1 2 [(0, .ref 8), (1, .int v1)] [] (v_mk s) (v_Q none s') := by
  intro n
  induction n with
  | zero => intro v1 s h; exact nomatch (show (none : Option (Unit × vS)) = some (r, s') from h)
  | succ n ih =>
    intro v1 s h
    replace h : f_Ct_sortByAge_L2b k81 (f_Ct_sortByAge_L2 k81 n) v1 s = some (r, s') := h
    unfold f_Ct_sortByAge_L2b at h
    refine s_ek_bk 2 (P := 4) (ls' := [(0, .ref 8), (1, .int v1)]) (st' := [.ref 8, .int v1]) (M' := v_mk s) rfl ?_
    refine v_gf rfl (v_gi (rfl : v_kd 8 = 3) rfl ⟨rfl, rfl, by decide⟩) ?_
    rcases v_if h with ⟨c101, h⟩ | ⟨c101, h⟩
    · refine v_i2t (T := 81) rfl rfl c101 ?_
      refine v_ls (ls' := []) trivial (show ([] : List Nat).Nodup from by decide) ?_
      exact hk81 _ h
    · refine v_i2f (T := 81) rfl rfl c101 ?_
      refine s_ek_bk 2 (P := 12) (ls' := [(0, .ref 8), (1, .int v1)]) (st' := [.ref 8, .int v1]) (M' := v_mk s) rfl ?_
      refine v_gf rfl (v_gr (rfl : v_kd 8 = 3) (rfl : v_sl 8 7 = .ref 20) ⟨rfl, rfl, by decide⟩) ?_
      refine v_alen (x := 10) rfl (by rw [v_len (rfl : v_kd 20 = 13) (by decide), (rfl : v_ln 20 = 10)]; rfl) ?_
      rcases v_if h with ⟨c102, h⟩ | ⟨c102, h⟩
      · refine v_i2t (T := 81) rfl rfl c102 ?_
        refine v_ls (ls' := []) trivial (show ([] : List Nat).Nodup from by decide) ?_
        exact hk81 _ h
      · refine v_i2f (T := 81) rfl rfl c102 ?_
        refine s_ek_bk 2 (P := 21) (ls' := [(2, .int v1), (0, .ref 8), (1, .int v1)]) (st' := []) (M' := v_mk s) rfl ?_
        refine v_ls (ls' := [(0, .ref 8), (1, .int v1), (2, .int v1)]) ⟨rfl, rfl, rfl, trivial⟩ (show ([0, 1, 2] : List Nat).Nodup from by decide) ?_
        refine t_Ct_sortByAge_L21 (by omega) (fun w103 s104 h => ?_) 4096 _ _ h
        show s_Ek (s_rows 3 L xs) D s_e49.1 68 [(0, .ref 8), (1, .int v1), (2, .int w103)] [] (v_mk s104) _
        refine s_ek_bk 1 (P := 69) (ls' := [(0, .ref 8), (1, .int v1), (2, .int w103)]) (st' := [.ref 8]) (M' := v_mk s104) rfl ?_
        refine v_gf rfl (v_gr (rfl : v_kd 8 = 3) (rfl : v_sl 8 7 = .ref 20) ⟨rfl, rfl, by decide⟩) ?_
        refine s_ek_bk 2 (P := 74) (ls' := [(0, .ref 8), (1, .int v1), (2, .int w103)]) (st' := [.int v1, .int w103, .ref 20]) (M' := v_mk s104) rfl ?_
        obtain ⟨c105, h⟩ := v_ck h
        obtain ⟨s106, es106, h⟩ := v_ld h
        refine v_ist (M' := v_mk s106) (i := w103) rfl (by rw [es106]; exact v_pai (rfl : v_kd 20 = 13) rfl (by decide) v_all13 (v_cn (rfl : v_ln 20 = 10) c105)) ?_
        refine s_ek_bk 2 (P := 2) (ls' := [(1, .int (v1 + 1)), (0, .ref 8), (2, .int w103)]) (st' := []) (M' := v_mk s106) rfl ?_
        refine v_ls (ls' := [(0, .ref 8), (1, .int (v1 + 1))]) ⟨rfl, rfl, trivial⟩ (show ([0, 1] : List Nat).Nodup from by decide) ?_
        exact ih _ _ h
set_option maxRecDepth 20000 in
set_option maxHeartbeats 4000000 in
theorem t_Ct_sortByAge {L : Nat} {xs : Nat → Int32} {D : Nat} {r : Unit} {s s' : vS} (h : f_Ct_sortByAge s = some (r, s')) (hD : 1 ≤ D) : s_Ek (s_rows 3 L xs) D s_e49.1 0 (lv_args 0 [.ref 8]) [] (v_mk s) (v_Q none s') := by
  unfold f_Ct_sortByAge at h
  show s_Ek (s_rows 3 L xs) D s_e49.1 0 [(0, .ref 8)] [] (v_mk s) _
  refine s_ek_bk 2 (P := 2) (ls' := [(1, .int 0), (0, .ref 8)]) (st' := []) (M' := v_mk s) rfl ?_
  refine v_ls (ls' := [(0, .ref 8), (1, .int 0)]) ⟨rfl, rfl, trivial⟩ (show ([0, 1] : List Nat).Nodup from by decide) ?_
  refine t_Ct_sortByAge_L2 (by omega) (fun s1 h => ?_) 4096 _ _ h
  show s_Ek (s_rows 3 L xs) D s_e49.1 81 [] [] (v_mk s1) _
  obtain ⟨rfl, rfl⟩ := v_so h
  exact v_ret (fun _ => rfl)
noncomputable def f_Ct_standWithout_L19b (p2 : Int32) (k112 : vS → Option (Unit × vS)) (again : Int32 → Int32 → vS → Option (Unit × vS)) (v3 : Int32) (v4 : Int32) (s : vS) : Option (Unit × vS) := (if (s.1 8 1).toInt ≤ v4.toInt then (k112 s) else (if 10 ≤ v4.toInt then (k112 s) else (if v_in v4 10 then (if (p2 &&& ((1 : Int32) <<< ((s.1 20 (Int32.toNatClampNeg v4)) &&& 31))).toInt = 0 then (again v3 (v4 + 1) s) else (if (v3 &&& ((1 : Int32) <<< ((s.1 20 (Int32.toNatClampNeg v4)) &&& 31))).toInt = 0 then (v_let (v_w1 s 8 4 ((s.1 8 4) ||| ((1 : Int32) <<< ((s.1 20 (Int32.toNatClampNeg v4)) &&& 31)))) (fun s108 => (if v_in v4 10 then (v_bi (f_Ct_at (s108.1 20 (Int32.toNatClampNeg v4)) s108) (fun r110 s110 => if v_kd r110 = 4 then (if 0 ≤ (s110.1 r110 3).toInt then (again (v3 ||| ((1 : Int32) <<< ((s110.1 r110 3) &&& 31))) (v4 + 1) s110) else (again (v3 ||| (0 : Int32)) (v4 + 1) s110)) else none)) else none))) else (again v3 (v4 + 1) s))) else none)))
noncomputable def f_Ct_standWithout_L19 (p2 : Int32) (k112 : vS → Option (Unit × vS)) (n : Nat) : Int32 → Int32 → vS → Option (Unit × vS) := Nat.rec (motive := fun _ => Int32 → Int32 → vS → Option (Unit × vS)) (fun _ _ _ => none) (fun _ again => f_Ct_standWithout_L19b p2 k112 again) n
noncomputable def f_Ct_standWithout (b : Int32) (s : vS) : Option (Unit × vS) := (v_bi (f_Ct_there s) (fun r1 s1 => (v_let (v_w1 s1 8 4 0) (fun s2 => (f_Ct_standWithout_L19 (r1 &&& (b ^^^ ((-1) : Int32))) (fun s3 => (some ((), s3))) 4096 0 0 s2)))))
set_option maxRecDepth 20000 in
set_option maxHeartbeats 4000000 in
theorem t_Ct_standWithout_L19 {L : Nat} {xs : Nat → Int32} {p2 : Int32} {k112 : vS → Option (Unit × vS)} {D : Nat} (hD : 3 ≤ D) {r : Unit} {s' : vS} (hk112 : ∀ (s : vS), k112 s = some (r, s') → s_Ek (s_rows 3 L xs) D s_e50.1 112 [] [] (v_mk s) (v_Q none s')) : ∀ (n : Nat) (v3 : Int32) (v4 : Int32) (s : vS), f_Ct_standWithout_L19 p2 k112 n v3 v4 s = some (r, s') → s_Ek (s_rows 3 L xs) D s_e50.1 19 [(0, .ref 8), (2, .int p2), (3, .int v3), (4, .int v4)] [] (v_mk s) (v_Q none s') := by
  intro n
  induction n with
  | zero => intro v3 v4 s h; exact nomatch (show (none : Option (Unit × vS)) = some (r, s') from h)
  | succ n ih =>
    intro v3 v4 s h
    replace h : f_Ct_standWithout_L19b p2 k112 (f_Ct_standWithout_L19 p2 k112 n) v3 v4 s = some (r, s') := h
    unfold f_Ct_standWithout_L19b at h
    refine s_ek_bk 2 (P := 22) (ls' := [(0, .ref 8), (2, .int p2), (3, .int v3), (4, .int v4)]) (st' := [.ref 8, .int v4]) (M' := v_mk s) rfl ?_
    refine v_gf rfl (v_gi (rfl : v_kd 8 = 3) rfl ⟨rfl, rfl, by decide⟩) ?_
    rcases v_if h with ⟨c103, h⟩ | ⟨c103, h⟩
    · refine v_i2t (T := 112) rfl rfl c103 ?_
      refine v_ls (ls' := []) trivial (show ([] : List Nat).Nodup from by decide) ?_
      exact hk112 _ h
    · refine v_i2f (T := 112) rfl rfl c103 ?_
      refine s_ek_bk 2 (P := 31) (ls' := [(0, .ref 8), (2, .int p2), (3, .int v3), (4, .int v4)]) (st' := [.ref 8, .int v4]) (M' := v_mk s) rfl ?_
      refine v_gf rfl (v_gr (rfl : v_kd 8 = 3) (rfl : v_sl 8 7 = .ref 20) ⟨rfl, rfl, by decide⟩) ?_
      refine v_alen (x := 10) rfl (by rw [v_len (rfl : v_kd 20 = 13) (by decide), (rfl : v_ln 20 = 10)]; rfl) ?_
      rcases v_if h with ⟨c104, h⟩ | ⟨c104, h⟩
      · refine v_i2t (T := 112) rfl rfl c104 ?_
        refine v_ls (ls' := []) trivial (show ([] : List Nat).Nodup from by decide) ?_
        exact hk112 _ h
      · refine v_i2f (T := 112) rfl rfl c104 ?_
        refine s_ek_bk 2 (P := 40) (ls' := [(0, .ref 8), (2, .int p2), (3, .int v3), (4, .int v4)]) (st' := [.ref 8, .int 1]) (M' := v_mk s) rfl ?_
        refine v_gf rfl (v_gr (rfl : v_kd 8 = 3) (rfl : v_sl 8 7 = .ref 20) ⟨rfl, rfl, by decide⟩) ?_
        refine s_ek_bk 1 (P := 45) (ls' := [(0, .ref 8), (2, .int p2), (3, .int v3), (4, .int v4)]) (st' := [.int v4, .ref 20, .int 1]) (M' := v_mk s) rfl ?_
        obtain ⟨c105, h⟩ := v_ck h
        refine v_ia (i := v4) rfl (v_ai (rfl : v_kd 20 = 13) rfl (by decide) v_all13 (v_cn (rfl : v_ln 20 = 10) c105)) ?_
        refine s_ek_bk 5 (P := 53) (ls' := [(5, .int ((1 : Int32) <<< ((s.1 20 (Int32.toNatClampNeg v4)) &&& 31))), (0, .ref 8), (2, .int p2), (3, .int v3), (4, .int v4)]) (st' := [.int (p2 &&& ((1 : Int32) <<< ((s.1 20 (Int32.toNatClampNeg v4)) &&& 31)))]) (M' := v_mk s) rfl ?_
        rcases v_if h with ⟨c106, h⟩ | ⟨c106, h⟩
        · refine v_i1t (T := 106) rfl rfl c106 ?_
          refine s_ek_bk 2 (P := 19) (ls' := [(4, .int (v4 + 1)), (5, .int ((1 : Int32) <<< ((s.1 20 (Int32.toNatClampNeg v4)) &&& 31))), (0, .ref 8), (2, .int p2), (3, .int v3)]) (st' := []) (M' := v_mk s) rfl ?_
          refine v_ls (ls' := [(0, .ref 8), (2, .int p2), (3, .int v3), (4, .int (v4 + 1))]) ⟨rfl, rfl, rfl, rfl, trivial⟩ (show ([0, 2, 3, 4] : List Nat).Nodup from by decide) ?_
          exact ih _ _ _ h
        · refine v_i1f (T := 106) rfl rfl c106 ?_
          refine s_ek_bk 3 (P := 60) (ls' := [(5, .int ((1 : Int32) <<< ((s.1 20 (Int32.toNatClampNeg v4)) &&& 31))), (0, .ref 8), (2, .int p2), (3, .int v3), (4, .int v4)]) (st' := [.int (v3 &&& ((1 : Int32) <<< ((s.1 20 (Int32.toNatClampNeg v4)) &&& 31)))]) (M' := v_mk s) rfl ?_
          rcases v_if h with ⟨c107, h⟩ | ⟨c107, h⟩
          · refine v_i1f (T := 106) rfl rfl (fun q => q c107) ?_
            refine s_ek_bk 2 (P := 65) (ls' := [(5, .int ((1 : Int32) <<< ((s.1 20 (Int32.toNatClampNeg v4)) &&& 31))), (0, .ref 8), (2, .int p2), (3, .int v3), (4, .int v4)]) (st' := [.ref 8, .ref 8]) (M' := v_mk s) rfl ?_
            refine v_gf rfl (v_gi (rfl : v_kd 8 = 3) rfl ⟨rfl, rfl, by decide⟩) ?_
            refine s_ek_bk 2 (P := 71) (ls' := [(5, .int ((1 : Int32) <<< ((s.1 20 (Int32.toNatClampNeg v4)) &&& 31))), (0, .ref 8), (2, .int p2), (3, .int v3), (4, .int v4)]) (st' := [.int ((s.1 8 4) ||| ((1 : Int32) <<< ((s.1 20 (Int32.toNatClampNeg v4)) &&& 31))), .ref 8]) (M' := v_mk s) rfl ?_
            obtain ⟨s108, es108, h⟩ := v_ld h
            refine v_pf (M' := v_mk s108) rfl (by rw [es108]; exact v_pi (rfl : v_kd 8 = 3) rfl ⟨rfl, rfl, by decide⟩ rfl) ?_
            refine s_ek_bk 2 (P := 76) (ls' := [(5, .int ((1 : Int32) <<< ((s.1 20 (Int32.toNatClampNeg v4)) &&& 31))), (0, .ref 8), (2, .int p2), (3, .int v3), (4, .int v4)]) (st' := [.ref 8, .ref 8]) (M' := v_mk s108) rfl ?_
            refine v_gf rfl (v_gr (rfl : v_kd 8 = 3) (rfl : v_sl 8 7 = .ref 20) ⟨rfl, rfl, by decide⟩) ?_
            refine s_ek_bk 1 (P := 81) (ls' := [(5, .int ((1 : Int32) <<< ((s.1 20 (Int32.toNatClampNeg v4)) &&& 31))), (0, .ref 8), (2, .int p2), (3, .int v3), (4, .int v4)]) (st' := [.int v4, .ref 20, .ref 8]) (M' := v_mk s108) rfl ?_
            obtain ⟨c109, h⟩ := v_ck h
            refine v_ia (i := v4) rfl (v_ai (rfl : v_kd 20 = 13) rfl (by decide) v_all13 (v_cn (rfl : v_ln 20 = 10) c109)) ?_
            obtain ⟨r110, s110, e110, h⟩ := v_bd h
            refine v_cV (ν := s_e41.1) (w := 329) (a := 8) (as' := [.int (s108.1 20 (Int32.toNatClampNeg v4))]) (r := []) (o := some (.ref r110)) (by omega) rfl rfl rfl (v_mk_kd (k := 3) (rfl : v_kd 8 = 3) (by decide)) rfl (t_Ct_at e110 (by omega)) ?_
            obtain ⟨c111, h⟩ := v_ck h
            show s_Ek (s_rows 3 L xs) D s_e50.1 85 [(5, .int ((1 : Int32) <<< ((s.1 20 (Int32.toNatClampNeg v4)) &&& 31))), (0, .ref 8), (2, .int p2), (3, .int v3), (4, .int v4)] [.ref r110] (v_mk s110) _
            refine v_gf rfl (v_gi c111 (v_tK (j := 3) v_is4 (by decide) c111) ⟨rfl, rfl, by decide⟩) ?_
            refine s_ek_bk 3 (P := 93) (ls' := [(6, .int (s110.1 r110 3)), (5, .int ((1 : Int32) <<< ((s.1 20 (Int32.toNatClampNeg v4)) &&& 31))), (0, .ref 8), (2, .int p2), (3, .int v3), (4, .int v4)]) (st' := [.int (s110.1 r110 3), .int v3]) (M' := v_mk s110) rfl ?_
            rcases v_if h with ⟨c112, h⟩ | ⟨c112, h⟩
            · refine v_i1t (T := 100) rfl rfl c112 ?_
              refine s_ek_bk 7 (P := 19) (ls' := [(4, .int (v4 + 1)), (3, .int (v3 ||| ((1 : Int32) <<< ((s110.1 r110 3) &&& 31)))), (6, .int (s110.1 r110 3)), (5, .int ((1 : Int32) <<< ((s.1 20 (Int32.toNatClampNeg v4)) &&& 31))), (0, .ref 8), (2, .int p2)]) (st' := []) (M' := v_mk s110) rfl ?_
              refine v_ls (ls' := [(0, .ref 8), (2, .int p2), (3, .int (v3 ||| ((1 : Int32) <<< ((s110.1 r110 3) &&& 31)))), (4, .int (v4 + 1))]) ⟨rfl, rfl, rfl, rfl, trivial⟩ (show ([0, 2, 3, 4] : List Nat).Nodup from by decide) ?_
              exact ih _ _ _ h
            · refine v_i1f (T := 100) rfl rfl c112 ?_
              refine s_ek_bk 6 (P := 19) (ls' := [(4, .int (v4 + 1)), (3, .int (v3 ||| (0 : Int32))), (6, .int (s110.1 r110 3)), (5, .int ((1 : Int32) <<< ((s.1 20 (Int32.toNatClampNeg v4)) &&& 31))), (0, .ref 8), (2, .int p2)]) (st' := []) (M' := v_mk s110) rfl ?_
              refine v_ls (ls' := [(0, .ref 8), (2, .int p2), (3, .int (v3 ||| (0 : Int32))), (4, .int (v4 + 1))]) ⟨rfl, rfl, rfl, rfl, trivial⟩ (show ([0, 2, 3, 4] : List Nat).Nodup from by decide) ?_
              exact ih _ _ _ h
          · refine v_i1t (T := 106) rfl rfl c107 ?_
            refine s_ek_bk 2 (P := 19) (ls' := [(4, .int (v4 + 1)), (5, .int ((1 : Int32) <<< ((s.1 20 (Int32.toNatClampNeg v4)) &&& 31))), (0, .ref 8), (2, .int p2), (3, .int v3)]) (st' := []) (M' := v_mk s) rfl ?_
            refine v_ls (ls' := [(0, .ref 8), (2, .int p2), (3, .int v3), (4, .int (v4 + 1))]) ⟨rfl, rfl, rfl, rfl, trivial⟩ (show ([0, 2, 3, 4] : List Nat).Nodup from by decide) ?_
            exact ih _ _ _ h
set_option maxRecDepth 20000 in
set_option maxHeartbeats 4000000 in
theorem t_Ct_standWithout {L : Nat} {xs : Nat → Int32} {b : Int32} {D : Nat} {r : Unit} {s s' : vS} (h : f_Ct_standWithout b s = some (r, s')) (hD : 3 ≤ D) : s_Ek (s_rows 3 L xs) D s_e50.1 0 (lv_args 0 [.ref 8, .int b]) [] (v_mk s) (v_Q none s') := by
  unfold f_Ct_standWithout at h
  show s_Ek (s_rows 3 L xs) D s_e50.1 0 [(0, .ref 8), (1, .int b)] [] (v_mk s) _
  refine s_ek_bk 1 (P := 1) (ls' := [(0, .ref 8), (1, .int b)]) (st' := [.ref 8]) (M' := v_mk s) rfl ?_
  obtain ⟨r1, s1, e1, h⟩ := v_bd h
  refine v_cV (ν := s_e47.1) (w := 376) (a := 8) (as' := []) (r := []) (o := some (.int r1)) (by omega) rfl rfl rfl (v_mk_kd (k := 3) (rfl : v_kd 8 = 3) (by decide)) rfl (t_Ct_there e1 (by omega)) ?_
  show s_Ek (s_rows 3 L xs) D s_e50.1 4 [(0, .ref 8), (1, .int b)] [.int r1] (v_mk s1) _
  refine s_ek_bk 9 (P := 13) (ls' := [(3, .int 0), (2, .int (r1 &&& (b ^^^ ((-1) : Int32)))), (0, .ref 8), (1, .int b)]) (st' := [.int 0, .ref 8]) (M' := v_mk s1) rfl ?_
  obtain ⟨s2, es2, h⟩ := v_ld h
  refine v_pf (M' := v_mk s2) rfl (by rw [es2]; exact v_pi (rfl : v_kd 8 = 3) rfl ⟨rfl, rfl, by decide⟩ rfl) ?_
  refine s_ek_bk 2 (P := 19) (ls' := [(4, .int 0), (3, .int 0), (2, .int (r1 &&& (b ^^^ ((-1) : Int32)))), (0, .ref 8), (1, .int b)]) (st' := []) (M' := v_mk s2) rfl ?_
  refine v_ls (ls' := [(0, .ref 8), (2, .int (r1 &&& (b ^^^ ((-1) : Int32)))), (3, .int 0), (4, .int 0)]) ⟨rfl, rfl, rfl, rfl, trivial⟩ (show ([0, 2, 3, 4] : List Nat).Nodup from by decide) ?_
  refine t_Ct_standWithout_L19 (by omega) (fun s3 h => ?_) 4096 _ _ _ h
  show s_Ek (s_rows 3 L xs) D s_e50.1 112 [] [] (v_mk s3) _
  obtain ⟨rfl, rfl⟩ := v_so h
  exact v_ret (fun _ => rfl)
noncomputable def f_Tx_valueAt (a : Nat) (b : Int32) (s : vS) : Option (Int32 × vS) := (if b.toInt < 0 then (some (0, s)) else (if 61 ≤ b.toInt then (some (0, s)) else (if v_in b 61 then (some ((s.1 (a + 2) (Int32.toNatClampNeg b)), s)) else none)))
set_option maxRecDepth 20000 in
set_option maxHeartbeats 4000000 in
theorem t_Tx_valueAt {L : Nat} {xs : Nat → Int32} {a : Nat} {b : Int32} (ha : v_kd a = 7) {D : Nat} {r : Int32} {s s' : vS} (h : f_Tx_valueAt a b s = some (r, s')) (hD : 0 ≤ D) : s_Ek (s_rows 3 L xs) D s_e106.1 0 (lv_args 0 [.ref a, .int b]) [] (v_mk s) (v_Q (some (.int r)) s') := by
  unfold f_Tx_valueAt at h
  show s_Ek (s_rows 3 L xs) D s_e106.1 0 [(0, .ref a), (1, .int b)] [] (v_mk s) _
  refine s_ek_bk 1 (P := 1) (ls' := [(0, .ref a), (1, .int b)]) (st' := [.int b]) (M' := v_mk s) rfl ?_
  rcases v_if h with ⟨c1, h⟩ | ⟨c1, h⟩
  · refine v_i1t (T := 22) rfl rfl c1 ?_
    refine s_ek_bk 1 (P := 23) (ls' := [(0, .ref a), (1, .int b)]) (st' := [.int 0]) (M' := v_mk s) rfl ?_
    obtain ⟨rfl, rfl⟩ := v_so h
    exact v_ret (fun _ => rfl)
  · refine v_i1f (T := 22) rfl rfl c1 ?_
    refine s_ek_bk 2 (P := 6) (ls' := [(0, .ref a), (1, .int b)]) (st' := [.ref a, .int b]) (M' := v_mk s) rfl ?_
    refine v_gf rfl (v_gr ha (v_rK v_r7_1 (by decide) ha).1 ⟨rfl, rfl, by decide⟩) ?_
    refine v_alen (x := 61) rfl (by rw [v_len (v_rK v_r7_1 (by decide) ha).2.1 (by decide), (v_rK v_r7_1 (by decide) ha).2.2]; rfl) ?_
    rcases v_if h with ⟨c2, h⟩ | ⟨c2, h⟩
    · refine v_i2t (T := 22) rfl rfl c2 ?_
      refine s_ek_bk 1 (P := 23) (ls' := [(0, .ref a), (1, .int b)]) (st' := [.int 0]) (M' := v_mk s) rfl ?_
      obtain ⟨rfl, rfl⟩ := v_so h
      exact v_ret (fun _ => rfl)
    · refine v_i2f (T := 22) rfl rfl c2 ?_
      refine s_ek_bk 1 (P := 14) (ls' := [(0, .ref a), (1, .int b)]) (st' := [.ref a]) (M' := v_mk s) rfl ?_
      refine v_gf rfl (v_gr ha (v_rK v_r7_1 (by decide) ha).1 ⟨rfl, rfl, by decide⟩) ?_
      refine s_ek_bk 1 (P := 18) (ls' := [(0, .ref a), (1, .int b)]) (st' := [.int b, .ref (a + 2)]) (M' := v_mk s) rfl ?_
      obtain ⟨c3, h⟩ := v_ck h
      refine v_ia (i := b) rfl (v_ai (v_rK v_r7_1 (by decide) ha).2.1 rfl (by decide) v_all13 (v_cn (v_rK v_r7_1 (by decide) ha).2.2 c3)) ?_
      refine s_ek_bk 1 (P := 23) (ls' := [(0, .ref a), (1, .int b)]) (st' := [.int (s.1 (a + 2) (Int32.toNatClampNeg b))]) (M' := v_mk s) rfl ?_
      obtain ⟨rfl, rfl⟩ := v_so h
      exact v_ret (fun _ => rfl)
noncomputable def f_Tx_named (b : Int32) (s : vS) : Option (Int32 × vS) := (if b.toInt < 0 then (some (0, s)) else (if 6 ≤ b.toInt then (some (0, s)) else (if v_in b 6 then (some ((s.1 21 (Int32.toNatClampNeg b)), s)) else none)))
set_option maxRecDepth 20000 in
set_option maxHeartbeats 4000000 in
theorem t_Tx_named {L : Nat} {xs : Nat → Int32} {b : Int32} {D : Nat} {r : Int32} {s s' : vS} (h : f_Tx_named b s = some (r, s')) (hD : 0 ≤ D) : s_Ek (s_rows 3 L xs) D s_e107.1 0 (lv_args 0 [.int b, .ref 21]) [] (v_mk s) (v_Q (some (.int r)) s') := by
  unfold f_Tx_named at h
  show s_Ek (s_rows 3 L xs) D s_e107.1 0 [(0, .int b), (1, .ref 21)] [] (v_mk s) _
  refine s_ek_bk 1 (P := 1) (ls' := [(0, .int b), (1, .ref 21)]) (st' := [.int b]) (M' := v_mk s) rfl ?_
  rcases v_if h with ⟨c1, h⟩ | ⟨c1, h⟩
  · refine v_i1t (T := 16) rfl rfl c1 ?_
    refine s_ek_bk 1 (P := 17) (ls' := [(0, .int b), (1, .ref 21)]) (st' := [.int 0]) (M' := v_mk s) rfl ?_
    obtain ⟨rfl, rfl⟩ := v_so h
    exact v_ret (fun _ => rfl)
  · refine v_i1f (T := 16) rfl rfl c1 ?_
    refine s_ek_bk 2 (P := 6) (ls' := [(0, .int b), (1, .ref 21)]) (st' := [.ref 21, .int b]) (M' := v_mk s) rfl ?_
    refine v_alen (x := 6) rfl (by rw [v_len (rfl : v_kd 21 = 13) (by decide), (rfl : v_ln 21 = 6)]; rfl) ?_
    rcases v_if h with ⟨c2, h⟩ | ⟨c2, h⟩
    · refine v_i2t (T := 16) rfl rfl c2 ?_
      refine s_ek_bk 1 (P := 17) (ls' := [(0, .int b), (1, .ref 21)]) (st' := [.int 0]) (M' := v_mk s) rfl ?_
      obtain ⟨rfl, rfl⟩ := v_so h
      exact v_ret (fun _ => rfl)
    · refine v_i2f (T := 16) rfl rfl c2 ?_
      refine s_ek_bk 2 (P := 12) (ls' := [(0, .int b), (1, .ref 21)]) (st' := [.int b, .ref 21]) (M' := v_mk s) rfl ?_
      obtain ⟨c3, h⟩ := v_ck h
      refine v_ia (i := b) rfl (v_ai (rfl : v_kd 21 = 13) rfl (by decide) v_all13 (v_cn (rfl : v_ln 21 = 6) c3)) ?_
      refine s_ek_bk 1 (P := 17) (ls' := [(0, .int b), (1, .ref 21)]) (st' := [.int (s.1 21 (Int32.toNatClampNeg b))]) (M' := v_mk s) rfl ?_
      obtain ⟨rfl, rfl⟩ := v_so h
      exact v_ret (fun _ => rfl)
noncomputable def f_Tx_bit (b : Int32) (s : vS) : Option (Int32 × vS) := (if b.toInt = 0 then (some (0, s)) else (some (1, s)))
set_option maxRecDepth 20000 in
set_option maxHeartbeats 4000000 in
theorem t_Tx_bit {L : Nat} {xs : Nat → Int32} {b : Int32} {D : Nat} {r : Int32} {s s' : vS} (h : f_Tx_bit b s = some (r, s')) (hD : 0 ≤ D) : s_Ek (s_rows 3 L xs) D s_e111.1 0 (lv_args 0 [.int b]) [] (v_mk s) (v_Q (some (.int r)) s') := by
  unfold f_Tx_bit at h
  show s_Ek (s_rows 3 L xs) D s_e111.1 0 [(0, .int b)] [] (v_mk s) _
  refine s_ek_bk 1 (P := 1) (ls' := [(0, .int b)]) (st' := [.int b]) (M' := v_mk s) rfl ?_
  rcases v_if h with ⟨c1, h⟩ | ⟨c1, h⟩
  · refine v_i1t (T := 8) rfl rfl c1 ?_
    refine s_ek_bk 1 (P := 9) (ls' := [(0, .int b)]) (st' := [.int 0]) (M' := v_mk s) rfl ?_
    obtain ⟨rfl, rfl⟩ := v_so h
    exact v_ret (fun _ => rfl)
  · refine v_i1f (T := 8) rfl rfl c1 ?_
    refine s_ek_bk 2 (P := 9) (ls' := [(0, .int b)]) (st' := [.int 1]) (M' := v_mk s) rfl ?_
    obtain ⟨rfl, rfl⟩ := v_so h
    exact v_ret (fun _ => rfl)
noncomputable def f_Tx_alone (b : Int32) (c : Int32) (s : vS) : Option (Int32 × vS) := (if b.toInt = 33 then (if c.toInt = 0 then (v_bi (f_Tx_bit 1 s) (fun r3 s3 => (some (r3, s3)))) else (v_bi (f_Tx_bit 0 s) (fun r4 s4 => (some (r4, s4))))) else (some ((-c), s)))
set_option maxRecDepth 20000 in
set_option maxHeartbeats 4000000 in
theorem t_Tx_alone {L : Nat} {xs : Nat → Int32} {b : Int32} {c : Int32} {D : Nat} {r : Int32} {s s' : vS} (h : f_Tx_alone b c s = some (r, s')) (hD : 1 ≤ D) : s_Ek (s_rows 3 L xs) D s_e109.1 0 (lv_args 0 [.int b, .int c]) [] (v_mk s) (v_Q (some (.int r)) s') := by
  unfold f_Tx_alone at h
  show s_Ek (s_rows 3 L xs) D s_e109.1 0 [(0, .int b), (1, .int c)] [] (v_mk s) _
  refine s_ek_bk 2 (P := 3) (ls' := [(0, .int b), (1, .int c)]) (st' := [.int 33, .int b]) (M' := v_mk s) rfl ?_
  rcases v_if h with ⟨c1, h⟩ | ⟨c1, h⟩
  · refine v_i2f (T := 21) rfl rfl (fun q => q c1) ?_
    refine s_ek_bk 1 (P := 7) (ls' := [(0, .int b), (1, .int c)]) (st' := [.int c]) (M' := v_mk s) rfl ?_
    rcases v_if h with ⟨c2, h⟩ | ⟨c2, h⟩
    · refine v_i1f (T := 14) rfl rfl (fun q => q c2) ?_
      refine s_ek_bk 2 (P := 15) (ls' := [(0, .int b), (1, .int c)]) (st' := [.int 1]) (M' := v_mk s) rfl ?_
      obtain ⟨r3, s3, e3, h⟩ := v_bd h
      refine v_cS (ν := s_e111.1) (w := 889) (as := [.int 1]) (r := []) (o := some (.int r3)) (by omega) rfl rfl rfl rfl (t_Tx_bit e3 (by omega)) ?_
      show s_Ek (s_rows 3 L xs) D s_e109.1 18 [(0, .int b), (1, .int c)] [.int r3] (v_mk s3) _
      refine s_ek_bk 1 (P := 23) (ls' := [(0, .int b), (1, .int c)]) (st' := [.int r3]) (M' := v_mk s3) rfl ?_
      obtain ⟨rfl, rfl⟩ := v_so h
      exact v_ret (fun _ => rfl)
    · refine v_i1t (T := 14) rfl rfl c2 ?_
      refine s_ek_bk 1 (P := 15) (ls' := [(0, .int b), (1, .int c)]) (st' := [.int 0]) (M' := v_mk s) rfl ?_
      obtain ⟨r4, s4, e4, h⟩ := v_bd h
      refine v_cS (ν := s_e111.1) (w := 889) (as := [.int 0]) (r := []) (o := some (.int r4)) (by omega) rfl rfl rfl rfl (t_Tx_bit e4 (by omega)) ?_
      show s_Ek (s_rows 3 L xs) D s_e109.1 18 [(0, .int b), (1, .int c)] [.int r4] (v_mk s4) _
      refine s_ek_bk 1 (P := 23) (ls' := [(0, .int b), (1, .int c)]) (st' := [.int r4]) (M' := v_mk s4) rfl ?_
      obtain ⟨rfl, rfl⟩ := v_so h
      exact v_ret (fun _ => rfl)
  · refine v_i2t (T := 21) rfl rfl c1 ?_
    refine s_ek_bk 2 (P := 23) (ls' := [(0, .int b), (1, .int c)]) (st' := [.int (-c)]) (M' := v_mk s) rfl ?_
    obtain ⟨rfl, rfl⟩ := v_so h
    exact v_ret (fun _ => rfl)
