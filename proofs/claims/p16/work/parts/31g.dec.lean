/-! functions over the store, and the runs that they stand for: Ol_law Ol_isStruck Ol_isWord Ol_cameFromSix Ol_isShelf Ol_shelfAt Ol_laws Ol_isRule Ol_mayBecome Ol_mend Ol_moved Ol_ofLaw Ol_of -/
noncomputable def f_Ol_law (b : Int32) (c : Int32) (s : vS) : Option (Int32 × vS) := (v_bi (f_Ol_isDate b s) (fun r1 s1 => (if r1.toInt = 0 then (some ((-1), s1)) else (v_bi (f_Ol_isSaying c s1) (fun r3 s3 => (if r3.toInt = 0 then (some ((-1), s3)) else (if (s3.1 8 1).toInt < 10 then (v_bi (f_Rd_read 1 (s3.1 0 1) s3) (fun r6 s6 => (v_let (v_w1 s6 0 1 0) (fun s7 => (if r6.toInt = (-1) then (v_bi (f_Ct_admit b c (-1) 4 s7) (fun r9 s9 => (some (r9, s9)))) else (some ((((-100) : Int32) - r6), s7))))))) else (some ((-3), s3)))))))))
set_option maxRecDepth 20000 in
set_option maxHeartbeats 4000000 in
theorem t_Ol_law {L : Nat} {xs : Nat → Int32} {b : Int32} {c : Int32} {D : Nat} {r : Int32} {s s' : vS} (h : f_Ol_law b c s = some (r, s')) (hD : 393 ≤ D) : s_Ek (s_rows 3 L xs) D s_e135.1 0 (lv_args 0 [.ref 0, .int b, .int c]) [] (v_mk s) (v_Q (some (.int r)) s') := by
  unfold f_Ol_law at h
  show s_Ek (s_rows 3 L xs) D s_e135.1 0 [(0, .ref 0), (1, .int b), (2, .int c)] [] (v_mk s) _
  refine s_ek_bk 1 (P := 1) (ls' := [(0, .ref 0), (1, .int b), (2, .int c)]) (st' := [.int b]) (M' := v_mk s) rfl ?_
  obtain ⟨r1, s1, e1, h⟩ := v_bd h
  refine v_cS (ν := s_e169.1) (w := 1353) (as := [.int b]) (r := []) (o := some (.int r1)) (by omega) rfl rfl rfl rfl (t_Ol_isDate e1 (by omega)) ?_
  show s_Ek (s_rows 3 L xs) D s_e135.1 4 [(0, .ref 0), (1, .int b), (2, .int c)] [.int r1] (v_mk s1) _
  rcases v_if h with ⟨c2, h⟩ | ⟨c2, h⟩
  · refine v_i1t (T := 14) rfl rfl c2 ?_
    refine s_ek_bk 1 (P := 15) (ls' := [(0, .ref 0), (1, .int b), (2, .int c)]) (st' := [.int (-1)]) (M' := v_mk s1) rfl ?_
    obtain ⟨rfl, rfl⟩ := v_so h
    exact v_ret (fun _ => rfl)
  · refine v_i1f (T := 14) rfl rfl c2 ?_
    refine s_ek_bk 1 (P := 8) (ls' := [(0, .ref 0), (1, .int b), (2, .int c)]) (st' := [.int c]) (M' := v_mk s1) rfl ?_
    obtain ⟨r3, s3, e3, h⟩ := v_bd h
    refine v_cS (ν := s_e170.1) (w := 1361) (as := [.int c]) (r := []) (o := some (.int r3)) (by omega) rfl rfl rfl rfl (t_Ol_isSaying e3 (by omega)) ?_
    show s_Ek (s_rows 3 L xs) D s_e135.1 11 [(0, .ref 0), (1, .int b), (2, .int c)] [.int r3] (v_mk s3) _
    rcases v_if h with ⟨c4, h⟩ | ⟨c4, h⟩
    · refine v_i1f (T := 16) rfl rfl (fun q => q c4) ?_
      refine s_ek_bk 1 (P := 15) (ls' := [(0, .ref 0), (1, .int b), (2, .int c)]) (st' := [.int (-1)]) (M' := v_mk s3) rfl ?_
      obtain ⟨rfl, rfl⟩ := v_so h
      exact v_ret (fun _ => rfl)
    · refine v_i1t (T := 16) rfl rfl c4 ?_
      refine s_ek_bk 1 (P := 17) (ls' := [(0, .ref 0), (1, .int b), (2, .int c)]) (st' := [.ref 0]) (M' := v_mk s3) rfl ?_
      refine v_gf rfl (v_gr (rfl : v_kd 0 = 10) (rfl : v_sl 0 4 = .ref 8) ⟨rfl, rfl, by decide⟩) ?_
      refine v_gf rfl (v_gi (rfl : v_kd 8 = 3) rfl ⟨rfl, rfl, by decide⟩) ?_
      refine s_ek_bk 1 (P := 25) (ls' := [(0, .ref 0), (1, .int b), (2, .int c)]) (st' := [.int 10, .int (s3.1 8 1)]) (M' := v_mk s3) rfl ?_
      rcases v_if h with ⟨c5, h⟩ | ⟨c5, h⟩
      · refine v_i2t (T := 31) rfl rfl c5 ?_
        refine s_ek_bk 1 (P := 32) (ls' := [(0, .ref 0), (1, .int b), (2, .int c)]) (st' := [.ref 0]) (M' := v_mk s3) rfl ?_
        refine v_gf rfl (v_gr (rfl : v_kd 0 = 10) (rfl : v_sl 0 3 = .ref 3) ⟨rfl, rfl, by decide⟩) ?_
        refine s_ek_bk 1 (P := 36) (ls' := [(0, .ref 0), (1, .int b), (2, .int c)]) (st' := [.ref 0, .ref 3]) (M' := v_mk s3) rfl ?_
        refine v_gf rfl (v_gr (rfl : v_kd 0 = 10) (rfl : v_sl 0 0 = .ref 1) ⟨rfl, rfl, by decide⟩) ?_
        refine s_ek_bk 1 (P := 40) (ls' := [(0, .ref 0), (1, .int b), (2, .int c)]) (st' := [.ref 0, .ref 1, .ref 3]) (M' := v_mk s3) rfl ?_
        refine v_gf rfl (v_gi (rfl : v_kd 0 = 10) rfl ⟨rfl, rfl, by decide⟩) ?_
        obtain ⟨r6, s6, e6, h⟩ := v_bd h
        refine v_cV (ν := s_e68.1) (w := 546) (a := 3) (as' := [.ref 1, .int (s3.1 0 1)]) (r := []) (o := some (.int r6)) (by omega) rfl rfl rfl (v_mk_kd (k := 5) (rfl : v_kd 3 = 5) (by decide)) rfl (t_Rd_read (rfl : v_kd 1 = 13) e6 (by omega)) ?_
        show s_Ek (s_rows 3 L xs) D s_e135.1 46 [(0, .ref 0), (1, .int b), (2, .int c)] [.int r6] (v_mk s6) _
        refine s_ek_bk 3 (P := 49) (ls' := [(3, .int r6), (0, .ref 0), (1, .int b), (2, .int c)]) (st' := [.int 0, .ref 0]) (M' := v_mk s6) rfl ?_
        obtain ⟨s7, es7, h⟩ := v_ld h
        refine v_pf (M' := v_mk s7) rfl (by rw [es7]; exact v_pi (rfl : v_kd 0 = 10) rfl ⟨rfl, rfl, by decide⟩ rfl) ?_
        refine s_ek_bk 2 (P := 54) (ls' := [(3, .int r6), (0, .ref 0), (1, .int b), (2, .int c)]) (st' := [.int (-1), .int r6]) (M' := v_mk s7) rfl ?_
        rcases v_if h with ⟨c8, h⟩ | ⟨c8, h⟩
        · refine v_i2t (T := 62) rfl rfl c8 ?_
          refine s_ek_bk 1 (P := 63) (ls' := [(3, .int r6), (0, .ref 0), (1, .int b), (2, .int c)]) (st' := [.ref 0]) (M' := v_mk s7) rfl ?_
          refine v_gf rfl (v_gr (rfl : v_kd 0 = 10) (rfl : v_sl 0 4 = .ref 8) ⟨rfl, rfl, by decide⟩) ?_
          refine s_ek_bk 4 (P := 70) (ls' := [(3, .int r6), (0, .ref 0), (1, .int b), (2, .int c)]) (st' := [.ref 0, .int (-1), .int c, .int b, .ref 8]) (M' := v_mk s7) rfl ?_
          refine v_gf rfl (v_gr (rfl : v_kd 0 = 10) (rfl : v_sl 0 3 = .ref 3) ⟨rfl, rfl, by decide⟩) ?_
          refine v_gf rfl (v_gr (rfl : v_kd 3 = 5) (rfl : v_sl 3 0 = .ref 4) ⟨rfl, rfl, by decide⟩) ?_
          obtain ⟨r9, s9, e9, h⟩ := v_bd h
          refine v_cV (ν := s_e43.1) (w := 348) (a := 8) (as' := [.int b, .int c, .int (-1), .ref 4]) (r := []) (o := some (.int r9)) (by omega) rfl rfl rfl (v_mk_kd (k := 3) (rfl : v_kd 8 = 3) (by decide)) rfl (t_Ct_admit (rfl : v_kd 4 = 7) e9 (by omega)) ?_
          show s_Ek (s_rows 3 L xs) D s_e135.1 79 [(3, .int r6), (0, .ref 0), (1, .int b), (2, .int c)] [.int r9] (v_mk s9) _
          obtain ⟨rfl, rfl⟩ := v_so h
          exact v_ret (fun _ => rfl)
        · refine v_i2f (T := 62) rfl rfl c8 ?_
          refine s_ek_bk 3 (P := 61) (ls' := [(3, .int r6), (0, .ref 0), (1, .int b), (2, .int c)]) (st' := [.int (((-100) : Int32) - r6)]) (M' := v_mk s7) rfl ?_
          obtain ⟨rfl, rfl⟩ := v_so h
          exact v_ret (fun _ => rfl)
      · refine v_i2f (T := 31) rfl rfl c5 ?_
        refine s_ek_bk 1 (P := 30) (ls' := [(0, .ref 0), (1, .int b), (2, .int c)]) (st' := [.int (-3)]) (M' := v_mk s3) rfl ?_
        obtain ⟨rfl, rfl⟩ := v_so h
        exact v_ret (fun _ => rfl)
noncomputable def f_Ol_isStruck (b : Int32) (s : vS) : Option (Int32 × vS) := (if b.toInt < (-1) then (some (0, s)) else (if 10 ≤ b.toInt then (some (0, s)) else (some (1, s))))
set_option maxRecDepth 20000 in
set_option maxHeartbeats 4000000 in
theorem t_Ol_isStruck {L : Nat} {xs : Nat → Int32} {b : Int32} {D : Nat} {r : Int32} {s s' : vS} (h : f_Ol_isStruck b s = some (r, s')) (hD : 0 ≤ D) : s_Ek (s_rows 3 L xs) D s_e171.1 0 (lv_args 0 [.int b]) [] (v_mk s) (v_Q (some (.int r)) s') := by
  unfold f_Ol_isStruck at h
  show s_Ek (s_rows 3 L xs) D s_e171.1 0 [(0, .int b)] [] (v_mk s) _
  refine s_ek_bk 2 (P := 2) (ls' := [(0, .int b)]) (st' := [.int (-1), .int b]) (M' := v_mk s) rfl ?_
  rcases v_if h with ⟨c1, h⟩ | ⟨c1, h⟩
  · refine v_i2t (T := 15) rfl rfl c1 ?_
    refine s_ek_bk 1 (P := 16) (ls' := [(0, .int b)]) (st' := [.int 0]) (M' := v_mk s) rfl ?_
    obtain ⟨rfl, rfl⟩ := v_so h
    exact v_ret (fun _ => rfl)
  · refine v_i2f (T := 15) rfl rfl c1 ?_
    refine s_ek_bk 2 (P := 8) (ls' := [(0, .int b)]) (st' := [.int 10, .int b]) (M' := v_mk s) rfl ?_
    rcases v_if h with ⟨c2, h⟩ | ⟨c2, h⟩
    · refine v_i2t (T := 15) rfl rfl c2 ?_
      refine s_ek_bk 1 (P := 16) (ls' := [(0, .int b)]) (st' := [.int 0]) (M' := v_mk s) rfl ?_
      obtain ⟨rfl, rfl⟩ := v_so h
      exact v_ret (fun _ => rfl)
    · refine v_i2f (T := 15) rfl rfl c2 ?_
      refine s_ek_bk 2 (P := 16) (ls' := [(0, .int b)]) (st' := [.int 1]) (M' := v_mk s) rfl ?_
      obtain ⟨rfl, rfl⟩ := v_so h
      exact v_ret (fun _ => rfl)
noncomputable def f_Ol_isWord (b : Int32) (s : vS) : Option (Int32 × vS) := (if b.toInt < 0 then (some (0, s)) else (if 3 ≤ b.toInt then (some (0, s)) else (some (1, s))))
set_option maxRecDepth 20000 in
set_option maxHeartbeats 4000000 in
theorem t_Ol_isWord {L : Nat} {xs : Nat → Int32} {b : Int32} {D : Nat} {r : Int32} {s s' : vS} (h : f_Ol_isWord b s = some (r, s')) (hD : 0 ≤ D) : s_Ek (s_rows 3 L xs) D s_e172.1 0 (lv_args 0 [.int b]) [] (v_mk s) (v_Q (some (.int r)) s') := by
  unfold f_Ol_isWord at h
  show s_Ek (s_rows 3 L xs) D s_e172.1 0 [(0, .int b)] [] (v_mk s) _
  refine s_ek_bk 1 (P := 1) (ls' := [(0, .int b)]) (st' := [.int b]) (M' := v_mk s) rfl ?_
  rcases v_if h with ⟨c1, h⟩ | ⟨c1, h⟩
  · refine v_i1t (T := 13) rfl rfl c1 ?_
    refine s_ek_bk 1 (P := 14) (ls' := [(0, .int b)]) (st' := [.int 0]) (M' := v_mk s) rfl ?_
    obtain ⟨rfl, rfl⟩ := v_so h
    exact v_ret (fun _ => rfl)
  · refine v_i1f (T := 13) rfl rfl c1 ?_
    refine s_ek_bk 2 (P := 6) (ls' := [(0, .int b)]) (st' := [.int 3, .int b]) (M' := v_mk s) rfl ?_
    rcases v_if h with ⟨c2, h⟩ | ⟨c2, h⟩
    · refine v_i2t (T := 13) rfl rfl c2 ?_
      refine s_ek_bk 1 (P := 14) (ls' := [(0, .int b)]) (st' := [.int 0]) (M' := v_mk s) rfl ?_
      obtain ⟨rfl, rfl⟩ := v_so h
      exact v_ret (fun _ => rfl)
    · refine v_i2f (T := 13) rfl rfl c2 ?_
      refine s_ek_bk 2 (P := 14) (ls' := [(0, .int b)]) (st' := [.int 1]) (M' := v_mk s) rfl ?_
      obtain ⟨rfl, rfl⟩ := v_so h
      exact v_ret (fun _ => rfl)
noncomputable def f_Ol_cameFromSix (b : Nat) (c : Int32) (s : vS) : Option (Int32 × vS) := (if ((s.1 b 2) - (6 : Int32)).toInt < c.toInt then (some (0, s)) else (if (s.1 8 1).toInt < 10 then (v_bi (f_Sh_at b c s) (fun r3 s3 => (v_bi (f_Sh_at b (c + (1 : Int32)) s3) (fun r4 s4 => (v_bi (f_Sh_at b (c + (2 : Int32)) s4) (fun r5 s5 => (v_bi (f_Sh_at b (c + (3 : Int32)) s5) (fun r6 s6 => (v_bi (f_Sh_at b (c + (4 : Int32)) s6) (fun r7 s7 => (v_bi (f_Sh_at b (c + (5 : Int32)) s7) (fun r8 s8 => (v_bi (f_Ol_isDate (Int64.toInt32 r3) s8) (fun r9 s9 => (if r9.toInt = 0 then (some (0, s9)) else (v_bi (f_Ol_isSaying (Int64.toInt32 r4) s9) (fun r11 s11 => (if r11.toInt = 0 then (some (0, s11)) else (v_bi (f_Ol_isStruck (Int64.toInt32 r5) s11) (fun r13 s13 => (if r13.toInt = 0 then (some (0, s13)) else (v_bi (f_Ol_isWord (Int64.toInt32 r6) s13) (fun r15 s15 => (if r15.toInt = 0 then (some (0, s15)) else (if (Int64.toInt32 r7).toInt < 0 then (some (0, s15)) else (if 2 < (Int64.toInt32 r7).toInt then (some (0, s15)) else (if (Int64.toInt32 r8).toInt < 0 then (some (0, s15)) else (if (Int64.toInt32 r8).toInt ≤ 9 then (v_let (v_w1 s15 2 0 ((120 : Int32) + (Int64.toInt32 r6))) (fun s21 => (v_let (v_w1 s21 2 1 ((60 : Int32) + (Int64.toInt32 r7))) (fun s22 => (v_let (v_w1 s22 2 2 ((48 : Int32) + (Int64.toInt32 r8))) (fun s23 => (v_bi (f_Rd_read 2 3 s23) (fun r24 s24 => (if r24.toInt = (-1) then (v_bi (f_Ct_admit (Int64.toInt32 r3) (Int64.toInt32 r4) (Int64.toInt32 r5) 4 s24) (fun r26 s26 => (if r26.toInt < 0 then (some (0, s26)) else (some (1, s26))))) else (some (0, s24))))))))))) else (some (0, s15)))))))))))))))))))))))))))))) else (some (0, s))))
set_option maxRecDepth 20000 in
set_option maxHeartbeats 4000000 in
theorem t_Ol_cameFromSix {L : Nat} {xs : Nat → Int32} {b : Nat} {c : Int32} (hb : v_kd b = 6) {D : Nat} {r : Int32} {s s' : vS} (h : f_Ol_cameFromSix b c s = some (r, s')) (hD : 393 ≤ D) : s_Ek (s_rows 3 L xs) D s_e137.1 0 (lv_args 0 [.ref 0, .ref b, .int c]) [] (v_mk s) (v_Q (some (.int r)) s') := by
  unfold f_Ol_cameFromSix at h
  show s_Ek (s_rows 3 L xs) D s_e137.1 0 [(0, .ref 0), (1, .ref b), (2, .int c)] [] (v_mk s) _
  refine s_ek_bk 2 (P := 2) (ls' := [(0, .ref 0), (1, .ref b), (2, .int c)]) (st' := [.ref b, .int c]) (M' := v_mk s) rfl ?_
  refine v_gf rfl (v_gi hb (v_tK (j := 2) v_is6 (by decide) hb) ⟨rfl, rfl, by decide⟩) ?_
  refine s_ek_bk 2 (P := 8) (ls' := [(0, .ref 0), (1, .ref b), (2, .int c)]) (st' := [.int ((s.1 b 2) - (6 : Int32)), .int c]) (M' := v_mk s) rfl ?_
  rcases v_if h with ⟨c1, h⟩ | ⟨c1, h⟩
  · refine v_i2t (T := 23) rfl rfl c1 ?_
    refine s_ek_bk 1 (P := 24) (ls' := [(0, .ref 0), (1, .ref b), (2, .int c)]) (st' := [.int 0]) (M' := v_mk s) rfl ?_
    obtain ⟨rfl, rfl⟩ := v_so h
    exact v_ret (fun _ => rfl)
  · refine v_i2f (T := 23) rfl rfl c1 ?_
    refine s_ek_bk 1 (P := 12) (ls' := [(0, .ref 0), (1, .ref b), (2, .int c)]) (st' := [.ref 0]) (M' := v_mk s) rfl ?_
    refine v_gf rfl (v_gr (rfl : v_kd 0 = 10) (rfl : v_sl 0 4 = .ref 8) ⟨rfl, rfl, by decide⟩) ?_
    refine v_gf rfl (v_gi (rfl : v_kd 8 = 3) rfl ⟨rfl, rfl, by decide⟩) ?_
    refine s_ek_bk 1 (P := 20) (ls' := [(0, .ref 0), (1, .ref b), (2, .int c)]) (st' := [.int 10, .int (s.1 8 1)]) (M' := v_mk s) rfl ?_
    rcases v_if h with ⟨c2, h⟩ | ⟨c2, h⟩
    · refine v_i2t (T := 25) rfl rfl c2 ?_
      refine s_ek_bk 2 (P := 27) (ls' := [(0, .ref 0), (1, .ref b), (2, .int c)]) (st' := [.int c, .ref b]) (M' := v_mk s) rfl ?_
      obtain ⟨r3, s3, e3, h⟩ := v_bd h
      refine v_cV (ν := s_e90.1) (w := 721) (a := b) (as' := [.int c]) (r := []) (o := some (.long r3)) (by omega) rfl rfl rfl (v_mk_kd (k := 6) hb (by decide)) rfl (t_Sh_at hb e3 (by omega)) ?_
      show s_Ek (s_rows 3 L xs) D s_e137.1 30 [(0, .ref 0), (1, .ref b), (2, .int c)] [.long r3] (v_mk s3) _
      refine s_ek_bk 6 (P := 36) (ls' := [(3, .int (Int64.toInt32 r3)), (0, .ref 0), (1, .ref b), (2, .int c)]) (st' := [.int (c + (1 : Int32)), .ref b]) (M' := v_mk s3) rfl ?_
      obtain ⟨r4, s4, e4, h⟩ := v_bd h
      refine v_cV (ν := s_e90.1) (w := 721) (a := b) (as' := [.int (c + (1 : Int32))]) (r := []) (o := some (.long r4)) (by omega) rfl rfl rfl (v_mk_kd (k := 6) hb (by decide)) rfl (t_Sh_at hb e4 (by omega)) ?_
      show s_Ek (s_rows 3 L xs) D s_e137.1 39 [(3, .int (Int64.toInt32 r3)), (0, .ref 0), (1, .ref b), (2, .int c)] [.long r4] (v_mk s4) _
      refine s_ek_bk 6 (P := 46) (ls' := [(4, .int (Int64.toInt32 r4)), (3, .int (Int64.toInt32 r3)), (0, .ref 0), (1, .ref b), (2, .int c)]) (st' := [.int (c + (2 : Int32)), .ref b]) (M' := v_mk s4) rfl ?_
      obtain ⟨r5, s5, e5, h⟩ := v_bd h
      refine v_cV (ν := s_e90.1) (w := 721) (a := b) (as' := [.int (c + (2 : Int32))]) (r := []) (o := some (.long r5)) (by omega) rfl rfl rfl (v_mk_kd (k := 6) hb (by decide)) rfl (t_Sh_at hb e5 (by omega)) ?_
      show s_Ek (s_rows 3 L xs) D s_e137.1 49 [(4, .int (Int64.toInt32 r4)), (3, .int (Int64.toInt32 r3)), (0, .ref 0), (1, .ref b), (2, .int c)] [.long r5] (v_mk s5) _
      refine s_ek_bk 6 (P := 56) (ls' := [(5, .int (Int64.toInt32 r5)), (4, .int (Int64.toInt32 r4)), (3, .int (Int64.toInt32 r3)), (0, .ref 0), (1, .ref b), (2, .int c)]) (st' := [.int (c + (3 : Int32)), .ref b]) (M' := v_mk s5) rfl ?_
      obtain ⟨r6, s6, e6, h⟩ := v_bd h
      refine v_cV (ν := s_e90.1) (w := 721) (a := b) (as' := [.int (c + (3 : Int32))]) (r := []) (o := some (.long r6)) (by omega) rfl rfl rfl (v_mk_kd (k := 6) hb (by decide)) rfl (t_Sh_at hb e6 (by omega)) ?_
      show s_Ek (s_rows 3 L xs) D s_e137.1 59 [(5, .int (Int64.toInt32 r5)), (4, .int (Int64.toInt32 r4)), (3, .int (Int64.toInt32 r3)), (0, .ref 0), (1, .ref b), (2, .int c)] [.long r6] (v_mk s6) _
      refine s_ek_bk 6 (P := 66) (ls' := [(6, .int (Int64.toInt32 r6)), (5, .int (Int64.toInt32 r5)), (4, .int (Int64.toInt32 r4)), (3, .int (Int64.toInt32 r3)), (0, .ref 0), (1, .ref b), (2, .int c)]) (st' := [.int (c + (4 : Int32)), .ref b]) (M' := v_mk s6) rfl ?_
      obtain ⟨r7, s7, e7, h⟩ := v_bd h
      refine v_cV (ν := s_e90.1) (w := 721) (a := b) (as' := [.int (c + (4 : Int32))]) (r := []) (o := some (.long r7)) (by omega) rfl rfl rfl (v_mk_kd (k := 6) hb (by decide)) rfl (t_Sh_at hb e7 (by omega)) ?_
      show s_Ek (s_rows 3 L xs) D s_e137.1 69 [(6, .int (Int64.toInt32 r6)), (5, .int (Int64.toInt32 r5)), (4, .int (Int64.toInt32 r4)), (3, .int (Int64.toInt32 r3)), (0, .ref 0), (1, .ref b), (2, .int c)] [.long r7] (v_mk s7) _
      refine s_ek_bk 6 (P := 76) (ls' := [(7, .int (Int64.toInt32 r7)), (6, .int (Int64.toInt32 r6)), (5, .int (Int64.toInt32 r5)), (4, .int (Int64.toInt32 r4)), (3, .int (Int64.toInt32 r3)), (0, .ref 0), (1, .ref b), (2, .int c)]) (st' := [.int (c + (5 : Int32)), .ref b]) (M' := v_mk s7) rfl ?_
      obtain ⟨r8, s8, e8, h⟩ := v_bd h
      refine v_cV (ν := s_e90.1) (w := 721) (a := b) (as' := [.int (c + (5 : Int32))]) (r := []) (o := some (.long r8)) (by omega) rfl rfl rfl (v_mk_kd (k := 6) hb (by decide)) rfl (t_Sh_at hb e8 (by omega)) ?_
      show s_Ek (s_rows 3 L xs) D s_e137.1 79 [(7, .int (Int64.toInt32 r7)), (6, .int (Int64.toInt32 r6)), (5, .int (Int64.toInt32 r5)), (4, .int (Int64.toInt32 r4)), (3, .int (Int64.toInt32 r3)), (0, .ref 0), (1, .ref b), (2, .int c)] [.long r8] (v_mk s8) _
      refine s_ek_bk 3 (P := 83) (ls' := [(8, .int (Int64.toInt32 r8)), (7, .int (Int64.toInt32 r7)), (6, .int (Int64.toInt32 r6)), (5, .int (Int64.toInt32 r5)), (4, .int (Int64.toInt32 r4)), (3, .int (Int64.toInt32 r3)), (0, .ref 0), (1, .ref b), (2, .int c)]) (st' := [.int (Int64.toInt32 r3)]) (M' := v_mk s8) rfl ?_
      obtain ⟨r9, s9, e9, h⟩ := v_bd h
      refine v_cS (ν := s_e169.1) (w := 1353) (as := [.int (Int64.toInt32 r3)]) (r := []) (o := some (.int r9)) (by omega) rfl rfl rfl rfl (t_Ol_isDate e9 (by omega)) ?_
      show s_Ek (s_rows 3 L xs) D s_e137.1 86 [(8, .int (Int64.toInt32 r8)), (7, .int (Int64.toInt32 r7)), (6, .int (Int64.toInt32 r6)), (5, .int (Int64.toInt32 r5)), (4, .int (Int64.toInt32 r4)), (3, .int (Int64.toInt32 r3)), (0, .ref 0), (1, .ref b), (2, .int c)] [.int r9] (v_mk s9) _
      rcases v_if h with ⟨c10, h⟩ | ⟨c10, h⟩
      · refine v_i1t (T := 113) rfl rfl c10 ?_
        refine s_ek_bk 1 (P := 114) (ls' := [(8, .int (Int64.toInt32 r8)), (7, .int (Int64.toInt32 r7)), (6, .int (Int64.toInt32 r6)), (5, .int (Int64.toInt32 r5)), (4, .int (Int64.toInt32 r4)), (3, .int (Int64.toInt32 r3)), (0, .ref 0), (1, .ref b), (2, .int c)]) (st' := [.int 0]) (M' := v_mk s9) rfl ?_
        obtain ⟨rfl, rfl⟩ := v_so h
        exact v_ret (fun _ => rfl)
      · refine v_i1f (T := 113) rfl rfl c10 ?_
        refine s_ek_bk 1 (P := 91) (ls' := [(8, .int (Int64.toInt32 r8)), (7, .int (Int64.toInt32 r7)), (6, .int (Int64.toInt32 r6)), (5, .int (Int64.toInt32 r5)), (4, .int (Int64.toInt32 r4)), (3, .int (Int64.toInt32 r3)), (0, .ref 0), (1, .ref b), (2, .int c)]) (st' := [.int (Int64.toInt32 r4)]) (M' := v_mk s9) rfl ?_
        obtain ⟨r11, s11, e11, h⟩ := v_bd h
        refine v_cS (ν := s_e170.1) (w := 1361) (as := [.int (Int64.toInt32 r4)]) (r := []) (o := some (.int r11)) (by omega) rfl rfl rfl rfl (t_Ol_isSaying e11 (by omega)) ?_
        show s_Ek (s_rows 3 L xs) D s_e137.1 94 [(8, .int (Int64.toInt32 r8)), (7, .int (Int64.toInt32 r7)), (6, .int (Int64.toInt32 r6)), (5, .int (Int64.toInt32 r5)), (4, .int (Int64.toInt32 r4)), (3, .int (Int64.toInt32 r3)), (0, .ref 0), (1, .ref b), (2, .int c)] [.int r11] (v_mk s11) _
        rcases v_if h with ⟨c12, h⟩ | ⟨c12, h⟩
        · refine v_i1t (T := 113) rfl rfl c12 ?_
          refine s_ek_bk 1 (P := 114) (ls' := [(8, .int (Int64.toInt32 r8)), (7, .int (Int64.toInt32 r7)), (6, .int (Int64.toInt32 r6)), (5, .int (Int64.toInt32 r5)), (4, .int (Int64.toInt32 r4)), (3, .int (Int64.toInt32 r3)), (0, .ref 0), (1, .ref b), (2, .int c)]) (st' := [.int 0]) (M' := v_mk s11) rfl ?_
          obtain ⟨rfl, rfl⟩ := v_so h
          exact v_ret (fun _ => rfl)
        · refine v_i1f (T := 113) rfl rfl c12 ?_
          refine s_ek_bk 1 (P := 99) (ls' := [(8, .int (Int64.toInt32 r8)), (7, .int (Int64.toInt32 r7)), (6, .int (Int64.toInt32 r6)), (5, .int (Int64.toInt32 r5)), (4, .int (Int64.toInt32 r4)), (3, .int (Int64.toInt32 r3)), (0, .ref 0), (1, .ref b), (2, .int c)]) (st' := [.int (Int64.toInt32 r5)]) (M' := v_mk s11) rfl ?_
          obtain ⟨r13, s13, e13, h⟩ := v_bd h
          refine v_cS (ν := s_e171.1) (w := 1369) (as := [.int (Int64.toInt32 r5)]) (r := []) (o := some (.int r13)) (by omega) rfl rfl rfl rfl (t_Ol_isStruck e13 (by omega)) ?_
          show s_Ek (s_rows 3 L xs) D s_e137.1 102 [(8, .int (Int64.toInt32 r8)), (7, .int (Int64.toInt32 r7)), (6, .int (Int64.toInt32 r6)), (5, .int (Int64.toInt32 r5)), (4, .int (Int64.toInt32 r4)), (3, .int (Int64.toInt32 r3)), (0, .ref 0), (1, .ref b), (2, .int c)] [.int r13] (v_mk s13) _
          rcases v_if h with ⟨c14, h⟩ | ⟨c14, h⟩
          · refine v_i1t (T := 113) rfl rfl c14 ?_
            refine s_ek_bk 1 (P := 114) (ls' := [(8, .int (Int64.toInt32 r8)), (7, .int (Int64.toInt32 r7)), (6, .int (Int64.toInt32 r6)), (5, .int (Int64.toInt32 r5)), (4, .int (Int64.toInt32 r4)), (3, .int (Int64.toInt32 r3)), (0, .ref 0), (1, .ref b), (2, .int c)]) (st' := [.int 0]) (M' := v_mk s13) rfl ?_
            obtain ⟨rfl, rfl⟩ := v_so h
            exact v_ret (fun _ => rfl)
          · refine v_i1f (T := 113) rfl rfl c14 ?_
            refine s_ek_bk 1 (P := 107) (ls' := [(8, .int (Int64.toInt32 r8)), (7, .int (Int64.toInt32 r7)), (6, .int (Int64.toInt32 r6)), (5, .int (Int64.toInt32 r5)), (4, .int (Int64.toInt32 r4)), (3, .int (Int64.toInt32 r3)), (0, .ref 0), (1, .ref b), (2, .int c)]) (st' := [.int (Int64.toInt32 r6)]) (M' := v_mk s13) rfl ?_
            obtain ⟨r15, s15, e15, h⟩ := v_bd h
            refine v_cS (ν := s_e172.1) (w := 1377) (as := [.int (Int64.toInt32 r6)]) (r := []) (o := some (.int r15)) (by omega) rfl rfl rfl rfl (t_Ol_isWord e15 (by omega)) ?_
            show s_Ek (s_rows 3 L xs) D s_e137.1 110 [(8, .int (Int64.toInt32 r8)), (7, .int (Int64.toInt32 r7)), (6, .int (Int64.toInt32 r6)), (5, .int (Int64.toInt32 r5)), (4, .int (Int64.toInt32 r4)), (3, .int (Int64.toInt32 r3)), (0, .ref 0), (1, .ref b), (2, .int c)] [.int r15] (v_mk s15) _
            rcases v_if h with ⟨c16, h⟩ | ⟨c16, h⟩
            · refine v_i1f (T := 115) rfl rfl (fun q => q c16) ?_
              refine s_ek_bk 1 (P := 114) (ls' := [(8, .int (Int64.toInt32 r8)), (7, .int (Int64.toInt32 r7)), (6, .int (Int64.toInt32 r6)), (5, .int (Int64.toInt32 r5)), (4, .int (Int64.toInt32 r4)), (3, .int (Int64.toInt32 r3)), (0, .ref 0), (1, .ref b), (2, .int c)]) (st' := [.int 0]) (M' := v_mk s15) rfl ?_
              obtain ⟨rfl, rfl⟩ := v_so h
              exact v_ret (fun _ => rfl)
            · refine v_i1t (T := 115) rfl rfl c16 ?_
              refine s_ek_bk 1 (P := 117) (ls' := [(8, .int (Int64.toInt32 r8)), (7, .int (Int64.toInt32 r7)), (6, .int (Int64.toInt32 r6)), (5, .int (Int64.toInt32 r5)), (4, .int (Int64.toInt32 r4)), (3, .int (Int64.toInt32 r3)), (0, .ref 0), (1, .ref b), (2, .int c)]) (st' := [.int (Int64.toInt32 r7)]) (M' := v_mk s15) rfl ?_
              rcases v_if h with ⟨c17, h⟩ | ⟨c17, h⟩
              · refine v_i1t (T := 138) rfl rfl c17 ?_
                refine s_ek_bk 1 (P := 139) (ls' := [(8, .int (Int64.toInt32 r8)), (7, .int (Int64.toInt32 r7)), (6, .int (Int64.toInt32 r6)), (5, .int (Int64.toInt32 r5)), (4, .int (Int64.toInt32 r4)), (3, .int (Int64.toInt32 r3)), (0, .ref 0), (1, .ref b), (2, .int c)]) (st' := [.int 0]) (M' := v_mk s15) rfl ?_
                obtain ⟨rfl, rfl⟩ := v_so h
                exact v_ret (fun _ => rfl)
              · refine v_i1f (T := 138) rfl rfl c17 ?_
                refine s_ek_bk 2 (P := 123) (ls' := [(8, .int (Int64.toInt32 r8)), (7, .int (Int64.toInt32 r7)), (6, .int (Int64.toInt32 r6)), (5, .int (Int64.toInt32 r5)), (4, .int (Int64.toInt32 r4)), (3, .int (Int64.toInt32 r3)), (0, .ref 0), (1, .ref b), (2, .int c)]) (st' := [.int 2, .int (Int64.toInt32 r7)]) (M' := v_mk s15) rfl ?_
                rcases v_if h with ⟨c18, h⟩ | ⟨c18, h⟩
                · refine v_i2t (T := 138) rfl rfl c18 ?_
                  refine s_ek_bk 1 (P := 139) (ls' := [(8, .int (Int64.toInt32 r8)), (7, .int (Int64.toInt32 r7)), (6, .int (Int64.toInt32 r6)), (5, .int (Int64.toInt32 r5)), (4, .int (Int64.toInt32 r4)), (3, .int (Int64.toInt32 r3)), (0, .ref 0), (1, .ref b), (2, .int c)]) (st' := [.int 0]) (M' := v_mk s15) rfl ?_
                  obtain ⟨rfl, rfl⟩ := v_so h
                  exact v_ret (fun _ => rfl)
                · refine v_i2f (T := 138) rfl rfl c18 ?_
                  refine s_ek_bk 1 (P := 128) (ls' := [(8, .int (Int64.toInt32 r8)), (7, .int (Int64.toInt32 r7)), (6, .int (Int64.toInt32 r6)), (5, .int (Int64.toInt32 r5)), (4, .int (Int64.toInt32 r4)), (3, .int (Int64.toInt32 r3)), (0, .ref 0), (1, .ref b), (2, .int c)]) (st' := [.int (Int64.toInt32 r8)]) (M' := v_mk s15) rfl ?_
                  rcases v_if h with ⟨c19, h⟩ | ⟨c19, h⟩
                  · refine v_i1t (T := 138) rfl rfl c19 ?_
                    refine s_ek_bk 1 (P := 139) (ls' := [(8, .int (Int64.toInt32 r8)), (7, .int (Int64.toInt32 r7)), (6, .int (Int64.toInt32 r6)), (5, .int (Int64.toInt32 r5)), (4, .int (Int64.toInt32 r4)), (3, .int (Int64.toInt32 r3)), (0, .ref 0), (1, .ref b), (2, .int c)]) (st' := [.int 0]) (M' := v_mk s15) rfl ?_
                    obtain ⟨rfl, rfl⟩ := v_so h
                    exact v_ret (fun _ => rfl)
                  · refine v_i1f (T := 138) rfl rfl c19 ?_
                    refine s_ek_bk 2 (P := 135) (ls' := [(8, .int (Int64.toInt32 r8)), (7, .int (Int64.toInt32 r7)), (6, .int (Int64.toInt32 r6)), (5, .int (Int64.toInt32 r5)), (4, .int (Int64.toInt32 r4)), (3, .int (Int64.toInt32 r3)), (0, .ref 0), (1, .ref b), (2, .int c)]) (st' := [.int 9, .int (Int64.toInt32 r8)]) (M' := v_mk s15) rfl ?_
                    rcases v_if h with ⟨c20, h⟩ | ⟨c20, h⟩
                    · refine v_i2t (T := 140) rfl rfl c20 ?_
                      refine s_ek_bk 1 (P := 141) (ls' := [(8, .int (Int64.toInt32 r8)), (7, .int (Int64.toInt32 r7)), (6, .int (Int64.toInt32 r6)), (5, .int (Int64.toInt32 r5)), (4, .int (Int64.toInt32 r4)), (3, .int (Int64.toInt32 r3)), (0, .ref 0), (1, .ref b), (2, .int c)]) (st' := [.ref 0]) (M' := v_mk s15) rfl ?_
                      refine v_gf rfl (v_gr (rfl : v_kd 0 = 10) (rfl : v_sl 0 2 = .ref 2) ⟨rfl, rfl, by decide⟩) ?_
                      refine s_ek_bk 4 (P := 150) (ls' := [(8, .int (Int64.toInt32 r8)), (7, .int (Int64.toInt32 r7)), (6, .int (Int64.toInt32 r6)), (5, .int (Int64.toInt32 r5)), (4, .int (Int64.toInt32 r4)), (3, .int (Int64.toInt32 r3)), (0, .ref 0), (1, .ref b), (2, .int c)]) (st' := [.int ((120 : Int32) + (Int64.toInt32 r6)), .int 0, .ref 2]) (M' := v_mk s15) rfl ?_
                      obtain ⟨s21, es21, h⟩ := v_ld h
                      refine v_ist (M' := v_mk s21) (i := 0) rfl (by rw [es21]; exact v_pai (rfl : v_kd 2 = 13) rfl (by decide) v_all13 (v_cn (rfl : v_ln 2 = 3) (by decide : v_in 0 3))) ?_
                      refine s_ek_bk 1 (P := 152) (ls' := [(8, .int (Int64.toInt32 r8)), (7, .int (Int64.toInt32 r7)), (6, .int (Int64.toInt32 r6)), (5, .int (Int64.toInt32 r5)), (4, .int (Int64.toInt32 r4)), (3, .int (Int64.toInt32 r3)), (0, .ref 0), (1, .ref b), (2, .int c)]) (st' := [.ref 0]) (M' := v_mk s21) rfl ?_
                      refine v_gf rfl (v_gr (rfl : v_kd 0 = 10) (rfl : v_sl 0 2 = .ref 2) ⟨rfl, rfl, by decide⟩) ?_
                      refine s_ek_bk 4 (P := 161) (ls' := [(8, .int (Int64.toInt32 r8)), (7, .int (Int64.toInt32 r7)), (6, .int (Int64.toInt32 r6)), (5, .int (Int64.toInt32 r5)), (4, .int (Int64.toInt32 r4)), (3, .int (Int64.toInt32 r3)), (0, .ref 0), (1, .ref b), (2, .int c)]) (st' := [.int ((60 : Int32) + (Int64.toInt32 r7)), .int 1, .ref 2]) (M' := v_mk s21) rfl ?_
                      obtain ⟨s22, es22, h⟩ := v_ld h
                      refine v_ist (M' := v_mk s22) (i := 1) rfl (by rw [es22]; exact v_pai (rfl : v_kd 2 = 13) rfl (by decide) v_all13 (v_cn (rfl : v_ln 2 = 3) (by decide : v_in 1 3))) ?_
                      refine s_ek_bk 1 (P := 163) (ls' := [(8, .int (Int64.toInt32 r8)), (7, .int (Int64.toInt32 r7)), (6, .int (Int64.toInt32 r6)), (5, .int (Int64.toInt32 r5)), (4, .int (Int64.toInt32 r4)), (3, .int (Int64.toInt32 r3)), (0, .ref 0), (1, .ref b), (2, .int c)]) (st' := [.ref 0]) (M' := v_mk s22) rfl ?_
                      refine v_gf rfl (v_gr (rfl : v_kd 0 = 10) (rfl : v_sl 0 2 = .ref 2) ⟨rfl, rfl, by decide⟩) ?_
                      refine s_ek_bk 4 (P := 172) (ls' := [(8, .int (Int64.toInt32 r8)), (7, .int (Int64.toInt32 r7)), (6, .int (Int64.toInt32 r6)), (5, .int (Int64.toInt32 r5)), (4, .int (Int64.toInt32 r4)), (3, .int (Int64.toInt32 r3)), (0, .ref 0), (1, .ref b), (2, .int c)]) (st' := [.int ((48 : Int32) + (Int64.toInt32 r8)), .int 2, .ref 2]) (M' := v_mk s22) rfl ?_
                      obtain ⟨s23, es23, h⟩ := v_ld h
                      refine v_ist (M' := v_mk s23) (i := 2) rfl (by rw [es23]; exact v_pai (rfl : v_kd 2 = 13) rfl (by decide) v_all13 (v_cn (rfl : v_ln 2 = 3) (by decide : v_in 2 3))) ?_
                      refine s_ek_bk 1 (P := 174) (ls' := [(8, .int (Int64.toInt32 r8)), (7, .int (Int64.toInt32 r7)), (6, .int (Int64.toInt32 r6)), (5, .int (Int64.toInt32 r5)), (4, .int (Int64.toInt32 r4)), (3, .int (Int64.toInt32 r3)), (0, .ref 0), (1, .ref b), (2, .int c)]) (st' := [.ref 0]) (M' := v_mk s23) rfl ?_
                      refine v_gf rfl (v_gr (rfl : v_kd 0 = 10) (rfl : v_sl 0 3 = .ref 3) ⟨rfl, rfl, by decide⟩) ?_
                      refine s_ek_bk 1 (P := 178) (ls' := [(8, .int (Int64.toInt32 r8)), (7, .int (Int64.toInt32 r7)), (6, .int (Int64.toInt32 r6)), (5, .int (Int64.toInt32 r5)), (4, .int (Int64.toInt32 r4)), (3, .int (Int64.toInt32 r3)), (0, .ref 0), (1, .ref b), (2, .int c)]) (st' := [.ref 0, .ref 3]) (M' := v_mk s23) rfl ?_
                      refine v_gf rfl (v_gr (rfl : v_kd 0 = 10) (rfl : v_sl 0 2 = .ref 2) ⟨rfl, rfl, by decide⟩) ?_
                      refine s_ek_bk 1 (P := 182) (ls' := [(8, .int (Int64.toInt32 r8)), (7, .int (Int64.toInt32 r7)), (6, .int (Int64.toInt32 r6)), (5, .int (Int64.toInt32 r5)), (4, .int (Int64.toInt32 r4)), (3, .int (Int64.toInt32 r3)), (0, .ref 0), (1, .ref b), (2, .int c)]) (st' := [.ref 0, .ref 2, .ref 3]) (M' := v_mk s23) rfl ?_
                      refine v_gf rfl (v_gr (rfl : v_kd 0 = 10) (rfl : v_sl 0 2 = .ref 2) ⟨rfl, rfl, by decide⟩) ?_
                      refine v_alen (x := 3) rfl (by rw [v_len (rfl : v_kd 2 = 13) (by decide), (rfl : v_ln 2 = 3)]; rfl) ?_
                      obtain ⟨r24, s24, e24, h⟩ := v_bd h
                      refine v_cV (ν := s_e68.1) (w := 546) (a := 3) (as' := [.ref 2, .int 3]) (r := []) (o := some (.int r24)) (by omega) rfl rfl rfl (v_mk_kd (k := 5) (rfl : v_kd 3 = 5) (by decide)) rfl (t_Rd_read (rfl : v_kd 2 = 13) e24 (by omega)) ?_
                      show s_Ek (s_rows 3 L xs) D s_e137.1 189 [(8, .int (Int64.toInt32 r8)), (7, .int (Int64.toInt32 r7)), (6, .int (Int64.toInt32 r6)), (5, .int (Int64.toInt32 r5)), (4, .int (Int64.toInt32 r4)), (3, .int (Int64.toInt32 r3)), (0, .ref 0), (1, .ref b), (2, .int c)] [.int r24] (v_mk s24) _
                      refine s_ek_bk 1 (P := 190) (ls' := [(8, .int (Int64.toInt32 r8)), (7, .int (Int64.toInt32 r7)), (6, .int (Int64.toInt32 r6)), (5, .int (Int64.toInt32 r5)), (4, .int (Int64.toInt32 r4)), (3, .int (Int64.toInt32 r3)), (0, .ref 0), (1, .ref b), (2, .int c)]) (st' := [.int (-1), .int r24]) (M' := v_mk s24) rfl ?_
                      rcases v_if h with ⟨c25, h⟩ | ⟨c25, h⟩
                      · refine v_i2f (T := 219) rfl rfl (fun q => q c25) ?_
                        refine s_ek_bk 1 (P := 194) (ls' := [(8, .int (Int64.toInt32 r8)), (7, .int (Int64.toInt32 r7)), (6, .int (Int64.toInt32 r6)), (5, .int (Int64.toInt32 r5)), (4, .int (Int64.toInt32 r4)), (3, .int (Int64.toInt32 r3)), (0, .ref 0), (1, .ref b), (2, .int c)]) (st' := [.ref 0]) (M' := v_mk s24) rfl ?_
                        refine v_gf rfl (v_gr (rfl : v_kd 0 = 10) (rfl : v_sl 0 4 = .ref 8) ⟨rfl, rfl, by decide⟩) ?_
                        refine s_ek_bk 4 (P := 203) (ls' := [(8, .int (Int64.toInt32 r8)), (7, .int (Int64.toInt32 r7)), (6, .int (Int64.toInt32 r6)), (5, .int (Int64.toInt32 r5)), (4, .int (Int64.toInt32 r4)), (3, .int (Int64.toInt32 r3)), (0, .ref 0), (1, .ref b), (2, .int c)]) (st' := [.ref 0, .int (Int64.toInt32 r5), .int (Int64.toInt32 r4), .int (Int64.toInt32 r3), .ref 8]) (M' := v_mk s24) rfl ?_
                        refine v_gf rfl (v_gr (rfl : v_kd 0 = 10) (rfl : v_sl 0 3 = .ref 3) ⟨rfl, rfl, by decide⟩) ?_
                        refine v_gf rfl (v_gr (rfl : v_kd 3 = 5) (rfl : v_sl 3 0 = .ref 4) ⟨rfl, rfl, by decide⟩) ?_
                        obtain ⟨r26, s26, e26, h⟩ := v_bd h
                        refine v_cV (ν := s_e43.1) (w := 348) (a := 8) (as' := [.int (Int64.toInt32 r3), .int (Int64.toInt32 r4), .int (Int64.toInt32 r5), .ref 4]) (r := []) (o := some (.int r26)) (by omega) rfl rfl rfl (v_mk_kd (k := 3) (rfl : v_kd 8 = 3) (by decide)) rfl (t_Ct_admit (rfl : v_kd 4 = 7) e26 (by omega)) ?_
                        show s_Ek (s_rows 3 L xs) D s_e137.1 212 [(8, .int (Int64.toInt32 r8)), (7, .int (Int64.toInt32 r7)), (6, .int (Int64.toInt32 r6)), (5, .int (Int64.toInt32 r5)), (4, .int (Int64.toInt32 r4)), (3, .int (Int64.toInt32 r3)), (0, .ref 0), (1, .ref b), (2, .int c)] [.int r26] (v_mk s26) _
                        rcases v_if h with ⟨c27, h⟩ | ⟨c27, h⟩
                        · refine v_i1t (T := 219) rfl rfl c27 ?_
                          refine s_ek_bk 1 (P := 220) (ls' := [(8, .int (Int64.toInt32 r8)), (7, .int (Int64.toInt32 r7)), (6, .int (Int64.toInt32 r6)), (5, .int (Int64.toInt32 r5)), (4, .int (Int64.toInt32 r4)), (3, .int (Int64.toInt32 r3)), (0, .ref 0), (1, .ref b), (2, .int c)]) (st' := [.int 0]) (M' := v_mk s26) rfl ?_
                          obtain ⟨rfl, rfl⟩ := v_so h
                          exact v_ret (fun _ => rfl)
                        · refine v_i1f (T := 219) rfl rfl c27 ?_
                          refine s_ek_bk 2 (P := 220) (ls' := [(8, .int (Int64.toInt32 r8)), (7, .int (Int64.toInt32 r7)), (6, .int (Int64.toInt32 r6)), (5, .int (Int64.toInt32 r5)), (4, .int (Int64.toInt32 r4)), (3, .int (Int64.toInt32 r3)), (0, .ref 0), (1, .ref b), (2, .int c)]) (st' := [.int 1]) (M' := v_mk s26) rfl ?_
                          obtain ⟨rfl, rfl⟩ := v_so h
                          exact v_ret (fun _ => rfl)
                      · refine v_i2t (T := 219) rfl rfl c25 ?_
                        refine s_ek_bk 1 (P := 220) (ls' := [(8, .int (Int64.toInt32 r8)), (7, .int (Int64.toInt32 r7)), (6, .int (Int64.toInt32 r6)), (5, .int (Int64.toInt32 r5)), (4, .int (Int64.toInt32 r4)), (3, .int (Int64.toInt32 r3)), (0, .ref 0), (1, .ref b), (2, .int c)]) (st' := [.int 0]) (M' := v_mk s24) rfl ?_
                        obtain ⟨rfl, rfl⟩ := v_so h
                        exact v_ret (fun _ => rfl)
                    · refine v_i2f (T := 140) rfl rfl c20 ?_
                      refine s_ek_bk 1 (P := 139) (ls' := [(8, .int (Int64.toInt32 r8)), (7, .int (Int64.toInt32 r7)), (6, .int (Int64.toInt32 r6)), (5, .int (Int64.toInt32 r5)), (4, .int (Int64.toInt32 r4)), (3, .int (Int64.toInt32 r3)), (0, .ref 0), (1, .ref b), (2, .int c)]) (st' := [.int 0]) (M' := v_mk s15) rfl ?_
                      obtain ⟨rfl, rfl⟩ := v_so h
                      exact v_ret (fun _ => rfl)
    · refine v_i2f (T := 25) rfl rfl c2 ?_
      refine s_ek_bk 1 (P := 24) (ls' := [(0, .ref 0), (1, .ref b), (2, .int c)]) (st' := [.int 0]) (M' := v_mk s) rfl ?_
      obtain ⟨rfl, rfl⟩ := v_so h
      exact v_ret (fun _ => rfl)
noncomputable def f_Ol_isShelf (b : Int32) (s : vS) : Option (Int32 × vS) := (if b.toInt < 0 then (some (0, s)) else (if 6 ≤ b.toInt then (some (0, s)) else (some (1, s))))
set_option maxRecDepth 20000 in
set_option maxHeartbeats 4000000 in
theorem t_Ol_isShelf {L : Nat} {xs : Nat → Int32} {b : Int32} {D : Nat} {r : Int32} {s s' : vS} (h : f_Ol_isShelf b s = some (r, s')) (hD : 0 ≤ D) : s_Ek (s_rows 3 L xs) D s_e175.1 0 (lv_args 0 [.int b]) [] (v_mk s) (v_Q (some (.int r)) s') := by
  unfold f_Ol_isShelf at h
  show s_Ek (s_rows 3 L xs) D s_e175.1 0 [(0, .int b)] [] (v_mk s) _
  refine s_ek_bk 1 (P := 1) (ls' := [(0, .int b)]) (st' := [.int b]) (M' := v_mk s) rfl ?_
  rcases v_if h with ⟨c1, h⟩ | ⟨c1, h⟩
  · refine v_i1t (T := 14) rfl rfl c1 ?_
    refine s_ek_bk 1 (P := 15) (ls' := [(0, .int b)]) (st' := [.int 0]) (M' := v_mk s) rfl ?_
    obtain ⟨rfl, rfl⟩ := v_so h
    exact v_ret (fun _ => rfl)
  · refine v_i1f (T := 14) rfl rfl c1 ?_
    refine s_ek_bk 2 (P := 7) (ls' := [(0, .int b)]) (st' := [.int 6, .int b]) (M' := v_mk s) rfl ?_
    rcases v_if h with ⟨c2, h⟩ | ⟨c2, h⟩
    · refine v_i2t (T := 14) rfl rfl c2 ?_
      refine s_ek_bk 1 (P := 15) (ls' := [(0, .int b)]) (st' := [.int 0]) (M' := v_mk s) rfl ?_
      obtain ⟨rfl, rfl⟩ := v_so h
      exact v_ret (fun _ => rfl)
    · refine v_i2f (T := 14) rfl rfl c2 ?_
      refine s_ek_bk 2 (P := 15) (ls' := [(0, .int b)]) (st' := [.int 1]) (M' := v_mk s) rfl ?_
      obtain ⟨rfl, rfl⟩ := v_so h
      exact v_ret (fun _ => rfl)
noncomputable def f_Ol_shelfAt (b : Int32) (s : vS) : Option (Nat × vS) := (if b.toInt < 0 then (some (136, s)) else (if 6 ≤ b.toInt then (some (136, s)) else (if v_in b 6 then (if v_in b 6 then (some ((139 + 2 * (Int32.toNatClampNeg b)), s)) else none) else none)))
set_option maxRecDepth 20000 in
set_option maxHeartbeats 4000000 in
theorem t_Ol_shelfAt {L : Nat} {xs : Nat → Int32} {b : Int32} {D : Nat} {r : Nat} {s s' : vS} (h : f_Ol_shelfAt b s = some (r, s')) (hD : 0 ≤ D) : s_Ek (s_rows 3 L xs) D s_e176.1 0 (lv_args 0 [.ref 0, .int b]) [] (v_mk s) (v_Q (some (.ref r)) s') := by
  unfold f_Ol_shelfAt at h
  show s_Ek (s_rows 3 L xs) D s_e176.1 0 [(0, .ref 0), (1, .int b)] [] (v_mk s) _
  refine s_ek_bk 1 (P := 1) (ls' := [(0, .ref 0), (1, .int b)]) (st' := [.int b]) (M' := v_mk s) rfl ?_
  rcases v_if h with ⟨c1, h⟩ | ⟨c1, h⟩
  · refine v_i1t (T := 22) rfl rfl c1 ?_
    refine s_ek_bk 1 (P := 23) (ls' := [(0, .ref 0), (1, .int b)]) (st' := [.ref 0]) (M' := v_mk s) rfl ?_
    refine v_gf rfl (v_gr (rfl : v_kd 0 = 10) (rfl : v_sl 0 9 = .ref 136) ⟨rfl, rfl, by decide⟩) ?_
    obtain ⟨rfl, rfl⟩ := v_so h
    exact v_ret (fun _ => rfl)
  · refine v_i1f (T := 22) rfl rfl c1 ?_
    refine s_ek_bk 2 (P := 6) (ls' := [(0, .ref 0), (1, .int b)]) (st' := [.ref 0, .int b]) (M' := v_mk s) rfl ?_
    refine v_gf rfl (v_gr (rfl : v_kd 0 = 10) (rfl : v_sl 0 8 = .ref 135) ⟨rfl, rfl, by decide⟩) ?_
    refine v_alen (x := 6) rfl (by rw [v_len (rfl : v_kd 135 = 19) (by decide), (rfl : v_ln 135 = 6)]; rfl) ?_
    rcases v_if h with ⟨c2, h⟩ | ⟨c2, h⟩
    · refine v_i2t (T := 22) rfl rfl c2 ?_
      refine s_ek_bk 1 (P := 23) (ls' := [(0, .ref 0), (1, .int b)]) (st' := [.ref 0]) (M' := v_mk s) rfl ?_
      refine v_gf rfl (v_gr (rfl : v_kd 0 = 10) (rfl : v_sl 0 9 = .ref 136) ⟨rfl, rfl, by decide⟩) ?_
      obtain ⟨rfl, rfl⟩ := v_so h
      exact v_ret (fun _ => rfl)
    · refine v_i2f (T := 22) rfl rfl c2 ?_
      refine s_ek_bk 1 (P := 14) (ls' := [(0, .ref 0), (1, .int b)]) (st' := [.ref 0]) (M' := v_mk s) rfl ?_
      refine v_gf rfl (v_gr (rfl : v_kd 0 = 10) (rfl : v_sl 0 8 = .ref 135) ⟨rfl, rfl, by decide⟩) ?_
      refine s_ek_bk 1 (P := 18) (ls' := [(0, .ref 0), (1, .int b)]) (st' := [.int b, .ref 135]) (M' := v_mk s) rfl ?_
      obtain ⟨c3, h⟩ := v_ck h
      refine v_aa (i := b) rfl (v_ar (rfl : v_kd 135 = 19) rfl (by decide) (v_shelves (v_ii c3.1 c3.2)).1 c3.1) ?_
      refine s_ek_bk 2 (P := 28) (ls' := [(0, .ref 0), (1, .int b)]) (st' := [.ref 0]) (M' := v_mk s) rfl ?_
      refine v_gf rfl (v_gr (rfl : v_kd 0 = 10) (rfl : v_sl 0 8 = .ref 135) ⟨rfl, rfl, by decide⟩) ?_
      refine s_ek_bk 1 (P := 32) (ls' := [(0, .ref 0), (1, .int b)]) (st' := [.int b, .ref 135]) (M' := v_mk s) rfl ?_
      obtain ⟨c4, h⟩ := v_ck h
      refine v_aa (i := b) rfl (v_ar (rfl : v_kd 135 = 19) rfl (by decide) (v_shelves (v_ii c4.1 c4.2)).1 c4.1) ?_
      obtain ⟨rfl, rfl⟩ := v_so h
      exact v_ret (fun _ => rfl)
noncomputable def f_Ol_laws_L57b (p2 : Int32) (p3 : Int32) (p4 : Nat) (k85 : Int32 → vS → Option (Int32 × vS)) (again : Int32 → vS → Option (Int32 × vS)) (v5 : Int32) (s : vS) : Option (Int32 × vS) := (if p3.toInt ≤ v5.toInt then (k85 v5 s) else (v_bi (f_Ol_cameFromSix p4 (p2 + ((6 : Int32) * v5)) s) (fun r112 s112 => (if r112.toInt = 0 then (k85 v5 s112) else (again (v5 + 1) s112)))))
noncomputable def f_Ol_laws_L57 (p2 : Int32) (p3 : Int32) (p4 : Nat) (k85 : Int32 → vS → Option (Int32 × vS)) (n : Nat) : Int32 → vS → Option (Int32 × vS) := Nat.rec (motive := fun _ => Int32 → vS → Option (Int32 × vS)) (fun _ _ => none) (fun _ again => f_Ol_laws_L57b p2 p3 p4 k85 again) n
noncomputable def f_Ol_laws (b : Int32) (c : Int32) (d : Int32) (s : vS) : Option (Int32 × vS) := (v_bi (f_Ol_isShelf b s) (fun r1 s1 => (if r1.toInt = 0 then (some ((-1), s1)) else (if d.toInt < 1 then (some ((-1), s1)) else (if d.toInt ≤ 10 then (v_bi (f_Ol_shelfAt b s1) (fun r5 s5 => if v_kd r5 = 6 then (v_bi (f_Sh_isBare r5 s5) (fun r7 s7 => (if r7.toInt = 0 then (if (s7.1 r5 0).toInt = 0 then (if 0 ≤ c.toInt then (f_Ol_laws_L57 c d r5 (fun w11 s12 => (some (w11, s12))) 4096 0 s7) else (some (0, s7))) else (some ((-12), s7))) else (some (0, s7))))) else none)) else (some ((-1), s1)))))))
set_option maxRecDepth 20000 in
set_option maxHeartbeats 4000000 in
theorem t_Ol_laws_L57 {L : Nat} {xs : Nat → Int32} {p2 : Int32} {p3 : Int32} {p4 : Nat} (hp4 : v_kd p4 = 6) {k85 : Int32 → vS → Option (Int32 × vS)} {D : Nat} (hD : 394 ≤ D) {r : Int32} {s' : vS} (hk85 : ∀ (v5 : Int32) (s : vS), k85 v5 s = some (r, s') → s_Ek (s_rows 3 L xs) D s_e136.1 85 [(5, .int v5)] [] (v_mk s) (v_Q (some (.int r)) s')) : ∀ (n : Nat) (v5 : Int32) (s : vS), f_Ol_laws_L57 p2 p3 p4 k85 n v5 s = some (r, s') → s_Ek (s_rows 3 L xs) D s_e136.1 57 [(0, .ref 0), (2, .int p2), (3, .int p3), (4, .ref p4), (5, .int v5)] [] (v_mk s) (v_Q (some (.int r)) s') := by
  intro n
  induction n with
  | zero => intro v5 s h; exact nomatch (show (none : Option (Int32 × vS)) = some (r, s') from h)
  | succ n ih =>
    intro v5 s h
    replace h : f_Ol_laws_L57b p2 p3 p4 k85 (f_Ol_laws_L57 p2 p3 p4 k85 n) v5 s = some (r, s') := h
    unfold f_Ol_laws_L57b at h
    refine s_ek_bk 2 (P := 60) (ls' := [(0, .ref 0), (2, .int p2), (3, .int p3), (4, .ref p4), (5, .int v5)]) (st' := [.int p3, .int v5]) (M' := v_mk s) rfl ?_
    rcases v_if h with ⟨c111, h⟩ | ⟨c111, h⟩
    · refine v_i2t (T := 85) rfl rfl c111 ?_
      refine v_ls (ls' := [(5, .int v5)]) ⟨rfl, trivial⟩ (show ([5] : List Nat).Nodup from by decide) ?_
      exact hk85 _ _ h
    · refine v_i2f (T := 85) rfl rfl c111 ?_
      refine s_ek_bk 7 (P := 73) (ls' := [(0, .ref 0), (2, .int p2), (3, .int p3), (4, .ref p4), (5, .int v5)]) (st' := [.int (p2 + ((6 : Int32) * v5)), .ref p4, .ref 0]) (M' := v_mk s) rfl ?_
      obtain ⟨r112, s112, e112, h⟩ := v_bd h
      refine v_cV (ν := s_e137.1) (w := 1098) (a := 0) (as' := [.ref p4, .int (p2 + ((6 : Int32) * v5))]) (r := []) (o := some (.int r112)) (by omega) rfl rfl rfl (v_mk_kd (k := 10) (rfl : v_kd 0 = 10) (by decide)) rfl (t_Ol_cameFromSix hp4 e112 (by omega)) ?_
      show s_Ek (s_rows 3 L xs) D s_e136.1 76 [(0, .ref 0), (2, .int p2), (3, .int p3), (4, .ref p4), (5, .int v5)] [.int r112] (v_mk s112) _
      rcases v_if h with ⟨c113, h⟩ | ⟨c113, h⟩
      · refine v_i1t (T := 85) rfl rfl c113 ?_
        refine v_ls (ls' := [(5, .int v5)]) ⟨rfl, trivial⟩ (show ([5] : List Nat).Nodup from by decide) ?_
        exact hk85 _ _ h
      · refine v_i1f (T := 85) rfl rfl c113 ?_
        refine s_ek_bk 2 (P := 57) (ls' := [(5, .int (v5 + 1)), (0, .ref 0), (2, .int p2), (3, .int p3), (4, .ref p4)]) (st' := []) (M' := v_mk s112) rfl ?_
        refine v_ls (ls' := [(0, .ref 0), (2, .int p2), (3, .int p3), (4, .ref p4), (5, .int (v5 + 1))]) ⟨rfl, rfl, rfl, rfl, rfl, trivial⟩ (show ([0, 2, 3, 4, 5] : List Nat).Nodup from by decide) ?_
        exact ih _ _ h
set_option maxRecDepth 20000 in
set_option maxHeartbeats 4000000 in
theorem t_Ol_laws {L : Nat} {xs : Nat → Int32} {b : Int32} {c : Int32} {d : Int32} {D : Nat} {r : Int32} {s s' : vS} (h : f_Ol_laws b c d s = some (r, s')) (hD : 394 ≤ D) : s_Ek (s_rows 3 L xs) D s_e136.1 0 (lv_args 0 [.ref 0, .int b, .int c, .int d]) [] (v_mk s) (v_Q (some (.int r)) s') := by
  unfold f_Ol_laws at h
  show s_Ek (s_rows 3 L xs) D s_e136.1 0 [(0, .ref 0), (1, .int b), (2, .int c), (3, .int d)] [] (v_mk s) _
  refine s_ek_bk 1 (P := 1) (ls' := [(0, .ref 0), (1, .int b), (2, .int c), (3, .int d)]) (st' := [.int b]) (M' := v_mk s) rfl ?_
  obtain ⟨r1, s1, e1, h⟩ := v_bd h
  refine v_cS (ν := s_e175.1) (w := 1401) (as := [.int b]) (r := []) (o := some (.int r1)) (by omega) rfl rfl rfl rfl (t_Ol_isShelf e1 (by omega)) ?_
  show s_Ek (s_rows 3 L xs) D s_e136.1 4 [(0, .ref 0), (1, .int b), (2, .int c), (3, .int d)] [.int r1] (v_mk s1) _
  rcases v_if h with ⟨c2, h⟩ | ⟨c2, h⟩
  · refine v_i1t (T := 18) rfl rfl c2 ?_
    refine s_ek_bk 1 (P := 19) (ls' := [(0, .ref 0), (1, .int b), (2, .int c), (3, .int d)]) (st' := [.int (-1)]) (M' := v_mk s1) rfl ?_
    obtain ⟨rfl, rfl⟩ := v_so h
    exact v_ret (fun _ => rfl)
  · refine v_i1f (T := 18) rfl rfl c2 ?_
    refine s_ek_bk 2 (P := 9) (ls' := [(0, .ref 0), (1, .int b), (2, .int c), (3, .int d)]) (st' := [.int 1, .int d]) (M' := v_mk s1) rfl ?_
    rcases v_if h with ⟨c3, h⟩ | ⟨c3, h⟩
    · refine v_i2t (T := 18) rfl rfl c3 ?_
      refine s_ek_bk 1 (P := 19) (ls' := [(0, .ref 0), (1, .int b), (2, .int c), (3, .int d)]) (st' := [.int (-1)]) (M' := v_mk s1) rfl ?_
      obtain ⟨rfl, rfl⟩ := v_so h
      exact v_ret (fun _ => rfl)
    · refine v_i2f (T := 18) rfl rfl c3 ?_
      refine s_ek_bk 2 (P := 15) (ls' := [(0, .ref 0), (1, .int b), (2, .int c), (3, .int d)]) (st' := [.int 10, .int d]) (M' := v_mk s1) rfl ?_
      rcases v_if h with ⟨c4, h⟩ | ⟨c4, h⟩
      · refine v_i2t (T := 20) rfl rfl c4 ?_
        refine s_ek_bk 2 (P := 22) (ls' := [(0, .ref 0), (1, .int b), (2, .int c), (3, .int d)]) (st' := [.int b, .ref 0]) (M' := v_mk s1) rfl ?_
        obtain ⟨r5, s5, e5, h⟩ := v_bd h
        refine v_cV (ν := s_e176.1) (w := 1409) (a := 0) (as' := [.int b]) (r := []) (o := some (.ref r5)) (by omega) rfl rfl rfl (v_mk_kd (k := 10) (rfl : v_kd 0 = 10) (by decide)) rfl (t_Ol_shelfAt e5 (by omega)) ?_
        obtain ⟨c6, h⟩ := v_ck h
        show s_Ek (s_rows 3 L xs) D s_e136.1 25 [(0, .ref 0), (1, .int b), (2, .int c), (3, .int d)] [.ref r5] (v_mk s5) _
        refine s_ek_bk 2 (P := 29) (ls' := [(4, .ref r5), (0, .ref 0), (1, .int b), (2, .int c), (3, .int d)]) (st' := [.ref r5]) (M' := v_mk s5) rfl ?_
        obtain ⟨r7, s7, e7, h⟩ := v_bd h
        refine v_cV (ν := s_e84.1) (w := 672) (a := r5) (as' := []) (r := []) (o := some (.int r7)) (by omega) rfl rfl rfl (v_mk_kd (k := 6) c6 (by decide)) rfl (t_Sh_isBare c6 e7 (by omega)) ?_
        show s_Ek (s_rows 3 L xs) D s_e136.1 32 [(4, .ref r5), (0, .ref 0), (1, .int b), (2, .int c), (3, .int d)] [.int r7] (v_mk s7) _
        rcases v_if h with ⟨c8, h⟩ | ⟨c8, h⟩
        · refine v_i1t (T := 37) rfl rfl c8 ?_
          refine s_ek_bk 1 (P := 39) (ls' := [(4, .ref r5), (0, .ref 0), (1, .int b), (2, .int c), (3, .int d)]) (st' := [.ref r5]) (M' := v_mk s7) rfl ?_
          refine v_gf rfl (v_gi c6 (v_tK (j := 0) v_is6 (by decide) c6) ⟨rfl, rfl, by decide⟩) ?_
          rcases v_if h with ⟨c9, h⟩ | ⟨c9, h⟩
          · refine v_i1t (T := 48) rfl rfl c9 ?_
            refine s_ek_bk 1 (P := 49) (ls' := [(4, .ref r5), (0, .ref 0), (1, .int b), (2, .int c), (3, .int d)]) (st' := [.int c]) (M' := v_mk s7) rfl ?_
            rcases v_if h with ⟨c10, h⟩ | ⟨c10, h⟩
            · refine v_i1t (T := 54) rfl rfl c10 ?_
              refine s_ek_bk 2 (P := 57) (ls' := [(5, .int 0), (4, .ref r5), (0, .ref 0), (1, .int b), (2, .int c), (3, .int d)]) (st' := []) (M' := v_mk s7) rfl ?_
              refine v_ls (ls' := [(0, .ref 0), (2, .int c), (3, .int d), (4, .ref r5), (5, .int 0)]) ⟨rfl, rfl, rfl, rfl, rfl, trivial⟩ (show ([0, 2, 3, 4, 5] : List Nat).Nodup from by decide) ?_
              refine t_Ol_laws_L57 c6 (by omega) (fun w11 s12 h => ?_) 4096 _ _ h
              show s_Ek (s_rows 3 L xs) D s_e136.1 85 [(5, .int w11)] [] (v_mk s12) _
              refine s_ek_bk 1 (P := 87) (ls' := [(5, .int w11)]) (st' := [.int w11]) (M' := v_mk s12) rfl ?_
              obtain ⟨rfl, rfl⟩ := v_so h
              exact v_ret (fun _ => rfl)
            · refine v_i1f (T := 54) rfl rfl c10 ?_
              refine s_ek_bk 1 (P := 53) (ls' := [(4, .ref r5), (0, .ref 0), (1, .int b), (2, .int c), (3, .int d)]) (st' := [.int 0]) (M' := v_mk s7) rfl ?_
              obtain ⟨rfl, rfl⟩ := v_so h
              exact v_ret (fun _ => rfl)
          · refine v_i1f (T := 48) rfl rfl c9 ?_
            refine s_ek_bk 1 (P := 47) (ls' := [(4, .ref r5), (0, .ref 0), (1, .int b), (2, .int c), (3, .int d)]) (st' := [.int (-12)]) (M' := v_mk s7) rfl ?_
            obtain ⟨rfl, rfl⟩ := v_so h
            exact v_ret (fun _ => rfl)
        · refine v_i1f (T := 37) rfl rfl c8 ?_
          refine s_ek_bk 1 (P := 36) (ls' := [(4, .ref r5), (0, .ref 0), (1, .int b), (2, .int c), (3, .int d)]) (st' := [.int 0]) (M' := v_mk s7) rfl ?_
          obtain ⟨rfl, rfl⟩ := v_so h
          exact v_ret (fun _ => rfl)
      · refine v_i2f (T := 20) rfl rfl c4 ?_
        refine s_ek_bk 1 (P := 19) (ls' := [(0, .ref 0), (1, .int b), (2, .int c), (3, .int d)]) (st' := [.int (-1)]) (M' := v_mk s1) rfl ?_
        obtain ⟨rfl, rfl⟩ := v_so h
        exact v_ret (fun _ => rfl)
noncomputable def f_Ol_isRule (b : Int32) (s : vS) : Option (Int32 × vS) := (if b.toInt < 0 then (some (0, s)) else (if 4 ≤ b.toInt then (some (0, s)) else (some (1, s))))
set_option maxRecDepth 20000 in
set_option maxHeartbeats 4000000 in
theorem t_Ol_isRule {L : Nat} {xs : Nat → Int32} {b : Int32} {D : Nat} {r : Int32} {s s' : vS} (h : f_Ol_isRule b s = some (r, s')) (hD : 0 ≤ D) : s_Ek (s_rows 3 L xs) D s_e173.1 0 (lv_args 0 [.int b]) [] (v_mk s) (v_Q (some (.int r)) s') := by
  unfold f_Ol_isRule at h
  show s_Ek (s_rows 3 L xs) D s_e173.1 0 [(0, .int b)] [] (v_mk s) _
  refine s_ek_bk 1 (P := 1) (ls' := [(0, .int b)]) (st' := [.int b]) (M' := v_mk s) rfl ?_
  rcases v_if h with ⟨c1, h⟩ | ⟨c1, h⟩
  · refine v_i1t (T := 13) rfl rfl c1 ?_
    refine s_ek_bk 1 (P := 14) (ls' := [(0, .int b)]) (st' := [.int 0]) (M' := v_mk s) rfl ?_
    obtain ⟨rfl, rfl⟩ := v_so h
    exact v_ret (fun _ => rfl)
  · refine v_i1f (T := 13) rfl rfl c1 ?_
    refine s_ek_bk 2 (P := 6) (ls' := [(0, .int b)]) (st' := [.int 4, .int b]) (M' := v_mk s) rfl ?_
    rcases v_if h with ⟨c2, h⟩ | ⟨c2, h⟩
    · refine v_i2t (T := 13) rfl rfl c2 ?_
      refine s_ek_bk 1 (P := 14) (ls' := [(0, .int b)]) (st' := [.int 0]) (M' := v_mk s) rfl ?_
      obtain ⟨rfl, rfl⟩ := v_so h
      exact v_ret (fun _ => rfl)
    · refine v_i2f (T := 13) rfl rfl c2 ?_
      refine s_ek_bk 2 (P := 14) (ls' := [(0, .int b)]) (st' := [.int 1]) (M' := v_mk s) rfl ?_
      obtain ⟨rfl, rfl⟩ := v_so h
      exact v_ret (fun _ => rfl)
noncomputable def f_Ol_mayBecome (b : Int32) (c : Int32) (d : Int32) (s : vS) : Option (Int32 × vS) := (if c.toInt < 0 ∨ 4 < c.toInt then (some (0, s)) else (if c.toInt = 0 then (v_bi (f_Ct_knows b s) (fun r3 s3 => (if r3.toInt = 0 then (some (0, s3)) else (v_bi (f_Ol_isDate d s3) (fun r5 s5 => (if r5.toInt = 0 then (some (0, s5)) else (some (1, s5)))))))) else (if c.toInt = 1 then (v_bi (f_Ct_knows b s) (fun r8 s8 => (if r8.toInt = 0 then (some (0, s8)) else (v_bi (f_Ol_isSaying d s8) (fun r10 s10 => (if r10.toInt = 0 then (some (0, s10)) else (some (1, s10)))))))) else (if c.toInt = 2 then (v_bi (f_Ct_knows b s) (fun r13 s13 => (if r13.toInt = 0 then (some (0, s13)) else (v_bi (f_Ol_isStruck d s13) (fun r15 s15 => (if r15.toInt = 0 then (some (0, s15)) else (some (1, s15)))))))) else (if c.toInt = 3 then (if b.toInt = 0 then (v_bi (f_Ol_isRule d s) (fun r19 s19 => (if r19.toInt = 0 then (some (0, s19)) else (some (1, s19))))) else (some (0, s))) else (if b.toInt = 0 then (v_bi (f_Ol_isDate d s) (fun r22 s22 => (if r22.toInt = 0 then (some (0, s22)) else (some (1, s22))))) else (some (0, s))))))))
set_option maxRecDepth 20000 in
set_option maxHeartbeats 4000000 in
theorem t_Ol_mayBecome {L : Nat} {xs : Nat → Int32} {b : Int32} {c : Int32} {d : Int32} {D : Nat} {r : Int32} {s s' : vS} (h : f_Ol_mayBecome b c d s = some (r, s')) (hD : 1 ≤ D) : s_Ek (s_rows 3 L xs) D s_e139.1 0 (lv_args 0 [.ref 0, .int b, .int c, .int d]) [] (v_mk s) (v_Q (some (.int r)) s') := by
  unfold f_Ol_mayBecome at h
  show s_Ek (s_rows 3 L xs) D s_e139.1 0 [(0, .ref 0), (1, .int b), (2, .int c), (3, .int d)] [] (v_mk s) _
  refine s_ek_bk 1 (P := 1) (ls' := [(0, .ref 0), (1, .int b), (2, .int c), (3, .int d)]) (st' := [.int c]) (M' := v_mk s) rfl ?_
  rcases v_if h with ⟨c1, h⟩ | ⟨c1, h⟩
  · refine v_tso (T := 142) rfl rfl c1 ?_
    refine s_ek_bk 1 (P := 143) (ls' := [(0, .ref 0), (1, .int b), (2, .int c), (3, .int d)]) (st' := [.int 0]) (M' := v_mk s) rfl ?_
    obtain ⟨rfl, rfl⟩ := v_so h
    exact v_ret (fun _ => rfl)
  · rcases v_if h with ⟨c2, h⟩ | ⟨c2, h⟩
    · refine v_tsi (T := 36) (c := 0) rfl c2 rfl ?_
      refine s_ek_bk 1 (P := 37) (ls' := [(0, .ref 0), (1, .int b), (2, .int c), (3, .int d)]) (st' := [.ref 0]) (M' := v_mk s) rfl ?_
      refine v_gf rfl (v_gr (rfl : v_kd 0 = 10) (rfl : v_sl 0 4 = .ref 8) ⟨rfl, rfl, by decide⟩) ?_
      refine s_ek_bk 1 (P := 41) (ls' := [(0, .ref 0), (1, .int b), (2, .int c), (3, .int d)]) (st' := [.int b, .ref 8]) (M' := v_mk s) rfl ?_
      obtain ⟨r3, s3, e3, h⟩ := v_bd h
      refine v_cV (ν := s_e40.1) (w := 321) (a := 8) (as' := [.int b]) (r := []) (o := some (.int r3)) (by omega) rfl rfl rfl (v_mk_kd (k := 3) (rfl : v_kd 8 = 3) (by decide)) rfl (t_Ct_knows e3 (by omega)) ?_
      show s_Ek (s_rows 3 L xs) D s_e139.1 44 [(0, .ref 0), (1, .int b), (2, .int c), (3, .int d)] [.int r3] (v_mk s3) _
      rcases v_if h with ⟨c4, h⟩ | ⟨c4, h⟩
      · refine v_i1t (T := 58) rfl rfl c4 ?_
        refine s_ek_bk 1 (P := 59) (ls' := [(0, .ref 0), (1, .int b), (2, .int c), (3, .int d)]) (st' := [.int 0]) (M' := v_mk s3) rfl ?_
        obtain ⟨rfl, rfl⟩ := v_so h
        exact v_ret (fun _ => rfl)
      · refine v_i1f (T := 58) rfl rfl c4 ?_
        refine s_ek_bk 1 (P := 48) (ls' := [(0, .ref 0), (1, .int b), (2, .int c), (3, .int d)]) (st' := [.int d]) (M' := v_mk s3) rfl ?_
        obtain ⟨r5, s5, e5, h⟩ := v_bd h
        refine v_cS (ν := s_e169.1) (w := 1353) (as := [.int d]) (r := []) (o := some (.int r5)) (by omega) rfl rfl rfl rfl (t_Ol_isDate e5 (by omega)) ?_
        show s_Ek (s_rows 3 L xs) D s_e139.1 51 [(0, .ref 0), (1, .int b), (2, .int c), (3, .int d)] [.int r5] (v_mk s5) _
        rcases v_if h with ⟨c6, h⟩ | ⟨c6, h⟩
        · refine v_i1t (T := 58) rfl rfl c6 ?_
          refine s_ek_bk 1 (P := 59) (ls' := [(0, .ref 0), (1, .int b), (2, .int c), (3, .int d)]) (st' := [.int 0]) (M' := v_mk s5) rfl ?_
          obtain ⟨rfl, rfl⟩ := v_so h
          exact v_ret (fun _ => rfl)
        · refine v_i1f (T := 58) rfl rfl c6 ?_
          refine s_ek_bk 2 (P := 59) (ls' := [(0, .ref 0), (1, .int b), (2, .int c), (3, .int d)]) (st' := [.int 1]) (M' := v_mk s5) rfl ?_
          obtain ⟨rfl, rfl⟩ := v_so h
          exact v_ret (fun _ => rfl)
    · rcases v_if h with ⟨c7, h⟩ | ⟨c7, h⟩
      · refine v_tsi (T := 60) (c := 1) rfl c7 rfl ?_
        refine s_ek_bk 1 (P := 61) (ls' := [(0, .ref 0), (1, .int b), (2, .int c), (3, .int d)]) (st' := [.ref 0]) (M' := v_mk s) rfl ?_
        refine v_gf rfl (v_gr (rfl : v_kd 0 = 10) (rfl : v_sl 0 4 = .ref 8) ⟨rfl, rfl, by decide⟩) ?_
        refine s_ek_bk 1 (P := 65) (ls' := [(0, .ref 0), (1, .int b), (2, .int c), (3, .int d)]) (st' := [.int b, .ref 8]) (M' := v_mk s) rfl ?_
        obtain ⟨r8, s8, e8, h⟩ := v_bd h
        refine v_cV (ν := s_e40.1) (w := 321) (a := 8) (as' := [.int b]) (r := []) (o := some (.int r8)) (by omega) rfl rfl rfl (v_mk_kd (k := 3) (rfl : v_kd 8 = 3) (by decide)) rfl (t_Ct_knows e8 (by omega)) ?_
        show s_Ek (s_rows 3 L xs) D s_e139.1 68 [(0, .ref 0), (1, .int b), (2, .int c), (3, .int d)] [.int r8] (v_mk s8) _
        rcases v_if h with ⟨c9, h⟩ | ⟨c9, h⟩
        · refine v_i1t (T := 82) rfl rfl c9 ?_
          refine s_ek_bk 1 (P := 83) (ls' := [(0, .ref 0), (1, .int b), (2, .int c), (3, .int d)]) (st' := [.int 0]) (M' := v_mk s8) rfl ?_
          obtain ⟨rfl, rfl⟩ := v_so h
          exact v_ret (fun _ => rfl)
        · refine v_i1f (T := 82) rfl rfl c9 ?_
          refine s_ek_bk 1 (P := 72) (ls' := [(0, .ref 0), (1, .int b), (2, .int c), (3, .int d)]) (st' := [.int d]) (M' := v_mk s8) rfl ?_
          obtain ⟨r10, s10, e10, h⟩ := v_bd h
          refine v_cS (ν := s_e170.1) (w := 1361) (as := [.int d]) (r := []) (o := some (.int r10)) (by omega) rfl rfl rfl rfl (t_Ol_isSaying e10 (by omega)) ?_
          show s_Ek (s_rows 3 L xs) D s_e139.1 75 [(0, .ref 0), (1, .int b), (2, .int c), (3, .int d)] [.int r10] (v_mk s10) _
          rcases v_if h with ⟨c11, h⟩ | ⟨c11, h⟩
          · refine v_i1t (T := 82) rfl rfl c11 ?_
            refine s_ek_bk 1 (P := 83) (ls' := [(0, .ref 0), (1, .int b), (2, .int c), (3, .int d)]) (st' := [.int 0]) (M' := v_mk s10) rfl ?_
            obtain ⟨rfl, rfl⟩ := v_so h
            exact v_ret (fun _ => rfl)
          · refine v_i1f (T := 82) rfl rfl c11 ?_
            refine s_ek_bk 2 (P := 83) (ls' := [(0, .ref 0), (1, .int b), (2, .int c), (3, .int d)]) (st' := [.int 1]) (M' := v_mk s10) rfl ?_
            obtain ⟨rfl, rfl⟩ := v_so h
            exact v_ret (fun _ => rfl)
      · rcases v_if h with ⟨c12, h⟩ | ⟨c12, h⟩
        · refine v_tsi (T := 84) (c := 2) rfl c12 rfl ?_
          refine s_ek_bk 1 (P := 85) (ls' := [(0, .ref 0), (1, .int b), (2, .int c), (3, .int d)]) (st' := [.ref 0]) (M' := v_mk s) rfl ?_
          refine v_gf rfl (v_gr (rfl : v_kd 0 = 10) (rfl : v_sl 0 4 = .ref 8) ⟨rfl, rfl, by decide⟩) ?_
          refine s_ek_bk 1 (P := 89) (ls' := [(0, .ref 0), (1, .int b), (2, .int c), (3, .int d)]) (st' := [.int b, .ref 8]) (M' := v_mk s) rfl ?_
          obtain ⟨r13, s13, e13, h⟩ := v_bd h
          refine v_cV (ν := s_e40.1) (w := 321) (a := 8) (as' := [.int b]) (r := []) (o := some (.int r13)) (by omega) rfl rfl rfl (v_mk_kd (k := 3) (rfl : v_kd 8 = 3) (by decide)) rfl (t_Ct_knows e13 (by omega)) ?_
          show s_Ek (s_rows 3 L xs) D s_e139.1 92 [(0, .ref 0), (1, .int b), (2, .int c), (3, .int d)] [.int r13] (v_mk s13) _
          rcases v_if h with ⟨c14, h⟩ | ⟨c14, h⟩
          · refine v_i1t (T := 106) rfl rfl c14 ?_
            refine s_ek_bk 1 (P := 107) (ls' := [(0, .ref 0), (1, .int b), (2, .int c), (3, .int d)]) (st' := [.int 0]) (M' := v_mk s13) rfl ?_
            obtain ⟨rfl, rfl⟩ := v_so h
            exact v_ret (fun _ => rfl)
          · refine v_i1f (T := 106) rfl rfl c14 ?_
            refine s_ek_bk 1 (P := 96) (ls' := [(0, .ref 0), (1, .int b), (2, .int c), (3, .int d)]) (st' := [.int d]) (M' := v_mk s13) rfl ?_
            obtain ⟨r15, s15, e15, h⟩ := v_bd h
            refine v_cS (ν := s_e171.1) (w := 1369) (as := [.int d]) (r := []) (o := some (.int r15)) (by omega) rfl rfl rfl rfl (t_Ol_isStruck e15 (by omega)) ?_
            show s_Ek (s_rows 3 L xs) D s_e139.1 99 [(0, .ref 0), (1, .int b), (2, .int c), (3, .int d)] [.int r15] (v_mk s15) _
            rcases v_if h with ⟨c16, h⟩ | ⟨c16, h⟩
            · refine v_i1t (T := 106) rfl rfl c16 ?_
              refine s_ek_bk 1 (P := 107) (ls' := [(0, .ref 0), (1, .int b), (2, .int c), (3, .int d)]) (st' := [.int 0]) (M' := v_mk s15) rfl ?_
              obtain ⟨rfl, rfl⟩ := v_so h
              exact v_ret (fun _ => rfl)
            · refine v_i1f (T := 106) rfl rfl c16 ?_
              refine s_ek_bk 2 (P := 107) (ls' := [(0, .ref 0), (1, .int b), (2, .int c), (3, .int d)]) (st' := [.int 1]) (M' := v_mk s15) rfl ?_
              obtain ⟨rfl, rfl⟩ := v_so h
              exact v_ret (fun _ => rfl)
        · rcases v_if h with ⟨c17, h⟩ | ⟨c17, h⟩
          · refine v_tsi (T := 108) (c := 3) rfl c17 rfl ?_
            refine s_ek_bk 1 (P := 109) (ls' := [(0, .ref 0), (1, .int b), (2, .int c), (3, .int d)]) (st' := [.int b]) (M' := v_mk s) rfl ?_
            rcases v_if h with ⟨c18, h⟩ | ⟨c18, h⟩
            · refine v_i1f (T := 123) rfl rfl (fun q => q c18) ?_
              refine s_ek_bk 1 (P := 113) (ls' := [(0, .ref 0), (1, .int b), (2, .int c), (3, .int d)]) (st' := [.int d]) (M' := v_mk s) rfl ?_
              obtain ⟨r19, s19, e19, h⟩ := v_bd h
              refine v_cS (ν := s_e173.1) (w := 1385) (as := [.int d]) (r := []) (o := some (.int r19)) (by omega) rfl rfl rfl rfl (t_Ol_isRule e19 (by omega)) ?_
              show s_Ek (s_rows 3 L xs) D s_e139.1 116 [(0, .ref 0), (1, .int b), (2, .int c), (3, .int d)] [.int r19] (v_mk s19) _
              rcases v_if h with ⟨c20, h⟩ | ⟨c20, h⟩
              · refine v_i1t (T := 123) rfl rfl c20 ?_
                refine s_ek_bk 1 (P := 124) (ls' := [(0, .ref 0), (1, .int b), (2, .int c), (3, .int d)]) (st' := [.int 0]) (M' := v_mk s19) rfl ?_
                obtain ⟨rfl, rfl⟩ := v_so h
                exact v_ret (fun _ => rfl)
              · refine v_i1f (T := 123) rfl rfl c20 ?_
                refine s_ek_bk 2 (P := 124) (ls' := [(0, .ref 0), (1, .int b), (2, .int c), (3, .int d)]) (st' := [.int 1]) (M' := v_mk s19) rfl ?_
                obtain ⟨rfl, rfl⟩ := v_so h
                exact v_ret (fun _ => rfl)
            · refine v_i1t (T := 123) rfl rfl c18 ?_
              refine s_ek_bk 1 (P := 124) (ls' := [(0, .ref 0), (1, .int b), (2, .int c), (3, .int d)]) (st' := [.int 0]) (M' := v_mk s) rfl ?_
              obtain ⟨rfl, rfl⟩ := v_so h
              exact v_ret (fun _ => rfl)
          · refine v_tsi (T := 125) (c := 4) rfl (by omega) rfl ?_
            refine s_ek_bk 1 (P := 126) (ls' := [(0, .ref 0), (1, .int b), (2, .int c), (3, .int d)]) (st' := [.int b]) (M' := v_mk s) rfl ?_
            rcases v_if h with ⟨c21, h⟩ | ⟨c21, h⟩
            · refine v_i1f (T := 140) rfl rfl (fun q => q c21) ?_
              refine s_ek_bk 1 (P := 130) (ls' := [(0, .ref 0), (1, .int b), (2, .int c), (3, .int d)]) (st' := [.int d]) (M' := v_mk s) rfl ?_
              obtain ⟨r22, s22, e22, h⟩ := v_bd h
              refine v_cS (ν := s_e169.1) (w := 1353) (as := [.int d]) (r := []) (o := some (.int r22)) (by omega) rfl rfl rfl rfl (t_Ol_isDate e22 (by omega)) ?_
              show s_Ek (s_rows 3 L xs) D s_e139.1 133 [(0, .ref 0), (1, .int b), (2, .int c), (3, .int d)] [.int r22] (v_mk s22) _
              rcases v_if h with ⟨c23, h⟩ | ⟨c23, h⟩
              · refine v_i1t (T := 140) rfl rfl c23 ?_
                refine s_ek_bk 1 (P := 141) (ls' := [(0, .ref 0), (1, .int b), (2, .int c), (3, .int d)]) (st' := [.int 0]) (M' := v_mk s22) rfl ?_
                obtain ⟨rfl, rfl⟩ := v_so h
                exact v_ret (fun _ => rfl)
              · refine v_i1f (T := 140) rfl rfl c23 ?_
                refine s_ek_bk 2 (P := 141) (ls' := [(0, .ref 0), (1, .int b), (2, .int c), (3, .int d)]) (st' := [.int 1]) (M' := v_mk s22) rfl ?_
                obtain ⟨rfl, rfl⟩ := v_so h
                exact v_ret (fun _ => rfl)
            · refine v_i1t (T := 140) rfl rfl c21 ?_
              refine s_ek_bk 1 (P := 141) (ls' := [(0, .ref 0), (1, .int b), (2, .int c), (3, .int d)]) (st' := [.int 0]) (M' := v_mk s) rfl ?_
              obtain ⟨rfl, rfl⟩ := v_so h
              exact v_ret (fun _ => rfl)
noncomputable def f_Ol_mend (b : Int32) (c : Int32) (d : Int32) (s : vS) : Option (Int32 × vS) := (v_bi (f_Ol_mayBecome b c d s) (fun r1 s1 => (if r1.toInt = 0 then (some ((-2000000000), s1)) else (v_bi (f_Ct_valueOf b c s1) (fun r3 s3 => (if r3.toInt = d.toInt then (some (r3, s3)) else (v_bi (f_Ch_add b c r3 d s3) (fun _ s5 => (v_bi (f_Ct_set b c d s5) (fun _ s6 => (some (r3, s6))))))))))))
set_option maxRecDepth 20000 in
set_option maxHeartbeats 4000000 in
theorem t_Ol_mend {L : Nat} {xs : Nat → Int32} {b : Int32} {c : Int32} {d : Int32} {D : Nat} {r : Int32} {s s' : vS} (h : f_Ol_mend b c d s = some (r, s')) (hD : 3 ≤ D) : s_Ek (s_rows 3 L xs) D s_e138.1 0 (lv_args 0 [.ref 0, .int b, .int c, .int d]) [] (v_mk s) (v_Q (some (.int r)) s') := by
  unfold f_Ol_mend at h
  show s_Ek (s_rows 3 L xs) D s_e138.1 0 [(0, .ref 0), (1, .int b), (2, .int c), (3, .int d)] [] (v_mk s) _
  refine s_ek_bk 4 (P := 4) (ls' := [(0, .ref 0), (1, .int b), (2, .int c), (3, .int d)]) (st' := [.int d, .int c, .int b, .ref 0]) (M' := v_mk s) rfl ?_
  obtain ⟨r1, s1, e1, h⟩ := v_bd h
  refine v_cV (ν := s_e139.1) (w := 1115) (a := 0) (as' := [.int b, .int c, .int d]) (r := []) (o := some (.int r1)) (by omega) rfl rfl rfl (v_mk_kd (k := 10) (rfl : v_kd 0 = 10) (by decide)) rfl (t_Ol_mayBecome e1 (by omega)) ?_
  show s_Ek (s_rows 3 L xs) D s_e138.1 7 [(0, .ref 0), (1, .int b), (2, .int c), (3, .int d)] [.int r1] (v_mk s1) _
  rcases v_if h with ⟨c2, h⟩ | ⟨c2, h⟩
  · refine v_i1f (T := 13) rfl rfl (fun q => q c2) ?_
    refine s_ek_bk 1 (P := 12) (ls' := [(0, .ref 0), (1, .int b), (2, .int c), (3, .int d)]) (st' := [.int (-2000000000)]) (M' := v_mk s1) rfl ?_
    obtain ⟨rfl, rfl⟩ := v_so h
    exact v_ret (fun _ => rfl)
  · refine v_i1t (T := 13) rfl rfl c2 ?_
    refine s_ek_bk 1 (P := 14) (ls' := [(0, .ref 0), (1, .int b), (2, .int c), (3, .int d)]) (st' := [.ref 0]) (M' := v_mk s1) rfl ?_
    refine v_gf rfl (v_gr (rfl : v_kd 0 = 10) (rfl : v_sl 0 4 = .ref 8) ⟨rfl, rfl, by decide⟩) ?_
    refine s_ek_bk 2 (P := 19) (ls' := [(0, .ref 0), (1, .int b), (2, .int c), (3, .int d)]) (st' := [.int c, .int b, .ref 8]) (M' := v_mk s1) rfl ?_
    obtain ⟨r3, s3, e3, h⟩ := v_bd h
    refine v_cV (ν := s_e44.1) (w := 354) (a := 8) (as' := [.int b, .int c]) (r := []) (o := some (.int r3)) (by omega) rfl rfl rfl (v_mk_kd (k := 3) (rfl : v_kd 8 = 3) (by decide)) rfl (t_Ct_valueOf e3 (by omega)) ?_
    show s_Ek (s_rows 3 L xs) D s_e138.1 22 [(0, .ref 0), (1, .int b), (2, .int c), (3, .int d)] [.int r3] (v_mk s3) _
    refine s_ek_bk 3 (P := 27) (ls' := [(4, .int r3), (0, .ref 0), (1, .int b), (2, .int c), (3, .int d)]) (st' := [.int d, .int r3]) (M' := v_mk s3) rfl ?_
    rcases v_if h with ⟨c4, h⟩ | ⟨c4, h⟩
    · refine v_i2t (T := 52) rfl rfl c4 ?_
      refine s_ek_bk 1 (P := 54) (ls' := [(4, .int r3), (0, .ref 0), (1, .int b), (2, .int c), (3, .int d)]) (st' := [.int r3]) (M' := v_mk s3) rfl ?_
      obtain ⟨rfl, rfl⟩ := v_so h
      exact v_ret (fun _ => rfl)
    · refine v_i2f (T := 52) rfl rfl c4 ?_
      refine s_ek_bk 1 (P := 31) (ls' := [(4, .int r3), (0, .ref 0), (1, .int b), (2, .int c), (3, .int d)]) (st' := [.ref 0]) (M' := v_mk s3) rfl ?_
      refine v_gf rfl (v_gr (rfl : v_kd 0 = 10) (rfl : v_sl 0 5 = .ref 73) ⟨rfl, rfl, by decide⟩) ?_
      refine s_ek_bk 4 (P := 39) (ls' := [(4, .int r3), (0, .ref 0), (1, .int b), (2, .int c), (3, .int d)]) (st' := [.int d, .int r3, .int c, .int b, .ref 73]) (M' := v_mk s3) rfl ?_
      obtain ⟨r5, s5, e5, h⟩ := v_bd h
      refine v_cV (ν := s_e13.1) (w := 108) (a := 73) (as' := [.int b, .int c, .int r3, .int d]) (r := []) (o := none) (by omega) rfl rfl rfl (v_mk_kd (k := 1) (rfl : v_kd 73 = 1) (by decide)) rfl (t_Ch_add e5 (by omega)) ?_
      show s_Ek (s_rows 3 L xs) D s_e138.1 42 [(4, .int r3), (0, .ref 0), (1, .int b), (2, .int c), (3, .int d)] [] (v_mk s5) _
      refine s_ek_bk 1 (P := 43) (ls' := [(4, .int r3), (0, .ref 0), (1, .int b), (2, .int c), (3, .int d)]) (st' := [.ref 0]) (M' := v_mk s5) rfl ?_
      refine v_gf rfl (v_gr (rfl : v_kd 0 = 10) (rfl : v_sl 0 4 = .ref 8) ⟨rfl, rfl, by decide⟩) ?_
      refine s_ek_bk 3 (P := 49) (ls' := [(4, .int r3), (0, .ref 0), (1, .int b), (2, .int c), (3, .int d)]) (st' := [.int d, .int c, .int b, .ref 8]) (M' := v_mk s5) rfl ?_
      obtain ⟨r6, s6, e6, h⟩ := v_bd h
      refine v_cV (ν := s_e45.1) (w := 363) (a := 8) (as' := [.int b, .int c, .int d]) (r := []) (o := none) (by omega) rfl rfl rfl (v_mk_kd (k := 3) (rfl : v_kd 8 = 3) (by decide)) rfl (t_Ct_set e6 (by omega)) ?_
      show s_Ek (s_rows 3 L xs) D s_e138.1 52 [(4, .int r3), (0, .ref 0), (1, .int b), (2, .int c), (3, .int d)] [] (v_mk s6) _
      refine s_ek_bk 1 (P := 54) (ls' := [(4, .int r3), (0, .ref 0), (1, .int b), (2, .int c), (3, .int d)]) (st' := [.int r3]) (M' := v_mk s6) rfl ?_
      obtain ⟨rfl, rfl⟩ := v_so h
      exact v_ret (fun _ => rfl)
noncomputable def f_Ol_moved (b : Int32) (c : Int32) (d : Int32) (s : vS) : Option (Int32 × vS) := (v_bi (f_Ol_isWord b s) (fun r1 s1 => (if r1.toInt = 0 then (some ((-1), s1)) else (if c.toInt = (-1) then (v_bi (f_Ws_move b (-1) 0 s1) (fun _ s4 => (some (1, s4)))) else (v_bi (f_Ol_isWord c s1) (fun r5 s5 => (if r5.toInt = 0 then (some ((-1), s5)) else (if c.toInt = b.toInt then (some ((-1), s5)) else (v_bi (f_Ol_isDate d s5) (fun r8 s8 => (if r8.toInt = 0 then (some ((-1), s8)) else (v_bi (f_Ws_move b c d s8) (fun _ s10 => (some (1, s10)))))))))))))))
set_option maxRecDepth 20000 in
set_option maxHeartbeats 4000000 in
theorem t_Ol_moved {L : Nat} {xs : Nat → Int32} {b : Int32} {c : Int32} {d : Int32} {D : Nat} {r : Int32} {s s' : vS} (h : f_Ol_moved b c d s = some (r, s')) (hD : 1 ≤ D) : s_Ek (s_rows 3 L xs) D s_e140.1 0 (lv_args 0 [.ref 0, .int b, .int c, .int d]) [] (v_mk s) (v_Q (some (.int r)) s') := by
  unfold f_Ol_moved at h
  show s_Ek (s_rows 3 L xs) D s_e140.1 0 [(0, .ref 0), (1, .int b), (2, .int c), (3, .int d)] [] (v_mk s) _
  refine s_ek_bk 1 (P := 1) (ls' := [(0, .ref 0), (1, .int b), (2, .int c), (3, .int d)]) (st' := [.int b]) (M' := v_mk s) rfl ?_
  obtain ⟨r1, s1, e1, h⟩ := v_bd h
  refine v_cS (ν := s_e172.1) (w := 1377) (as := [.int b]) (r := []) (o := some (.int r1)) (by omega) rfl rfl rfl rfl (t_Ol_isWord e1 (by omega)) ?_
  show s_Ek (s_rows 3 L xs) D s_e140.1 4 [(0, .ref 0), (1, .int b), (2, .int c), (3, .int d)] [.int r1] (v_mk s1) _
  rcases v_if h with ⟨c2, h⟩ | ⟨c2, h⟩
  · refine v_i1f (T := 9) rfl rfl (fun q => q c2) ?_
    refine s_ek_bk 1 (P := 8) (ls' := [(0, .ref 0), (1, .int b), (2, .int c), (3, .int d)]) (st' := [.int (-1)]) (M' := v_mk s1) rfl ?_
    obtain ⟨rfl, rfl⟩ := v_so h
    exact v_ret (fun _ => rfl)
  · refine v_i1t (T := 9) rfl rfl c2 ?_
    refine s_ek_bk 2 (P := 11) (ls' := [(0, .ref 0), (1, .int b), (2, .int c), (3, .int d)]) (st' := [.int (-1), .int c]) (M' := v_mk s1) rfl ?_
    rcases v_if h with ⟨c3, h⟩ | ⟨c3, h⟩
    · refine v_i2f (T := 29) rfl rfl (fun q => q c3) ?_
      refine s_ek_bk 1 (P := 15) (ls' := [(0, .ref 0), (1, .int b), (2, .int c), (3, .int d)]) (st' := [.ref 0]) (M' := v_mk s1) rfl ?_
      refine v_gf rfl (v_gr (rfl : v_kd 0 = 10) (rfl : v_sl 0 4 = .ref 8) ⟨rfl, rfl, by decide⟩) ?_
      refine v_gf rfl (v_gr (rfl : v_kd 8 = 3) (rfl : v_sl 8 0 = .ref 9) ⟨rfl, rfl, by decide⟩) ?_
      refine s_ek_bk 3 (P := 24) (ls' := [(0, .ref 0), (1, .int b), (2, .int c), (3, .int d)]) (st' := [.int 0, .int (-1), .int b, .ref 9]) (M' := v_mk s1) rfl ?_
      obtain ⟨r4, s4, e4, h⟩ := v_bd h
      refine v_cV (ν := s_e127.1) (w := 1019) (a := 9) (as' := [.int b, .int (-1), .int 0]) (r := []) (o := none) (by omega) rfl rfl rfl (v_mk_kd (k := 9) (rfl : v_kd 9 = 9) (by decide)) rfl (t_Ws_move e4 (by omega)) ?_
      show s_Ek (s_rows 3 L xs) D s_e140.1 27 [(0, .ref 0), (1, .int b), (2, .int c), (3, .int d)] [] (v_mk s4) _
      refine s_ek_bk 1 (P := 28) (ls' := [(0, .ref 0), (1, .int b), (2, .int c), (3, .int d)]) (st' := [.int 1]) (M' := v_mk s4) rfl ?_
      obtain ⟨rfl, rfl⟩ := v_so h
      exact v_ret (fun _ => rfl)
    · refine v_i2t (T := 29) rfl rfl c3 ?_
      refine s_ek_bk 1 (P := 30) (ls' := [(0, .ref 0), (1, .int b), (2, .int c), (3, .int d)]) (st' := [.int c]) (M' := v_mk s1) rfl ?_
      obtain ⟨r5, s5, e5, h⟩ := v_bd h
      refine v_cS (ν := s_e172.1) (w := 1377) (as := [.int c]) (r := []) (o := some (.int r5)) (by omega) rfl rfl rfl rfl (t_Ol_isWord e5 (by omega)) ?_
      show s_Ek (s_rows 3 L xs) D s_e140.1 33 [(0, .ref 0), (1, .int b), (2, .int c), (3, .int d)] [.int r5] (v_mk s5) _
      rcases v_if h with ⟨c6, h⟩ | ⟨c6, h⟩
      · refine v_i1t (T := 48) rfl rfl c6 ?_
        refine s_ek_bk 1 (P := 49) (ls' := [(0, .ref 0), (1, .int b), (2, .int c), (3, .int d)]) (st' := [.int (-1)]) (M' := v_mk s5) rfl ?_
        obtain ⟨rfl, rfl⟩ := v_so h
        exact v_ret (fun _ => rfl)
      · refine v_i1f (T := 48) rfl rfl c6 ?_
        refine s_ek_bk 2 (P := 38) (ls' := [(0, .ref 0), (1, .int b), (2, .int c), (3, .int d)]) (st' := [.int b, .int c]) (M' := v_mk s5) rfl ?_
        rcases v_if h with ⟨c7, h⟩ | ⟨c7, h⟩
        · refine v_i2t (T := 48) rfl rfl c7 ?_
          refine s_ek_bk 1 (P := 49) (ls' := [(0, .ref 0), (1, .int b), (2, .int c), (3, .int d)]) (st' := [.int (-1)]) (M' := v_mk s5) rfl ?_
          obtain ⟨rfl, rfl⟩ := v_so h
          exact v_ret (fun _ => rfl)
        · refine v_i2f (T := 48) rfl rfl c7 ?_
          refine s_ek_bk 1 (P := 42) (ls' := [(0, .ref 0), (1, .int b), (2, .int c), (3, .int d)]) (st' := [.int d]) (M' := v_mk s5) rfl ?_
          obtain ⟨r8, s8, e8, h⟩ := v_bd h
          refine v_cS (ν := s_e169.1) (w := 1353) (as := [.int d]) (r := []) (o := some (.int r8)) (by omega) rfl rfl rfl rfl (t_Ol_isDate e8 (by omega)) ?_
          show s_Ek (s_rows 3 L xs) D s_e140.1 45 [(0, .ref 0), (1, .int b), (2, .int c), (3, .int d)] [.int r8] (v_mk s8) _
          rcases v_if h with ⟨c9, h⟩ | ⟨c9, h⟩
          · refine v_i1f (T := 50) rfl rfl (fun q => q c9) ?_
            refine s_ek_bk 1 (P := 49) (ls' := [(0, .ref 0), (1, .int b), (2, .int c), (3, .int d)]) (st' := [.int (-1)]) (M' := v_mk s8) rfl ?_
            obtain ⟨rfl, rfl⟩ := v_so h
            exact v_ret (fun _ => rfl)
          · refine v_i1t (T := 50) rfl rfl c9 ?_
            refine s_ek_bk 1 (P := 51) (ls' := [(0, .ref 0), (1, .int b), (2, .int c), (3, .int d)]) (st' := [.ref 0]) (M' := v_mk s8) rfl ?_
            refine v_gf rfl (v_gr (rfl : v_kd 0 = 10) (rfl : v_sl 0 4 = .ref 8) ⟨rfl, rfl, by decide⟩) ?_
            refine v_gf rfl (v_gr (rfl : v_kd 8 = 3) (rfl : v_sl 8 0 = .ref 9) ⟨rfl, rfl, by decide⟩) ?_
            refine s_ek_bk 3 (P := 60) (ls' := [(0, .ref 0), (1, .int b), (2, .int c), (3, .int d)]) (st' := [.int d, .int c, .int b, .ref 9]) (M' := v_mk s8) rfl ?_
            obtain ⟨r10, s10, e10, h⟩ := v_bd h
            refine v_cV (ν := s_e127.1) (w := 1019) (a := 9) (as' := [.int b, .int c, .int d]) (r := []) (o := none) (by omega) rfl rfl rfl (v_mk_kd (k := 9) (rfl : v_kd 9 = 9) (by decide)) rfl (t_Ws_move e10 (by omega)) ?_
            show s_Ek (s_rows 3 L xs) D s_e140.1 63 [(0, .ref 0), (1, .int b), (2, .int c), (3, .int d)] [] (v_mk s10) _
            refine s_ek_bk 1 (P := 64) (ls' := [(0, .ref 0), (1, .int b), (2, .int c), (3, .int d)]) (st' := [.int 1]) (M' := v_mk s10) rfl ?_
            obtain ⟨rfl, rfl⟩ := v_so h
            exact v_ret (fun _ => rfl)
noncomputable def f_Ol_ofLaw (b : Int32) (c : Int32) (s : vS) : Option (Int32 × vS) := (if 2 < c.toInt then (if c.toInt = 3 then (v_bi (f_Ct_isThere b s) (fun r3 s3 => (if r3.toInt = 0 then (some (0, s3)) else (some (1, s3))))) else (v_bi (f_Ct_hear s) (fun _ s5 => (if c.toInt = 4 then (v_bi (f_Ct_isStanding b s5) (fun r7 s7 => (if r7.toInt = 0 then (some (0, s7)) else (some (1, s7))))) else (v_bi (f_Ct_at b s5) (fun r9 s9 => if v_kd r9 = 4 then (v_bi (f_Cs_size (r9 + 4) s9) (fun r11 s11 => (some (r11, s11)))) else none)))))) else (v_bi (f_Ct_valueOf b c s) (fun r12 s12 => (some (r12, s12)))))
set_option maxRecDepth 20000 in
set_option maxHeartbeats 4000000 in
theorem t_Ol_ofLaw {L : Nat} {xs : Nat → Int32} {b : Int32} {c : Int32} {D : Nat} {r : Int32} {s s' : vS} (h : f_Ol_ofLaw b c s = some (r, s')) (hD : 6 ≤ D) : s_Ek (s_rows 3 L xs) D s_e142.1 0 (lv_args 0 [.ref 0, .int b, .int c]) [] (v_mk s) (v_Q (some (.int r)) s') := by
  unfold f_Ol_ofLaw at h
  show s_Ek (s_rows 3 L xs) D s_e142.1 0 [(0, .ref 0), (1, .int b), (2, .int c)] [] (v_mk s) _
  refine s_ek_bk 2 (P := 2) (ls' := [(0, .ref 0), (1, .int b), (2, .int c)]) (st' := [.int 2, .int c]) (M' := v_mk s) rfl ?_
  rcases v_if h with ⟨c1, h⟩ | ⟨c1, h⟩
  · refine v_i2t (T := 15) rfl rfl c1 ?_
    refine s_ek_bk 2 (P := 17) (ls' := [(0, .ref 0), (1, .int b), (2, .int c)]) (st' := [.int 3, .int c]) (M' := v_mk s) rfl ?_
    rcases v_if h with ⟨c2, h⟩ | ⟨c2, h⟩
    · refine v_i2f (T := 37) rfl rfl (fun q => q c2) ?_
      refine s_ek_bk 1 (P := 21) (ls' := [(0, .ref 0), (1, .int b), (2, .int c)]) (st' := [.ref 0]) (M' := v_mk s) rfl ?_
      refine v_gf rfl (v_gr (rfl : v_kd 0 = 10) (rfl : v_sl 0 4 = .ref 8) ⟨rfl, rfl, by decide⟩) ?_
      refine s_ek_bk 1 (P := 25) (ls' := [(0, .ref 0), (1, .int b), (2, .int c)]) (st' := [.int b, .ref 8]) (M' := v_mk s) rfl ?_
      obtain ⟨r3, s3, e3, h⟩ := v_bd h
      refine v_cV (ν := s_e46.1) (w := 369) (a := 8) (as' := [.int b]) (r := []) (o := some (.int r3)) (by omega) rfl rfl rfl (v_mk_kd (k := 3) (rfl : v_kd 8 = 3) (by decide)) rfl (t_Ct_isThere e3 (by omega)) ?_
      show s_Ek (s_rows 3 L xs) D s_e142.1 28 [(0, .ref 0), (1, .int b), (2, .int c)] [.int r3] (v_mk s3) _
      rcases v_if h with ⟨c4, h⟩ | ⟨c4, h⟩
      · refine v_i1t (T := 35) rfl rfl c4 ?_
        refine s_ek_bk 1 (P := 36) (ls' := [(0, .ref 0), (1, .int b), (2, .int c)]) (st' := [.int 0]) (M' := v_mk s3) rfl ?_
        obtain ⟨rfl, rfl⟩ := v_so h
        exact v_ret (fun _ => rfl)
      · refine v_i1f (T := 35) rfl rfl c4 ?_
        refine s_ek_bk 2 (P := 36) (ls' := [(0, .ref 0), (1, .int b), (2, .int c)]) (st' := [.int 1]) (M' := v_mk s3) rfl ?_
        obtain ⟨rfl, rfl⟩ := v_so h
        exact v_ret (fun _ => rfl)
    · refine v_i2t (T := 37) rfl rfl c2 ?_
      refine s_ek_bk 1 (P := 38) (ls' := [(0, .ref 0), (1, .int b), (2, .int c)]) (st' := [.ref 0]) (M' := v_mk s) rfl ?_
      refine v_gf rfl (v_gr (rfl : v_kd 0 = 10) (rfl : v_sl 0 4 = .ref 8) ⟨rfl, rfl, by decide⟩) ?_
      obtain ⟨r5, s5, e5, h⟩ := v_bd h
      refine v_cV (ν := s_e48.1) (w := 384) (a := 8) (as' := []) (r := []) (o := none) (by omega) rfl rfl rfl (v_mk_kd (k := 3) (rfl : v_kd 8 = 3) (by decide)) rfl (t_Ct_hear e5 (by omega)) ?_
      show s_Ek (s_rows 3 L xs) D s_e142.1 44 [(0, .ref 0), (1, .int b), (2, .int c)] [] (v_mk s5) _
      refine s_ek_bk 2 (P := 46) (ls' := [(0, .ref 0), (1, .int b), (2, .int c)]) (st' := [.int 4, .int c]) (M' := v_mk s5) rfl ?_
      rcases v_if h with ⟨c6, h⟩ | ⟨c6, h⟩
      · refine v_i2f (T := 66) rfl rfl (fun q => q c6) ?_
        refine s_ek_bk 1 (P := 50) (ls' := [(0, .ref 0), (1, .int b), (2, .int c)]) (st' := [.ref 0]) (M' := v_mk s5) rfl ?_
        refine v_gf rfl (v_gr (rfl : v_kd 0 = 10) (rfl : v_sl 0 4 = .ref 8) ⟨rfl, rfl, by decide⟩) ?_
        refine s_ek_bk 1 (P := 54) (ls' := [(0, .ref 0), (1, .int b), (2, .int c)]) (st' := [.int b, .ref 8]) (M' := v_mk s5) rfl ?_
        obtain ⟨r7, s7, e7, h⟩ := v_bd h
        refine v_cV (ν := s_e51.1) (w := 409) (a := 8) (as' := [.int b]) (r := []) (o := some (.int r7)) (by omega) rfl rfl rfl (v_mk_kd (k := 3) (rfl : v_kd 8 = 3) (by decide)) rfl (t_Ct_isStanding e7 (by omega)) ?_
        show s_Ek (s_rows 3 L xs) D s_e142.1 57 [(0, .ref 0), (1, .int b), (2, .int c)] [.int r7] (v_mk s7) _
        rcases v_if h with ⟨c8, h⟩ | ⟨c8, h⟩
        · refine v_i1t (T := 64) rfl rfl c8 ?_
          refine s_ek_bk 1 (P := 65) (ls' := [(0, .ref 0), (1, .int b), (2, .int c)]) (st' := [.int 0]) (M' := v_mk s7) rfl ?_
          obtain ⟨rfl, rfl⟩ := v_so h
          exact v_ret (fun _ => rfl)
        · refine v_i1f (T := 64) rfl rfl c8 ?_
          refine s_ek_bk 2 (P := 65) (ls' := [(0, .ref 0), (1, .int b), (2, .int c)]) (st' := [.int 1]) (M' := v_mk s7) rfl ?_
          obtain ⟨rfl, rfl⟩ := v_so h
          exact v_ret (fun _ => rfl)
      · refine v_i2t (T := 66) rfl rfl c6 ?_
        refine s_ek_bk 1 (P := 67) (ls' := [(0, .ref 0), (1, .int b), (2, .int c)]) (st' := [.ref 0]) (M' := v_mk s5) rfl ?_
        refine v_gf rfl (v_gr (rfl : v_kd 0 = 10) (rfl : v_sl 0 4 = .ref 8) ⟨rfl, rfl, by decide⟩) ?_
        refine s_ek_bk 1 (P := 71) (ls' := [(0, .ref 0), (1, .int b), (2, .int c)]) (st' := [.int b, .ref 8]) (M' := v_mk s5) rfl ?_
        obtain ⟨r9, s9, e9, h⟩ := v_bd h
        refine v_cV (ν := s_e41.1) (w := 329) (a := 8) (as' := [.int b]) (r := []) (o := some (.ref r9)) (by omega) rfl rfl rfl (v_mk_kd (k := 3) (rfl : v_kd 8 = 3) (by decide)) rfl (t_Ct_at e9 (by omega)) ?_
        obtain ⟨c10, h⟩ := v_ck h
        show s_Ek (s_rows 3 L xs) D s_e142.1 74 [(0, .ref 0), (1, .int b), (2, .int c)] [.ref r9] (v_mk s9) _
        refine v_gf rfl (v_gr c10 (v_rK v_r4_5 (by decide) c10).1 ⟨rfl, rfl, by decide⟩) ?_
        obtain ⟨r11, s11, e11, h⟩ := v_bd h
        refine v_cV (ν := s_e10.1) (w := 80) (a := (r9 + 4)) (as' := []) (r := []) (o := some (.int r11)) (by omega) rfl rfl rfl (v_mk_kd (k := 0) (v_rK v_r4_5 (by decide) c10).2.1 (by decide)) rfl (t_Cs_size (v_rK v_r4_5 (by decide) c10).2.1 e11 (by omega)) ?_
        show s_Ek (s_rows 3 L xs) D s_e142.1 80 [(0, .ref 0), (1, .int b), (2, .int c)] [.int r11] (v_mk s11) _
        obtain ⟨rfl, rfl⟩ := v_so h
        exact v_ret (fun _ => rfl)
  · refine v_i2f (T := 15) rfl rfl c1 ?_
    refine s_ek_bk 1 (P := 6) (ls' := [(0, .ref 0), (1, .int b), (2, .int c)]) (st' := [.ref 0]) (M' := v_mk s) rfl ?_
    refine v_gf rfl (v_gr (rfl : v_kd 0 = 10) (rfl : v_sl 0 4 = .ref 8) ⟨rfl, rfl, by decide⟩) ?_
    refine s_ek_bk 2 (P := 11) (ls' := [(0, .ref 0), (1, .int b), (2, .int c)]) (st' := [.int c, .int b, .ref 8]) (M' := v_mk s) rfl ?_
    obtain ⟨r12, s12, e12, h⟩ := v_bd h
    refine v_cV (ν := s_e44.1) (w := 354) (a := 8) (as' := [.int b, .int c]) (r := []) (o := some (.int r12)) (by omega) rfl rfl rfl (v_mk_kd (k := 3) (rfl : v_kd 8 = 3) (by decide)) rfl (t_Ct_valueOf e12 (by omega)) ?_
    show s_Ek (s_rows 3 L xs) D s_e142.1 14 [(0, .ref 0), (1, .int b), (2, .int c)] [.int r12] (v_mk s12) _
    obtain ⟨rfl, rfl⟩ := v_so h
    exact v_ret (fun _ => rfl)
noncomputable def f_Ol_of (b : Int32) (c : Int32) (s : vS) : Option (Int32 × vS) := (if c.toInt < 0 then (if c.toInt = 10 then (v_bi (f_Ol_isWord b s) (fun r3 s3 => (if r3.toInt = 0 then (if c.toInt = 20 then (if b.toInt = 0 then (some ((s3.1 8 2), s3)) else (if c.toInt = 21 then (if b.toInt = 0 then (some ((s3.1 8 3), s3)) else (some ((-2000000000), s3))) else (some ((-2000000000), s3)))) else (if c.toInt = 21 then (if b.toInt = 0 then (some ((s3.1 8 3), s3)) else (some ((-2000000000), s3))) else (some ((-2000000000), s3)))) else (v_bi (f_Ws_meaning b (s3.1 8 3) s3) (fun r11 s11 => (some (r11, s11))))))) else (if c.toInt = 20 then (if b.toInt = 0 then (some ((s.1 8 2), s)) else (if c.toInt = 21 then (if b.toInt = 0 then (some ((s.1 8 3), s)) else (some ((-2000000000), s))) else (some ((-2000000000), s)))) else (if c.toInt = 21 then (if b.toInt = 0 then (some ((s.1 8 3), s)) else (some ((-2000000000), s))) else (some ((-2000000000), s))))) else (if 5 < c.toInt then (if c.toInt = 10 then (v_bi (f_Ol_isWord b s) (fun r20 s20 => (if r20.toInt = 0 then (if c.toInt = 20 then (if b.toInt = 0 then (some ((s20.1 8 2), s20)) else (if c.toInt = 21 then (if b.toInt = 0 then (some ((s20.1 8 3), s20)) else (some ((-2000000000), s20))) else (some ((-2000000000), s20)))) else (if c.toInt = 21 then (if b.toInt = 0 then (some ((s20.1 8 3), s20)) else (some ((-2000000000), s20))) else (some ((-2000000000), s20)))) else (v_bi (f_Ws_meaning b (s20.1 8 3) s20) (fun r28 s28 => (some (r28, s28))))))) else (if c.toInt = 20 then (if b.toInt = 0 then (some ((s.1 8 2), s)) else (if c.toInt = 21 then (if b.toInt = 0 then (some ((s.1 8 3), s)) else (some ((-2000000000), s))) else (some ((-2000000000), s)))) else (if c.toInt = 21 then (if b.toInt = 0 then (some ((s.1 8 3), s)) else (some ((-2000000000), s))) else (some ((-2000000000), s))))) else (v_bi (f_Ct_knows b s) (fun r35 s35 => (if r35.toInt = 0 then (some ((-2000000000), s35)) else (v_bi (f_Ol_ofLaw b c s35) (fun r37 s37 => (some (r37, s37)))))))))
set_option maxRecDepth 20000 in
set_option maxHeartbeats 4000000 in
theorem t_Ol_of {L : Nat} {xs : Nat → Int32} {b : Int32} {c : Int32} {D : Nat} {r : Int32} {s s' : vS} (h : f_Ol_of b c s = some (r, s')) (hD : 7 ≤ D) : s_Ek (s_rows 3 L xs) D s_e141.1 0 (lv_args 0 [.ref 0, .int b, .int c]) [] (v_mk s) (v_Q (some (.int r)) s') := by
  unfold f_Ol_of at h
  show s_Ek (s_rows 3 L xs) D s_e141.1 0 [(0, .ref 0), (1, .int b), (2, .int c)] [] (v_mk s) _
  refine s_ek_bk 1 (P := 1) (ls' := [(0, .ref 0), (1, .int b), (2, .int c)]) (st' := [.int c]) (M' := v_mk s) rfl ?_
  rcases v_if h with ⟨c1, h⟩ | ⟨c1, h⟩
  · refine v_i1t (T := 32) rfl rfl c1 ?_
    refine s_ek_bk 2 (P := 35) (ls' := [(0, .ref 0), (1, .int b), (2, .int c)]) (st' := [.int 10, .int c]) (M' := v_mk s) rfl ?_
    rcases v_if h with ⟨c2, h⟩ | ⟨c2, h⟩
    · refine v_i2f (T := 64) rfl rfl (fun q => q c2) ?_
      refine s_ek_bk 1 (P := 39) (ls' := [(0, .ref 0), (1, .int b), (2, .int c)]) (st' := [.int b]) (M' := v_mk s) rfl ?_
      obtain ⟨r3, s3, e3, h⟩ := v_bd h
      refine v_cS (ν := s_e172.1) (w := 1377) (as := [.int b]) (r := []) (o := some (.int r3)) (by omega) rfl rfl rfl rfl (t_Ol_isWord e3 (by omega)) ?_
      show s_Ek (s_rows 3 L xs) D s_e141.1 42 [(0, .ref 0), (1, .int b), (2, .int c)] [.int r3] (v_mk s3) _
      rcases v_if h with ⟨c4, h⟩ | ⟨c4, h⟩
      · refine v_i1t (T := 64) rfl rfl c4 ?_
        refine s_ek_bk 2 (P := 67) (ls' := [(0, .ref 0), (1, .int b), (2, .int c)]) (st' := [.int 20, .int c]) (M' := v_mk s3) rfl ?_
        rcases v_if h with ⟨c5, h⟩ | ⟨c5, h⟩
        · refine v_i2f (T := 82) rfl rfl (fun q => q c5) ?_
          refine s_ek_bk 1 (P := 71) (ls' := [(0, .ref 0), (1, .int b), (2, .int c)]) (st' := [.int b]) (M' := v_mk s3) rfl ?_
          rcases v_if h with ⟨c6, h⟩ | ⟨c6, h⟩
          · refine v_i1f (T := 82) rfl rfl (fun q => q c6) ?_
            refine s_ek_bk 1 (P := 75) (ls' := [(0, .ref 0), (1, .int b), (2, .int c)]) (st' := [.ref 0]) (M' := v_mk s3) rfl ?_
            refine v_gf rfl (v_gr (rfl : v_kd 0 = 10) (rfl : v_sl 0 4 = .ref 8) ⟨rfl, rfl, by decide⟩) ?_
            refine v_gf rfl (v_gi (rfl : v_kd 8 = 3) rfl ⟨rfl, rfl, by decide⟩) ?_
            obtain ⟨rfl, rfl⟩ := v_so h
            exact v_ret (fun _ => rfl)
          · refine v_i1t (T := 82) rfl rfl c6 ?_
            refine s_ek_bk 2 (P := 85) (ls' := [(0, .ref 0), (1, .int b), (2, .int c)]) (st' := [.int 21, .int c]) (M' := v_mk s3) rfl ?_
            rcases v_if h with ⟨c7, h⟩ | ⟨c7, h⟩
            · refine v_i2f (T := 102) rfl rfl (fun q => q c7) ?_
              refine s_ek_bk 1 (P := 89) (ls' := [(0, .ref 0), (1, .int b), (2, .int c)]) (st' := [.int b]) (M' := v_mk s3) rfl ?_
              rcases v_if h with ⟨c8, h⟩ | ⟨c8, h⟩
              · refine v_i1f (T := 102) rfl rfl (fun q => q c8) ?_
                refine s_ek_bk 1 (P := 93) (ls' := [(0, .ref 0), (1, .int b), (2, .int c)]) (st' := [.ref 0]) (M' := v_mk s3) rfl ?_
                refine v_gf rfl (v_gr (rfl : v_kd 0 = 10) (rfl : v_sl 0 4 = .ref 8) ⟨rfl, rfl, by decide⟩) ?_
                refine v_gf rfl (v_gi (rfl : v_kd 8 = 3) rfl ⟨rfl, rfl, by decide⟩) ?_
                refine s_ek_bk 1 (P := 104) (ls' := [(0, .ref 0), (1, .int b), (2, .int c)]) (st' := [.int (s3.1 8 3)]) (M' := v_mk s3) rfl ?_
                obtain ⟨rfl, rfl⟩ := v_so h
                exact v_ret (fun _ => rfl)
              · refine v_i1t (T := 102) rfl rfl c8 ?_
                refine s_ek_bk 1 (P := 104) (ls' := [(0, .ref 0), (1, .int b), (2, .int c)]) (st' := [.int (-2000000000)]) (M' := v_mk s3) rfl ?_
                obtain ⟨rfl, rfl⟩ := v_so h
                exact v_ret (fun _ => rfl)
            · refine v_i2t (T := 102) rfl rfl c7 ?_
              refine s_ek_bk 1 (P := 104) (ls' := [(0, .ref 0), (1, .int b), (2, .int c)]) (st' := [.int (-2000000000)]) (M' := v_mk s3) rfl ?_
              obtain ⟨rfl, rfl⟩ := v_so h
              exact v_ret (fun _ => rfl)
        · refine v_i2t (T := 82) rfl rfl c5 ?_
          refine s_ek_bk 2 (P := 85) (ls' := [(0, .ref 0), (1, .int b), (2, .int c)]) (st' := [.int 21, .int c]) (M' := v_mk s3) rfl ?_
          rcases v_if h with ⟨c9, h⟩ | ⟨c9, h⟩
          · refine v_i2f (T := 102) rfl rfl (fun q => q c9) ?_
            refine s_ek_bk 1 (P := 89) (ls' := [(0, .ref 0), (1, .int b), (2, .int c)]) (st' := [.int b]) (M' := v_mk s3) rfl ?_
            rcases v_if h with ⟨c10, h⟩ | ⟨c10, h⟩
            · refine v_i1f (T := 102) rfl rfl (fun q => q c10) ?_
              refine s_ek_bk 1 (P := 93) (ls' := [(0, .ref 0), (1, .int b), (2, .int c)]) (st' := [.ref 0]) (M' := v_mk s3) rfl ?_
              refine v_gf rfl (v_gr (rfl : v_kd 0 = 10) (rfl : v_sl 0 4 = .ref 8) ⟨rfl, rfl, by decide⟩) ?_
              refine v_gf rfl (v_gi (rfl : v_kd 8 = 3) rfl ⟨rfl, rfl, by decide⟩) ?_
              refine s_ek_bk 1 (P := 104) (ls' := [(0, .ref 0), (1, .int b), (2, .int c)]) (st' := [.int (s3.1 8 3)]) (M' := v_mk s3) rfl ?_
              obtain ⟨rfl, rfl⟩ := v_so h
              exact v_ret (fun _ => rfl)
            · refine v_i1t (T := 102) rfl rfl c10 ?_
              refine s_ek_bk 1 (P := 104) (ls' := [(0, .ref 0), (1, .int b), (2, .int c)]) (st' := [.int (-2000000000)]) (M' := v_mk s3) rfl ?_
              obtain ⟨rfl, rfl⟩ := v_so h
              exact v_ret (fun _ => rfl)
          · refine v_i2t (T := 102) rfl rfl c9 ?_
            refine s_ek_bk 1 (P := 104) (ls' := [(0, .ref 0), (1, .int b), (2, .int c)]) (st' := [.int (-2000000000)]) (M' := v_mk s3) rfl ?_
            obtain ⟨rfl, rfl⟩ := v_so h
            exact v_ret (fun _ => rfl)
      · refine v_i1f (T := 64) rfl rfl c4 ?_
        refine s_ek_bk 1 (P := 46) (ls' := [(0, .ref 0), (1, .int b), (2, .int c)]) (st' := [.ref 0]) (M' := v_mk s3) rfl ?_
        refine v_gf rfl (v_gr (rfl : v_kd 0 = 10) (rfl : v_sl 0 4 = .ref 8) ⟨rfl, rfl, by decide⟩) ?_
        refine v_gf rfl (v_gr (rfl : v_kd 8 = 3) (rfl : v_sl 8 0 = .ref 9) ⟨rfl, rfl, by decide⟩) ?_
        refine s_ek_bk 2 (P := 54) (ls' := [(0, .ref 0), (1, .int b), (2, .int c)]) (st' := [.ref 0, .int b, .ref 9]) (M' := v_mk s3) rfl ?_
        refine v_gf rfl (v_gr (rfl : v_kd 0 = 10) (rfl : v_sl 0 4 = .ref 8) ⟨rfl, rfl, by decide⟩) ?_
        refine v_gf rfl (v_gi (rfl : v_kd 8 = 3) rfl ⟨rfl, rfl, by decide⟩) ?_
        obtain ⟨r11, s11, e11, h⟩ := v_bd h
        refine v_cV (ν := s_e130.1) (w := 1042) (a := 9) (as' := [.int b, .int (s3.1 8 3)]) (r := []) (o := some (.int r11)) (by omega) rfl rfl rfl (v_mk_kd (k := 9) (rfl : v_kd 9 = 9) (by decide)) rfl (t_Ws_meaning e11 (by omega)) ?_
        show s_Ek (s_rows 3 L xs) D s_e141.1 63 [(0, .ref 0), (1, .int b), (2, .int c)] [.int r11] (v_mk s11) _
        obtain ⟨rfl, rfl⟩ := v_so h
        exact v_ret (fun _ => rfl)
    · refine v_i2t (T := 64) rfl rfl c2 ?_
      refine s_ek_bk 2 (P := 67) (ls' := [(0, .ref 0), (1, .int b), (2, .int c)]) (st' := [.int 20, .int c]) (M' := v_mk s) rfl ?_
      rcases v_if h with ⟨c12, h⟩ | ⟨c12, h⟩
      · refine v_i2f (T := 82) rfl rfl (fun q => q c12) ?_
        refine s_ek_bk 1 (P := 71) (ls' := [(0, .ref 0), (1, .int b), (2, .int c)]) (st' := [.int b]) (M' := v_mk s) rfl ?_
        rcases v_if h with ⟨c13, h⟩ | ⟨c13, h⟩
        · refine v_i1f (T := 82) rfl rfl (fun q => q c13) ?_
          refine s_ek_bk 1 (P := 75) (ls' := [(0, .ref 0), (1, .int b), (2, .int c)]) (st' := [.ref 0]) (M' := v_mk s) rfl ?_
          refine v_gf rfl (v_gr (rfl : v_kd 0 = 10) (rfl : v_sl 0 4 = .ref 8) ⟨rfl, rfl, by decide⟩) ?_
          refine v_gf rfl (v_gi (rfl : v_kd 8 = 3) rfl ⟨rfl, rfl, by decide⟩) ?_
          obtain ⟨rfl, rfl⟩ := v_so h
          exact v_ret (fun _ => rfl)
        · refine v_i1t (T := 82) rfl rfl c13 ?_
          refine s_ek_bk 2 (P := 85) (ls' := [(0, .ref 0), (1, .int b), (2, .int c)]) (st' := [.int 21, .int c]) (M' := v_mk s) rfl ?_
          rcases v_if h with ⟨c14, h⟩ | ⟨c14, h⟩
          · refine v_i2f (T := 102) rfl rfl (fun q => q c14) ?_
            refine s_ek_bk 1 (P := 89) (ls' := [(0, .ref 0), (1, .int b), (2, .int c)]) (st' := [.int b]) (M' := v_mk s) rfl ?_
            rcases v_if h with ⟨c15, h⟩ | ⟨c15, h⟩
            · refine v_i1f (T := 102) rfl rfl (fun q => q c15) ?_
              refine s_ek_bk 1 (P := 93) (ls' := [(0, .ref 0), (1, .int b), (2, .int c)]) (st' := [.ref 0]) (M' := v_mk s) rfl ?_
              refine v_gf rfl (v_gr (rfl : v_kd 0 = 10) (rfl : v_sl 0 4 = .ref 8) ⟨rfl, rfl, by decide⟩) ?_
              refine v_gf rfl (v_gi (rfl : v_kd 8 = 3) rfl ⟨rfl, rfl, by decide⟩) ?_
              refine s_ek_bk 1 (P := 104) (ls' := [(0, .ref 0), (1, .int b), (2, .int c)]) (st' := [.int (s.1 8 3)]) (M' := v_mk s) rfl ?_
              obtain ⟨rfl, rfl⟩ := v_so h
              exact v_ret (fun _ => rfl)
            · refine v_i1t (T := 102) rfl rfl c15 ?_
              refine s_ek_bk 1 (P := 104) (ls' := [(0, .ref 0), (1, .int b), (2, .int c)]) (st' := [.int (-2000000000)]) (M' := v_mk s) rfl ?_
              obtain ⟨rfl, rfl⟩ := v_so h
              exact v_ret (fun _ => rfl)
          · refine v_i2t (T := 102) rfl rfl c14 ?_
            refine s_ek_bk 1 (P := 104) (ls' := [(0, .ref 0), (1, .int b), (2, .int c)]) (st' := [.int (-2000000000)]) (M' := v_mk s) rfl ?_
            obtain ⟨rfl, rfl⟩ := v_so h
            exact v_ret (fun _ => rfl)
      · refine v_i2t (T := 82) rfl rfl c12 ?_
        refine s_ek_bk 2 (P := 85) (ls' := [(0, .ref 0), (1, .int b), (2, .int c)]) (st' := [.int 21, .int c]) (M' := v_mk s) rfl ?_
        rcases v_if h with ⟨c16, h⟩ | ⟨c16, h⟩
        · refine v_i2f (T := 102) rfl rfl (fun q => q c16) ?_
          refine s_ek_bk 1 (P := 89) (ls' := [(0, .ref 0), (1, .int b), (2, .int c)]) (st' := [.int b]) (M' := v_mk s) rfl ?_
          rcases v_if h with ⟨c17, h⟩ | ⟨c17, h⟩
          · refine v_i1f (T := 102) rfl rfl (fun q => q c17) ?_
            refine s_ek_bk 1 (P := 93) (ls' := [(0, .ref 0), (1, .int b), (2, .int c)]) (st' := [.ref 0]) (M' := v_mk s) rfl ?_
            refine v_gf rfl (v_gr (rfl : v_kd 0 = 10) (rfl : v_sl 0 4 = .ref 8) ⟨rfl, rfl, by decide⟩) ?_
            refine v_gf rfl (v_gi (rfl : v_kd 8 = 3) rfl ⟨rfl, rfl, by decide⟩) ?_
            refine s_ek_bk 1 (P := 104) (ls' := [(0, .ref 0), (1, .int b), (2, .int c)]) (st' := [.int (s.1 8 3)]) (M' := v_mk s) rfl ?_
            obtain ⟨rfl, rfl⟩ := v_so h
            exact v_ret (fun _ => rfl)
          · refine v_i1t (T := 102) rfl rfl c17 ?_
            refine s_ek_bk 1 (P := 104) (ls' := [(0, .ref 0), (1, .int b), (2, .int c)]) (st' := [.int (-2000000000)]) (M' := v_mk s) rfl ?_
            obtain ⟨rfl, rfl⟩ := v_so h
            exact v_ret (fun _ => rfl)
        · refine v_i2t (T := 102) rfl rfl c16 ?_
          refine s_ek_bk 1 (P := 104) (ls' := [(0, .ref 0), (1, .int b), (2, .int c)]) (st' := [.int (-2000000000)]) (M' := v_mk s) rfl ?_
          obtain ⟨rfl, rfl⟩ := v_so h
          exact v_ret (fun _ => rfl)
  · refine v_i1f (T := 32) rfl rfl c1 ?_
    refine s_ek_bk 2 (P := 6) (ls' := [(0, .ref 0), (1, .int b), (2, .int c)]) (st' := [.int 5, .int c]) (M' := v_mk s) rfl ?_
    rcases v_if h with ⟨c18, h⟩ | ⟨c18, h⟩
    · refine v_i2t (T := 32) rfl rfl c18 ?_
      refine s_ek_bk 2 (P := 35) (ls' := [(0, .ref 0), (1, .int b), (2, .int c)]) (st' := [.int 10, .int c]) (M' := v_mk s) rfl ?_
      rcases v_if h with ⟨c19, h⟩ | ⟨c19, h⟩
      · refine v_i2f (T := 64) rfl rfl (fun q => q c19) ?_
        refine s_ek_bk 1 (P := 39) (ls' := [(0, .ref 0), (1, .int b), (2, .int c)]) (st' := [.int b]) (M' := v_mk s) rfl ?_
        obtain ⟨r20, s20, e20, h⟩ := v_bd h
        refine v_cS (ν := s_e172.1) (w := 1377) (as := [.int b]) (r := []) (o := some (.int r20)) (by omega) rfl rfl rfl rfl (t_Ol_isWord e20 (by omega)) ?_
        show s_Ek (s_rows 3 L xs) D s_e141.1 42 [(0, .ref 0), (1, .int b), (2, .int c)] [.int r20] (v_mk s20) _
        rcases v_if h with ⟨c21, h⟩ | ⟨c21, h⟩
        · refine v_i1t (T := 64) rfl rfl c21 ?_
          refine s_ek_bk 2 (P := 67) (ls' := [(0, .ref 0), (1, .int b), (2, .int c)]) (st' := [.int 20, .int c]) (M' := v_mk s20) rfl ?_
          rcases v_if h with ⟨c22, h⟩ | ⟨c22, h⟩
          · refine v_i2f (T := 82) rfl rfl (fun q => q c22) ?_
            refine s_ek_bk 1 (P := 71) (ls' := [(0, .ref 0), (1, .int b), (2, .int c)]) (st' := [.int b]) (M' := v_mk s20) rfl ?_
            rcases v_if h with ⟨c23, h⟩ | ⟨c23, h⟩
            · refine v_i1f (T := 82) rfl rfl (fun q => q c23) ?_
              refine s_ek_bk 1 (P := 75) (ls' := [(0, .ref 0), (1, .int b), (2, .int c)]) (st' := [.ref 0]) (M' := v_mk s20) rfl ?_
              refine v_gf rfl (v_gr (rfl : v_kd 0 = 10) (rfl : v_sl 0 4 = .ref 8) ⟨rfl, rfl, by decide⟩) ?_
              refine v_gf rfl (v_gi (rfl : v_kd 8 = 3) rfl ⟨rfl, rfl, by decide⟩) ?_
              obtain ⟨rfl, rfl⟩ := v_so h
              exact v_ret (fun _ => rfl)
            · refine v_i1t (T := 82) rfl rfl c23 ?_
              refine s_ek_bk 2 (P := 85) (ls' := [(0, .ref 0), (1, .int b), (2, .int c)]) (st' := [.int 21, .int c]) (M' := v_mk s20) rfl ?_
              rcases v_if h with ⟨c24, h⟩ | ⟨c24, h⟩
              · refine v_i2f (T := 102) rfl rfl (fun q => q c24) ?_
                refine s_ek_bk 1 (P := 89) (ls' := [(0, .ref 0), (1, .int b), (2, .int c)]) (st' := [.int b]) (M' := v_mk s20) rfl ?_
                rcases v_if h with ⟨c25, h⟩ | ⟨c25, h⟩
                · refine v_i1f (T := 102) rfl rfl (fun q => q c25) ?_
                  refine s_ek_bk 1 (P := 93) (ls' := [(0, .ref 0), (1, .int b), (2, .int c)]) (st' := [.ref 0]) (M' := v_mk s20) rfl ?_
                  refine v_gf rfl (v_gr (rfl : v_kd 0 = 10) (rfl : v_sl 0 4 = .ref 8) ⟨rfl, rfl, by decide⟩) ?_
                  refine v_gf rfl (v_gi (rfl : v_kd 8 = 3) rfl ⟨rfl, rfl, by decide⟩) ?_
                  refine s_ek_bk 1 (P := 104) (ls' := [(0, .ref 0), (1, .int b), (2, .int c)]) (st' := [.int (s20.1 8 3)]) (M' := v_mk s20) rfl ?_
                  obtain ⟨rfl, rfl⟩ := v_so h
                  exact v_ret (fun _ => rfl)
                · refine v_i1t (T := 102) rfl rfl c25 ?_
                  refine s_ek_bk 1 (P := 104) (ls' := [(0, .ref 0), (1, .int b), (2, .int c)]) (st' := [.int (-2000000000)]) (M' := v_mk s20) rfl ?_
                  obtain ⟨rfl, rfl⟩ := v_so h
                  exact v_ret (fun _ => rfl)
              · refine v_i2t (T := 102) rfl rfl c24 ?_
                refine s_ek_bk 1 (P := 104) (ls' := [(0, .ref 0), (1, .int b), (2, .int c)]) (st' := [.int (-2000000000)]) (M' := v_mk s20) rfl ?_
                obtain ⟨rfl, rfl⟩ := v_so h
                exact v_ret (fun _ => rfl)
          · refine v_i2t (T := 82) rfl rfl c22 ?_
            refine s_ek_bk 2 (P := 85) (ls' := [(0, .ref 0), (1, .int b), (2, .int c)]) (st' := [.int 21, .int c]) (M' := v_mk s20) rfl ?_
            rcases v_if h with ⟨c26, h⟩ | ⟨c26, h⟩
            · refine v_i2f (T := 102) rfl rfl (fun q => q c26) ?_
              refine s_ek_bk 1 (P := 89) (ls' := [(0, .ref 0), (1, .int b), (2, .int c)]) (st' := [.int b]) (M' := v_mk s20) rfl ?_
              rcases v_if h with ⟨c27, h⟩ | ⟨c27, h⟩
              · refine v_i1f (T := 102) rfl rfl (fun q => q c27) ?_
                refine s_ek_bk 1 (P := 93) (ls' := [(0, .ref 0), (1, .int b), (2, .int c)]) (st' := [.ref 0]) (M' := v_mk s20) rfl ?_
                refine v_gf rfl (v_gr (rfl : v_kd 0 = 10) (rfl : v_sl 0 4 = .ref 8) ⟨rfl, rfl, by decide⟩) ?_
                refine v_gf rfl (v_gi (rfl : v_kd 8 = 3) rfl ⟨rfl, rfl, by decide⟩) ?_
                refine s_ek_bk 1 (P := 104) (ls' := [(0, .ref 0), (1, .int b), (2, .int c)]) (st' := [.int (s20.1 8 3)]) (M' := v_mk s20) rfl ?_
                obtain ⟨rfl, rfl⟩ := v_so h
                exact v_ret (fun _ => rfl)
              · refine v_i1t (T := 102) rfl rfl c27 ?_
                refine s_ek_bk 1 (P := 104) (ls' := [(0, .ref 0), (1, .int b), (2, .int c)]) (st' := [.int (-2000000000)]) (M' := v_mk s20) rfl ?_
                obtain ⟨rfl, rfl⟩ := v_so h
                exact v_ret (fun _ => rfl)
            · refine v_i2t (T := 102) rfl rfl c26 ?_
              refine s_ek_bk 1 (P := 104) (ls' := [(0, .ref 0), (1, .int b), (2, .int c)]) (st' := [.int (-2000000000)]) (M' := v_mk s20) rfl ?_
              obtain ⟨rfl, rfl⟩ := v_so h
              exact v_ret (fun _ => rfl)
        · refine v_i1f (T := 64) rfl rfl c21 ?_
          refine s_ek_bk 1 (P := 46) (ls' := [(0, .ref 0), (1, .int b), (2, .int c)]) (st' := [.ref 0]) (M' := v_mk s20) rfl ?_
          refine v_gf rfl (v_gr (rfl : v_kd 0 = 10) (rfl : v_sl 0 4 = .ref 8) ⟨rfl, rfl, by decide⟩) ?_
          refine v_gf rfl (v_gr (rfl : v_kd 8 = 3) (rfl : v_sl 8 0 = .ref 9) ⟨rfl, rfl, by decide⟩) ?_
          refine s_ek_bk 2 (P := 54) (ls' := [(0, .ref 0), (1, .int b), (2, .int c)]) (st' := [.ref 0, .int b, .ref 9]) (M' := v_mk s20) rfl ?_
          refine v_gf rfl (v_gr (rfl : v_kd 0 = 10) (rfl : v_sl 0 4 = .ref 8) ⟨rfl, rfl, by decide⟩) ?_
          refine v_gf rfl (v_gi (rfl : v_kd 8 = 3) rfl ⟨rfl, rfl, by decide⟩) ?_
          obtain ⟨r28, s28, e28, h⟩ := v_bd h
          refine v_cV (ν := s_e130.1) (w := 1042) (a := 9) (as' := [.int b, .int (s20.1 8 3)]) (r := []) (o := some (.int r28)) (by omega) rfl rfl rfl (v_mk_kd (k := 9) (rfl : v_kd 9 = 9) (by decide)) rfl (t_Ws_meaning e28 (by omega)) ?_
          show s_Ek (s_rows 3 L xs) D s_e141.1 63 [(0, .ref 0), (1, .int b), (2, .int c)] [.int r28] (v_mk s28) _
          obtain ⟨rfl, rfl⟩ := v_so h
          exact v_ret (fun _ => rfl)
      · refine v_i2t (T := 64) rfl rfl c19 ?_
        refine s_ek_bk 2 (P := 67) (ls' := [(0, .ref 0), (1, .int b), (2, .int c)]) (st' := [.int 20, .int c]) (M' := v_mk s) rfl ?_
        rcases v_if h with ⟨c29, h⟩ | ⟨c29, h⟩
        · refine v_i2f (T := 82) rfl rfl (fun q => q c29) ?_
          refine s_ek_bk 1 (P := 71) (ls' := [(0, .ref 0), (1, .int b), (2, .int c)]) (st' := [.int b]) (M' := v_mk s) rfl ?_
          rcases v_if h with ⟨c30, h⟩ | ⟨c30, h⟩
          · refine v_i1f (T := 82) rfl rfl (fun q => q c30) ?_
            refine s_ek_bk 1 (P := 75) (ls' := [(0, .ref 0), (1, .int b), (2, .int c)]) (st' := [.ref 0]) (M' := v_mk s) rfl ?_
            refine v_gf rfl (v_gr (rfl : v_kd 0 = 10) (rfl : v_sl 0 4 = .ref 8) ⟨rfl, rfl, by decide⟩) ?_
            refine v_gf rfl (v_gi (rfl : v_kd 8 = 3) rfl ⟨rfl, rfl, by decide⟩) ?_
            obtain ⟨rfl, rfl⟩ := v_so h
            exact v_ret (fun _ => rfl)
          · refine v_i1t (T := 82) rfl rfl c30 ?_
            refine s_ek_bk 2 (P := 85) (ls' := [(0, .ref 0), (1, .int b), (2, .int c)]) (st' := [.int 21, .int c]) (M' := v_mk s) rfl ?_
            rcases v_if h with ⟨c31, h⟩ | ⟨c31, h⟩
            · refine v_i2f (T := 102) rfl rfl (fun q => q c31) ?_
              refine s_ek_bk 1 (P := 89) (ls' := [(0, .ref 0), (1, .int b), (2, .int c)]) (st' := [.int b]) (M' := v_mk s) rfl ?_
              rcases v_if h with ⟨c32, h⟩ | ⟨c32, h⟩
              · refine v_i1f (T := 102) rfl rfl (fun q => q c32) ?_
                refine s_ek_bk 1 (P := 93) (ls' := [(0, .ref 0), (1, .int b), (2, .int c)]) (st' := [.ref 0]) (M' := v_mk s) rfl ?_
                refine v_gf rfl (v_gr (rfl : v_kd 0 = 10) (rfl : v_sl 0 4 = .ref 8) ⟨rfl, rfl, by decide⟩) ?_
                refine v_gf rfl (v_gi (rfl : v_kd 8 = 3) rfl ⟨rfl, rfl, by decide⟩) ?_
                refine s_ek_bk 1 (P := 104) (ls' := [(0, .ref 0), (1, .int b), (2, .int c)]) (st' := [.int (s.1 8 3)]) (M' := v_mk s) rfl ?_
                obtain ⟨rfl, rfl⟩ := v_so h
                exact v_ret (fun _ => rfl)
              · refine v_i1t (T := 102) rfl rfl c32 ?_
                refine s_ek_bk 1 (P := 104) (ls' := [(0, .ref 0), (1, .int b), (2, .int c)]) (st' := [.int (-2000000000)]) (M' := v_mk s) rfl ?_
                obtain ⟨rfl, rfl⟩ := v_so h
                exact v_ret (fun _ => rfl)
            · refine v_i2t (T := 102) rfl rfl c31 ?_
              refine s_ek_bk 1 (P := 104) (ls' := [(0, .ref 0), (1, .int b), (2, .int c)]) (st' := [.int (-2000000000)]) (M' := v_mk s) rfl ?_
              obtain ⟨rfl, rfl⟩ := v_so h
              exact v_ret (fun _ => rfl)
        · refine v_i2t (T := 82) rfl rfl c29 ?_
          refine s_ek_bk 2 (P := 85) (ls' := [(0, .ref 0), (1, .int b), (2, .int c)]) (st' := [.int 21, .int c]) (M' := v_mk s) rfl ?_
          rcases v_if h with ⟨c33, h⟩ | ⟨c33, h⟩
          · refine v_i2f (T := 102) rfl rfl (fun q => q c33) ?_
            refine s_ek_bk 1 (P := 89) (ls' := [(0, .ref 0), (1, .int b), (2, .int c)]) (st' := [.int b]) (M' := v_mk s) rfl ?_
            rcases v_if h with ⟨c34, h⟩ | ⟨c34, h⟩
            · refine v_i1f (T := 102) rfl rfl (fun q => q c34) ?_
              refine s_ek_bk 1 (P := 93) (ls' := [(0, .ref 0), (1, .int b), (2, .int c)]) (st' := [.ref 0]) (M' := v_mk s) rfl ?_
              refine v_gf rfl (v_gr (rfl : v_kd 0 = 10) (rfl : v_sl 0 4 = .ref 8) ⟨rfl, rfl, by decide⟩) ?_
              refine v_gf rfl (v_gi (rfl : v_kd 8 = 3) rfl ⟨rfl, rfl, by decide⟩) ?_
              refine s_ek_bk 1 (P := 104) (ls' := [(0, .ref 0), (1, .int b), (2, .int c)]) (st' := [.int (s.1 8 3)]) (M' := v_mk s) rfl ?_
              obtain ⟨rfl, rfl⟩ := v_so h
              exact v_ret (fun _ => rfl)
            · refine v_i1t (T := 102) rfl rfl c34 ?_
              refine s_ek_bk 1 (P := 104) (ls' := [(0, .ref 0), (1, .int b), (2, .int c)]) (st' := [.int (-2000000000)]) (M' := v_mk s) rfl ?_
              obtain ⟨rfl, rfl⟩ := v_so h
              exact v_ret (fun _ => rfl)
          · refine v_i2t (T := 102) rfl rfl c33 ?_
            refine s_ek_bk 1 (P := 104) (ls' := [(0, .ref 0), (1, .int b), (2, .int c)]) (st' := [.int (-2000000000)]) (M' := v_mk s) rfl ?_
            obtain ⟨rfl, rfl⟩ := v_so h
            exact v_ret (fun _ => rfl)
    · refine v_i2f (T := 32) rfl rfl c18 ?_
      refine s_ek_bk 1 (P := 10) (ls' := [(0, .ref 0), (1, .int b), (2, .int c)]) (st' := [.ref 0]) (M' := v_mk s) rfl ?_
      refine v_gf rfl (v_gr (rfl : v_kd 0 = 10) (rfl : v_sl 0 4 = .ref 8) ⟨rfl, rfl, by decide⟩) ?_
      refine s_ek_bk 1 (P := 14) (ls' := [(0, .ref 0), (1, .int b), (2, .int c)]) (st' := [.int b, .ref 8]) (M' := v_mk s) rfl ?_
      obtain ⟨r35, s35, e35, h⟩ := v_bd h
      refine v_cV (ν := s_e40.1) (w := 321) (a := 8) (as' := [.int b]) (r := []) (o := some (.int r35)) (by omega) rfl rfl rfl (v_mk_kd (k := 3) (rfl : v_kd 8 = 3) (by decide)) rfl (t_Ct_knows e35 (by omega)) ?_
      show s_Ek (s_rows 3 L xs) D s_e141.1 17 [(0, .ref 0), (1, .int b), (2, .int c)] [.int r35] (v_mk s35) _
      rcases v_if h with ⟨c36, h⟩ | ⟨c36, h⟩
      · refine v_i1t (T := 29) rfl rfl c36 ?_
        refine s_ek_bk 1 (P := 31) (ls' := [(0, .ref 0), (1, .int b), (2, .int c)]) (st' := [.int (-2000000000)]) (M' := v_mk s35) rfl ?_
        obtain ⟨rfl, rfl⟩ := v_so h
        exact v_ret (fun _ => rfl)
      · refine v_i1f (T := 29) rfl rfl c36 ?_
        refine s_ek_bk 3 (P := 23) (ls' := [(0, .ref 0), (1, .int b), (2, .int c)]) (st' := [.int c, .int b, .ref 0]) (M' := v_mk s35) rfl ?_
        obtain ⟨r37, s37, e37, h⟩ := v_bd h
        refine v_cV (ν := s_e142.1) (w := 1138) (a := 0) (as' := [.int b, .int c]) (r := []) (o := some (.int r37)) (by omega) rfl rfl rfl (v_mk_kd (k := 10) (rfl : v_kd 0 = 10) (by decide)) rfl (t_Ol_ofLaw e37 (by omega)) ?_
        show s_Ek (s_rows 3 L xs) D s_e141.1 26 [(0, .ref 0), (1, .int b), (2, .int c)] [.int r37] (v_mk s37) _
        refine s_ek_bk 1 (P := 31) (ls' := [(0, .ref 0), (1, .int b), (2, .int c)]) (st' := [.int r37]) (M' := v_mk s37) rfl ?_
        obtain ⟨rfl, rfl⟩ := v_so h
        exact v_ret (fun _ => rfl)
