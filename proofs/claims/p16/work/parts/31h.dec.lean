/-! functions over the store, and the runs that they stand for: Ol_speaks Ol_verdict Ol_refusalOfTold Ol_judge Ol_never Ol_isEither Ol_clash Ol_refusalOfNew Ol_write Ol_bars Ol_meant In_bitCount Ol_falseOnes Ol_under -/
noncomputable def f_Ol_speaks (b : Int32) (c : Int32) (s : vS) : Option (Int32 × vS) := (v_bi (f_Cs_placeOf c s) (fun r1 s1 => (v_bi (f_Ct_knows b s1) (fun r2 s2 => (if r2.toInt = 0 then (some ((-1), s2)) else (if 0 ≤ r1.toInt then (v_bi (f_Ct_hear s2) (fun _ s5 => (v_bi (f_Ct_at b s5) (fun r6 s6 => if v_kd r6 = 4 then (v_bi (f_Cs_has (r6 + 4) r1 s6) (fun r8 s8 => (if r8.toInt = 0 then (some (0, s8)) else (some (1, s8))))) else none)))) else (some ((-1), s2))))))))
set_option maxRecDepth 20000 in
set_option maxHeartbeats 4000000 in
theorem t_Ol_speaks {L : Nat} {xs : Nat → Int32} {b : Int32} {c : Int32} {D : Nat} {r : Int32} {s s' : vS} (h : f_Ol_speaks b c s = some (r, s')) (hD : 6 ≤ D) : s_Ek (s_rows 3 L xs) D s_e143.1 0 (lv_args 0 [.ref 0, .int b, .int c]) [] (v_mk s) (v_Q (some (.int r)) s') := by
  unfold f_Ol_speaks at h
  show s_Ek (s_rows 3 L xs) D s_e143.1 0 [(0, .ref 0), (1, .int b), (2, .int c)] [] (v_mk s) _
  refine s_ek_bk 1 (P := 1) (ls' := [(0, .ref 0), (1, .int b), (2, .int c)]) (st' := [.int c]) (M' := v_mk s) rfl ?_
  obtain ⟨r1, s1, e1, h⟩ := v_bd h
  refine v_cS (ν := s_e2.1) (w := 17) (as := [.int c]) (r := []) (o := some (.int r1)) (by omega) rfl rfl rfl rfl (t_Cs_placeOf e1 (by omega)) ?_
  show s_Ek (s_rows 3 L xs) D s_e143.1 4 [(0, .ref 0), (1, .int b), (2, .int c)] [.int r1] (v_mk s1) _
  refine s_ek_bk 2 (P := 6) (ls' := [(3, .int r1), (0, .ref 0), (1, .int b), (2, .int c)]) (st' := [.ref 0]) (M' := v_mk s1) rfl ?_
  refine v_gf rfl (v_gr (rfl : v_kd 0 = 10) (rfl : v_sl 0 4 = .ref 8) ⟨rfl, rfl, by decide⟩) ?_
  refine s_ek_bk 1 (P := 10) (ls' := [(3, .int r1), (0, .ref 0), (1, .int b), (2, .int c)]) (st' := [.int b, .ref 8]) (M' := v_mk s1) rfl ?_
  obtain ⟨r2, s2, e2, h⟩ := v_bd h
  refine v_cV (ν := s_e40.1) (w := 321) (a := 8) (as' := [.int b]) (r := []) (o := some (.int r2)) (by omega) rfl rfl rfl (v_mk_kd (k := 3) (rfl : v_kd 8 = 3) (by decide)) rfl (t_Ct_knows e2 (by omega)) ?_
  show s_Ek (s_rows 3 L xs) D s_e143.1 13 [(3, .int r1), (0, .ref 0), (1, .int b), (2, .int c)] [.int r2] (v_mk s2) _
  rcases v_if h with ⟨c3, h⟩ | ⟨c3, h⟩
  · refine v_i1t (T := 20) rfl rfl c3 ?_
    refine s_ek_bk 1 (P := 21) (ls' := [(3, .int r1), (0, .ref 0), (1, .int b), (2, .int c)]) (st' := [.int (-1)]) (M' := v_mk s2) rfl ?_
    obtain ⟨rfl, rfl⟩ := v_so h
    exact v_ret (fun _ => rfl)
  · refine v_i1f (T := 20) rfl rfl c3 ?_
    refine s_ek_bk 1 (P := 17) (ls' := [(3, .int r1), (0, .ref 0), (1, .int b), (2, .int c)]) (st' := [.int r1]) (M' := v_mk s2) rfl ?_
    rcases v_if h with ⟨c4, h⟩ | ⟨c4, h⟩
    · refine v_i1t (T := 22) rfl rfl c4 ?_
      refine s_ek_bk 1 (P := 23) (ls' := [(3, .int r1), (0, .ref 0), (1, .int b), (2, .int c)]) (st' := [.ref 0]) (M' := v_mk s2) rfl ?_
      refine v_gf rfl (v_gr (rfl : v_kd 0 = 10) (rfl : v_sl 0 4 = .ref 8) ⟨rfl, rfl, by decide⟩) ?_
      obtain ⟨r5, s5, e5, h⟩ := v_bd h
      refine v_cV (ν := s_e48.1) (w := 384) (a := 8) (as' := []) (r := []) (o := none) (by omega) rfl rfl rfl (v_mk_kd (k := 3) (rfl : v_kd 8 = 3) (by decide)) rfl (t_Ct_hear e5 (by omega)) ?_
      show s_Ek (s_rows 3 L xs) D s_e143.1 29 [(3, .int r1), (0, .ref 0), (1, .int b), (2, .int c)] [] (v_mk s5) _
      refine s_ek_bk 1 (P := 30) (ls' := [(3, .int r1), (0, .ref 0), (1, .int b), (2, .int c)]) (st' := [.ref 0]) (M' := v_mk s5) rfl ?_
      refine v_gf rfl (v_gr (rfl : v_kd 0 = 10) (rfl : v_sl 0 4 = .ref 8) ⟨rfl, rfl, by decide⟩) ?_
      refine s_ek_bk 1 (P := 34) (ls' := [(3, .int r1), (0, .ref 0), (1, .int b), (2, .int c)]) (st' := [.int b, .ref 8]) (M' := v_mk s5) rfl ?_
      obtain ⟨r6, s6, e6, h⟩ := v_bd h
      refine v_cV (ν := s_e41.1) (w := 329) (a := 8) (as' := [.int b]) (r := []) (o := some (.ref r6)) (by omega) rfl rfl rfl (v_mk_kd (k := 3) (rfl : v_kd 8 = 3) (by decide)) rfl (t_Ct_at e6 (by omega)) ?_
      obtain ⟨c7, h⟩ := v_ck h
      show s_Ek (s_rows 3 L xs) D s_e143.1 37 [(3, .int r1), (0, .ref 0), (1, .int b), (2, .int c)] [.ref r6] (v_mk s6) _
      refine v_gf rfl (v_gr c7 (v_rK v_r4_5 (by decide) c7).1 ⟨rfl, rfl, by decide⟩) ?_
      refine s_ek_bk 1 (P := 41) (ls' := [(3, .int r1), (0, .ref 0), (1, .int b), (2, .int c)]) (st' := [.int r1, .ref (r6 + 4)]) (M' := v_mk s6) rfl ?_
      obtain ⟨r8, s8, e8, h⟩ := v_bd h
      refine v_cV (ν := s_e8.1) (w := 65) (a := (r6 + 4)) (as' := [.int r1]) (r := []) (o := some (.int r8)) (by omega) rfl rfl rfl (v_mk_kd (k := 0) (v_rK v_r4_5 (by decide) c7).2.1 (by decide)) rfl (t_Cs_has (v_rK v_r4_5 (by decide) c7).2.1 e8 (by omega)) ?_
      show s_Ek (s_rows 3 L xs) D s_e143.1 44 [(3, .int r1), (0, .ref 0), (1, .int b), (2, .int c)] [.int r8] (v_mk s8) _
      rcases v_if h with ⟨c9, h⟩ | ⟨c9, h⟩
      · refine v_i1t (T := 51) rfl rfl c9 ?_
        refine s_ek_bk 1 (P := 52) (ls' := [(3, .int r1), (0, .ref 0), (1, .int b), (2, .int c)]) (st' := [.int 0]) (M' := v_mk s8) rfl ?_
        obtain ⟨rfl, rfl⟩ := v_so h
        exact v_ret (fun _ => rfl)
      · refine v_i1f (T := 51) rfl rfl c9 ?_
        refine s_ek_bk 2 (P := 52) (ls' := [(3, .int r1), (0, .ref 0), (1, .int b), (2, .int c)]) (st' := [.int 1]) (M' := v_mk s8) rfl ?_
        obtain ⟨rfl, rfl⟩ := v_so h
        exact v_ret (fun _ => rfl)
    · refine v_i1f (T := 22) rfl rfl c4 ?_
      refine s_ek_bk 1 (P := 21) (ls' := [(3, .int r1), (0, .ref 0), (1, .int b), (2, .int c)]) (st' := [.int (-1)]) (M' := v_mk s2) rfl ?_
      obtain ⟨rfl, rfl⟩ := v_so h
      exact v_ret (fun _ => rfl)
noncomputable def f_Ol_verdict (b : Int32) (c : Int32) (s : vS) : Option (Int32 × vS) := (v_bi (f_Cs_placeOf b s) (fun r1 s1 => (if r1.toInt < 0 then (some ((-1), s1)) else (if c.toInt < 0 then (some ((-1), s1)) else (if c.toInt ≤ 2 then (v_bi (f_Ct_hear s1) (fun _ s5 => (v_bi (f_Ct_holder r1 (s5.1 8 2) s5) (fun r6 s6 => v_on r6 (some ((-2), s6)) (fun b7 => if v_kd b7 = 4 then (if c.toInt = 0 then (some ((s6.1 b7 2), s6)) else (if c.toInt = 1 then (some ((s6.1 b7 0), s6)) else (v_bi (f_Ct_beatenBy b7 r1 s6) (fun r12 s12 => (some (r12, s12)))))) else none))))) else (some ((-1), s1)))))))
set_option maxRecDepth 20000 in
set_option maxHeartbeats 4000000 in
theorem t_Ol_verdict {L : Nat} {xs : Nat → Int32} {b : Int32} {c : Int32} {D : Nat} {r : Int32} {s s' : vS} (h : f_Ol_verdict b c s = some (r, s')) (hD : 6 ≤ D) : s_Ek (s_rows 3 L xs) D s_e144.1 0 (lv_args 0 [.ref 0, .int b, .int c]) [] (v_mk s) (v_Q (some (.int r)) s') := by
  unfold f_Ol_verdict at h
  show s_Ek (s_rows 3 L xs) D s_e144.1 0 [(0, .ref 0), (1, .int b), (2, .int c)] [] (v_mk s) _
  refine s_ek_bk 1 (P := 1) (ls' := [(0, .ref 0), (1, .int b), (2, .int c)]) (st' := [.int b]) (M' := v_mk s) rfl ?_
  obtain ⟨r1, s1, e1, h⟩ := v_bd h
  refine v_cS (ν := s_e2.1) (w := 17) (as := [.int b]) (r := []) (o := some (.int r1)) (by omega) rfl rfl rfl rfl (t_Cs_placeOf e1 (by omega)) ?_
  show s_Ek (s_rows 3 L xs) D s_e144.1 4 [(0, .ref 0), (1, .int b), (2, .int c)] [.int r1] (v_mk s1) _
  refine s_ek_bk 2 (P := 6) (ls' := [(3, .int r1), (0, .ref 0), (1, .int b), (2, .int c)]) (st' := [.int r1]) (M' := v_mk s1) rfl ?_
  rcases v_if h with ⟨c2, h⟩ | ⟨c2, h⟩
  · refine v_i1t (T := 18) rfl rfl c2 ?_
    refine s_ek_bk 1 (P := 19) (ls' := [(3, .int r1), (0, .ref 0), (1, .int b), (2, .int c)]) (st' := [.int (-1)]) (M' := v_mk s1) rfl ?_
    obtain ⟨rfl, rfl⟩ := v_so h
    exact v_ret (fun _ => rfl)
  · refine v_i1f (T := 18) rfl rfl c2 ?_
    refine s_ek_bk 1 (P := 10) (ls' := [(3, .int r1), (0, .ref 0), (1, .int b), (2, .int c)]) (st' := [.int c]) (M' := v_mk s1) rfl ?_
    rcases v_if h with ⟨c3, h⟩ | ⟨c3, h⟩
    · refine v_i1t (T := 18) rfl rfl c3 ?_
      refine s_ek_bk 1 (P := 19) (ls' := [(3, .int r1), (0, .ref 0), (1, .int b), (2, .int c)]) (st' := [.int (-1)]) (M' := v_mk s1) rfl ?_
      obtain ⟨rfl, rfl⟩ := v_so h
      exact v_ret (fun _ => rfl)
    · refine v_i1f (T := 18) rfl rfl c3 ?_
      refine s_ek_bk 2 (P := 15) (ls' := [(3, .int r1), (0, .ref 0), (1, .int b), (2, .int c)]) (st' := [.int 2, .int c]) (M' := v_mk s1) rfl ?_
      rcases v_if h with ⟨c4, h⟩ | ⟨c4, h⟩
      · refine v_i2t (T := 20) rfl rfl c4 ?_
        refine s_ek_bk 1 (P := 21) (ls' := [(3, .int r1), (0, .ref 0), (1, .int b), (2, .int c)]) (st' := [.ref 0]) (M' := v_mk s1) rfl ?_
        refine v_gf rfl (v_gr (rfl : v_kd 0 = 10) (rfl : v_sl 0 4 = .ref 8) ⟨rfl, rfl, by decide⟩) ?_
        obtain ⟨r5, s5, e5, h⟩ := v_bd h
        refine v_cV (ν := s_e48.1) (w := 384) (a := 8) (as' := []) (r := []) (o := none) (by omega) rfl rfl rfl (v_mk_kd (k := 3) (rfl : v_kd 8 = 3) (by decide)) rfl (t_Ct_hear e5 (by omega)) ?_
        show s_Ek (s_rows 3 L xs) D s_e144.1 27 [(3, .int r1), (0, .ref 0), (1, .int b), (2, .int c)] [] (v_mk s5) _
        refine s_ek_bk 1 (P := 28) (ls' := [(3, .int r1), (0, .ref 0), (1, .int b), (2, .int c)]) (st' := [.ref 0]) (M' := v_mk s5) rfl ?_
        refine v_gf rfl (v_gr (rfl : v_kd 0 = 10) (rfl : v_sl 0 4 = .ref 8) ⟨rfl, rfl, by decide⟩) ?_
        refine s_ek_bk 2 (P := 33) (ls' := [(3, .int r1), (0, .ref 0), (1, .int b), (2, .int c)]) (st' := [.ref 0, .int r1, .ref 8]) (M' := v_mk s5) rfl ?_
        refine v_gf rfl (v_gr (rfl : v_kd 0 = 10) (rfl : v_sl 0 4 = .ref 8) ⟨rfl, rfl, by decide⟩) ?_
        refine v_gf rfl (v_gi (rfl : v_kd 8 = 3) rfl ⟨rfl, rfl, by decide⟩) ?_
        obtain ⟨r6, s6, e6, h⟩ := v_bd h
        refine v_cV (ν := s_e52.1) (w := 418) (a := 8) (as' := [.int r1, .int (s5.1 8 2)]) (r := []) (o := some (v_nu r6)) (by omega) rfl rfl rfl (v_mk_kd (k := 3) (rfl : v_kd 8 = 3) (by decide)) rfl (t_Ct_holder e6 (by omega)) ?_
        rcases v_od h with ⟨rfl, hz9⟩ | ⟨b7, rfl, hz9⟩
        · have h := hz9
          show s_Ek (s_rows 3 L xs) D s_e144.1 42 [(3, .int r1), (0, .ref 0), (1, .int b), (2, .int c)] [.null] (v_mk s6) _
          refine s_ek_bk 4 (P := 51) (ls' := [(4, .null), (3, .int r1), (0, .ref 0), (1, .int b), (2, .int c)]) (st' := [.int (-2)]) (M' := v_mk s6) rfl ?_
          obtain ⟨rfl, rfl⟩ := v_so h
          exact v_ret (fun _ => rfl)
        · have h := hz9
          obtain ⟨c8, h⟩ := v_ck h
          show s_Ek (s_rows 3 L xs) D s_e144.1 42 [(3, .int r1), (0, .ref 0), (1, .int b), (2, .int c)] [.ref b7] (v_mk s6) _
          refine s_ek_bk 4 (P := 53) (ls' := [(4, .ref b7), (3, .int r1), (0, .ref 0), (1, .int b), (2, .int c)]) (st' := [.int c]) (M' := v_mk s6) rfl ?_
          rcases v_if h with ⟨c10, h⟩ | ⟨c10, h⟩
          · refine v_i1f (T := 62) rfl rfl (fun q => q c10) ?_
            refine s_ek_bk 1 (P := 58) (ls' := [(4, .ref b7), (3, .int r1), (0, .ref 0), (1, .int b), (2, .int c)]) (st' := [.ref b7]) (M' := v_mk s6) rfl ?_
            refine v_gf rfl (v_gi c8 (v_tK (j := 2) v_is4 (by decide) c8) ⟨rfl, rfl, by decide⟩) ?_
            obtain ⟨rfl, rfl⟩ := v_so h
            exact v_ret (fun _ => rfl)
          · refine v_i1t (T := 62) rfl rfl c10 ?_
            refine s_ek_bk 2 (P := 64) (ls' := [(4, .ref b7), (3, .int r1), (0, .ref 0), (1, .int b), (2, .int c)]) (st' := [.int 1, .int c]) (M' := v_mk s6) rfl ?_
            rcases v_if h with ⟨c11, h⟩ | ⟨c11, h⟩
            · refine v_i2f (T := 75) rfl rfl (fun q => q c11) ?_
              refine s_ek_bk 1 (P := 69) (ls' := [(4, .ref b7), (3, .int r1), (0, .ref 0), (1, .int b), (2, .int c)]) (st' := [.ref b7]) (M' := v_mk s6) rfl ?_
              refine v_gf rfl (v_gi c8 (v_tK (j := 0) v_is4 (by decide) c8) ⟨rfl, rfl, by decide⟩) ?_
              refine s_ek_bk 1 (P := 85) (ls' := [(4, .ref b7), (3, .int r1), (0, .ref 0), (1, .int b), (2, .int c)]) (st' := [.int (s6.1 b7 0)]) (M' := v_mk s6) rfl ?_
              obtain ⟨rfl, rfl⟩ := v_so h
              exact v_ret (fun _ => rfl)
            · refine v_i2t (T := 75) rfl rfl c11 ?_
              refine s_ek_bk 1 (P := 76) (ls' := [(4, .ref b7), (3, .int r1), (0, .ref 0), (1, .int b), (2, .int c)]) (st' := [.ref 0]) (M' := v_mk s6) rfl ?_
              refine v_gf rfl (v_gr (rfl : v_kd 0 = 10) (rfl : v_sl 0 4 = .ref 8) ⟨rfl, rfl, by decide⟩) ?_
              refine s_ek_bk 2 (P := 82) (ls' := [(4, .ref b7), (3, .int r1), (0, .ref 0), (1, .int b), (2, .int c)]) (st' := [.int r1, .ref b7, .ref 8]) (M' := v_mk s6) rfl ?_
              obtain ⟨r12, s12, e12, h⟩ := v_bd h
              refine v_cV (ν := s_e55.1) (w := 442) (a := 8) (as' := [.ref b7, .int r1]) (r := []) (o := some (.int r12)) (by omega) rfl rfl rfl (v_mk_kd (k := 3) (rfl : v_kd 8 = 3) (by decide)) rfl (t_Ct_beatenBy c8 e12 (by omega)) ?_
              show s_Ek (s_rows 3 L xs) D s_e144.1 85 [(4, .ref b7), (3, .int r1), (0, .ref 0), (1, .int b), (2, .int c)] [.int r12] (v_mk s12) _
              obtain ⟨rfl, rfl⟩ := v_so h
              exact v_ret (fun _ => rfl)
      · refine v_i2f (T := 20) rfl rfl c4 ?_
        refine s_ek_bk 1 (P := 19) (ls' := [(3, .int r1), (0, .ref 0), (1, .int b), (2, .int c)]) (st' := [.int (-1)]) (M' := v_mk s1) rfl ?_
        obtain ⟨rfl, rfl⟩ := v_so h
        exact v_ret (fun _ => rfl)
noncomputable def f_Ol_refusalOfTold (b : Int32) (s : vS) : Option (Int32 × vS) := (v_bi (f_Ol_isShelf b s) (fun r1 s1 => (if r1.toInt = 0 then (some ((-1), s1)) else (v_bi (f_Ol_shelfAt b s1) (fun r3 s3 => if v_kd r3 = 6 then (v_bi (f_Sh_isBare r3 s3) (fun r5 s5 => (if r5.toInt = 0 then (if (s5.1 r3 0).toInt = 1 then (some (0, s5)) else (some ((-12), s5))) else (some ((-11), s5))))) else none)))))
set_option maxRecDepth 20000 in
set_option maxHeartbeats 4000000 in
theorem t_Ol_refusalOfTold {L : Nat} {xs : Nat → Int32} {b : Int32} {D : Nat} {r : Int32} {s s' : vS} (h : f_Ol_refusalOfTold b s = some (r, s')) (hD : 1 ≤ D) : s_Ek (s_rows 3 L xs) D s_e177.1 0 (lv_args 0 [.ref 0, .int b]) [] (v_mk s) (v_Q (some (.int r)) s') := by
  unfold f_Ol_refusalOfTold at h
  show s_Ek (s_rows 3 L xs) D s_e177.1 0 [(0, .ref 0), (1, .int b)] [] (v_mk s) _
  refine s_ek_bk 1 (P := 1) (ls' := [(0, .ref 0), (1, .int b)]) (st' := [.int b]) (M' := v_mk s) rfl ?_
  obtain ⟨r1, s1, e1, h⟩ := v_bd h
  refine v_cS (ν := s_e175.1) (w := 1401) (as := [.int b]) (r := []) (o := some (.int r1)) (by omega) rfl rfl rfl rfl (t_Ol_isShelf e1 (by omega)) ?_
  show s_Ek (s_rows 3 L xs) D s_e177.1 4 [(0, .ref 0), (1, .int b)] [.int r1] (v_mk s1) _
  rcases v_if h with ⟨c2, h⟩ | ⟨c2, h⟩
  · refine v_i1f (T := 9) rfl rfl (fun q => q c2) ?_
    refine s_ek_bk 1 (P := 8) (ls' := [(0, .ref 0), (1, .int b)]) (st' := [.int (-1)]) (M' := v_mk s1) rfl ?_
    obtain ⟨rfl, rfl⟩ := v_so h
    exact v_ret (fun _ => rfl)
  · refine v_i1t (T := 9) rfl rfl c2 ?_
    refine s_ek_bk 2 (P := 11) (ls' := [(0, .ref 0), (1, .int b)]) (st' := [.int b, .ref 0]) (M' := v_mk s1) rfl ?_
    obtain ⟨r3, s3, e3, h⟩ := v_bd h
    refine v_cV (ν := s_e176.1) (w := 1409) (a := 0) (as' := [.int b]) (r := []) (o := some (.ref r3)) (by omega) rfl rfl rfl (v_mk_kd (k := 10) (rfl : v_kd 0 = 10) (by decide)) rfl (t_Ol_shelfAt e3 (by omega)) ?_
    obtain ⟨c4, h⟩ := v_ck h
    show s_Ek (s_rows 3 L xs) D s_e177.1 14 [(0, .ref 0), (1, .int b)] [.ref r3] (v_mk s3) _
    refine s_ek_bk 2 (P := 16) (ls' := [(2, .ref r3), (0, .ref 0), (1, .int b)]) (st' := [.ref r3]) (M' := v_mk s3) rfl ?_
    obtain ⟨r5, s5, e5, h⟩ := v_bd h
    refine v_cV (ν := s_e84.1) (w := 672) (a := r3) (as' := []) (r := []) (o := some (.int r5)) (by omega) rfl rfl rfl (v_mk_kd (k := 6) c4 (by decide)) rfl (t_Sh_isBare c4 e5 (by omega)) ?_
    show s_Ek (s_rows 3 L xs) D s_e177.1 19 [(2, .ref r3), (0, .ref 0), (1, .int b)] [.int r5] (v_mk s5) _
    rcases v_if h with ⟨c6, h⟩ | ⟨c6, h⟩
    · refine v_i1t (T := 25) rfl rfl c6 ?_
      refine s_ek_bk 1 (P := 26) (ls' := [(2, .ref r3), (0, .ref 0), (1, .int b)]) (st' := [.ref r3]) (M' := v_mk s5) rfl ?_
      refine v_gf rfl (v_gi c4 (v_tK (j := 0) v_is6 (by decide) c4) ⟨rfl, rfl, by decide⟩) ?_
      refine s_ek_bk 1 (P := 30) (ls' := [(2, .ref r3), (0, .ref 0), (1, .int b)]) (st' := [.int 1, .int (s5.1 r3 0)]) (M' := v_mk s5) rfl ?_
      rcases v_if h with ⟨c7, h⟩ | ⟨c7, h⟩
      · refine v_i2f (T := 37) rfl rfl (fun q => q c7) ?_
        refine s_ek_bk 2 (P := 39) (ls' := [(2, .ref r3), (0, .ref 0), (1, .int b)]) (st' := [.int 0]) (M' := v_mk s5) rfl ?_
        obtain ⟨rfl, rfl⟩ := v_so h
        exact v_ret (fun _ => rfl)
      · refine v_i2t (T := 37) rfl rfl c7 ?_
        refine s_ek_bk 1 (P := 39) (ls' := [(2, .ref r3), (0, .ref 0), (1, .int b)]) (st' := [.int (-12)]) (M' := v_mk s5) rfl ?_
        obtain ⟨rfl, rfl⟩ := v_so h
        exact v_ret (fun _ => rfl)
    · refine v_i1f (T := 25) rfl rfl c6 ?_
      refine s_ek_bk 1 (P := 24) (ls' := [(2, .ref r3), (0, .ref 0), (1, .int b)]) (st' := [.int (-11)]) (M' := v_mk s5) rfl ?_
      obtain ⟨rfl, rfl⟩ := v_so h
      exact v_ret (fun _ => rfl)
noncomputable def f_Ol_judge (b : Int32) (s : vS) : Option (Int32 × vS) := (v_bi (f_Ol_refusalOfTold b s) (fun r1 s1 => (if r1.toInt = 0 then (v_bi (f_Ct_hear s1) (fun _ s3 => (v_bi (f_Ol_shelfAt b s3) (fun r4 s4 => if v_kd r4 = 6 then (v_bi (f_Ct_firstWrong r4 s4) (fun r6 s6 => (if 0 ≤ r6.toInt then (some (r6, s6)) else (some ((-2), s6))))) else none)))) else (some (r1, s1)))))
set_option maxRecDepth 20000 in
set_option maxHeartbeats 4000000 in
theorem t_Ol_judge {L : Nat} {xs : Nat → Int32} {b : Int32} {D : Nat} {r : Int32} {s s' : vS} (h : f_Ol_judge b s = some (r, s')) (hD : 6 ≤ D) : s_Ek (s_rows 3 L xs) D s_e145.1 0 (lv_args 0 [.ref 0, .int b]) [] (v_mk s) (v_Q (some (.int r)) s') := by
  unfold f_Ol_judge at h
  show s_Ek (s_rows 3 L xs) D s_e145.1 0 [(0, .ref 0), (1, .int b)] [] (v_mk s) _
  refine s_ek_bk 2 (P := 2) (ls' := [(0, .ref 0), (1, .int b)]) (st' := [.int b, .ref 0]) (M' := v_mk s) rfl ?_
  obtain ⟨r1, s1, e1, h⟩ := v_bd h
  refine v_cV (ν := s_e177.1) (w := 1417) (a := 0) (as' := [.int b]) (r := []) (o := some (.int r1)) (by omega) rfl rfl rfl (v_mk_kd (k := 10) (rfl : v_kd 0 = 10) (by decide)) rfl (t_Ol_refusalOfTold e1 (by omega)) ?_
  show s_Ek (s_rows 3 L xs) D s_e145.1 5 [(0, .ref 0), (1, .int b)] [.int r1] (v_mk s1) _
  refine s_ek_bk 2 (P := 7) (ls' := [(2, .int r1), (0, .ref 0), (1, .int b)]) (st' := [.int r1]) (M' := v_mk s1) rfl ?_
  rcases v_if h with ⟨c2, h⟩ | ⟨c2, h⟩
  · refine v_i1t (T := 12) rfl rfl c2 ?_
    refine s_ek_bk 1 (P := 13) (ls' := [(2, .int r1), (0, .ref 0), (1, .int b)]) (st' := [.ref 0]) (M' := v_mk s1) rfl ?_
    refine v_gf rfl (v_gr (rfl : v_kd 0 = 10) (rfl : v_sl 0 4 = .ref 8) ⟨rfl, rfl, by decide⟩) ?_
    obtain ⟨r3, s3, e3, h⟩ := v_bd h
    refine v_cV (ν := s_e48.1) (w := 384) (a := 8) (as' := []) (r := []) (o := none) (by omega) rfl rfl rfl (v_mk_kd (k := 3) (rfl : v_kd 8 = 3) (by decide)) rfl (t_Ct_hear e3 (by omega)) ?_
    show s_Ek (s_rows 3 L xs) D s_e145.1 19 [(2, .int r1), (0, .ref 0), (1, .int b)] [] (v_mk s3) _
    refine s_ek_bk 1 (P := 20) (ls' := [(2, .int r1), (0, .ref 0), (1, .int b)]) (st' := [.ref 0]) (M' := v_mk s3) rfl ?_
    refine v_gf rfl (v_gr (rfl : v_kd 0 = 10) (rfl : v_sl 0 4 = .ref 8) ⟨rfl, rfl, by decide⟩) ?_
    refine s_ek_bk 2 (P := 25) (ls' := [(2, .int r1), (0, .ref 0), (1, .int b)]) (st' := [.int b, .ref 0, .ref 8]) (M' := v_mk s3) rfl ?_
    obtain ⟨r4, s4, e4, h⟩ := v_bd h
    refine v_cV (ν := s_e176.1) (w := 1409) (a := 0) (as' := [.int b]) (r := [.ref 8]) (o := some (.ref r4)) (by omega) rfl rfl rfl (v_mk_kd (k := 10) (rfl : v_kd 0 = 10) (by decide)) rfl (t_Ol_shelfAt e4 (by omega)) ?_
    obtain ⟨c5, h⟩ := v_ck h
    show s_Ek (s_rows 3 L xs) D s_e145.1 28 [(2, .int r1), (0, .ref 0), (1, .int b)] [.ref r4, .ref 8] (v_mk s4) _
    obtain ⟨r6, s6, e6, h⟩ := v_bd h
    refine v_cV (ν := s_e56.1) (w := 449) (a := 8) (as' := [.ref r4]) (r := []) (o := some (.int r6)) (by omega) rfl rfl rfl (v_mk_kd (k := 3) (rfl : v_kd 8 = 3) (by decide)) rfl (t_Ct_firstWrong c5 e6 (by omega)) ?_
    show s_Ek (s_rows 3 L xs) D s_e145.1 31 [(2, .int r1), (0, .ref 0), (1, .int b)] [.int r6] (v_mk s6) _
    refine s_ek_bk 2 (P := 33) (ls' := [(3, .int r6), (2, .int r1), (0, .ref 0), (1, .int b)]) (st' := [.int r6]) (M' := v_mk s6) rfl ?_
    rcases v_if h with ⟨c7, h⟩ | ⟨c7, h⟩
    · refine v_i1t (T := 41) rfl rfl c7 ?_
      refine s_ek_bk 1 (P := 42) (ls' := [(3, .int r6), (2, .int r1), (0, .ref 0), (1, .int b)]) (st' := [.int r6]) (M' := v_mk s6) rfl ?_
      obtain ⟨rfl, rfl⟩ := v_so h
      exact v_ret (fun _ => rfl)
    · refine v_i1f (T := 41) rfl rfl c7 ?_
      refine s_ek_bk 2 (P := 42) (ls' := [(3, .int r6), (2, .int r1), (0, .ref 0), (1, .int b)]) (st' := [.int (-2)]) (M' := v_mk s6) rfl ?_
      obtain ⟨rfl, rfl⟩ := v_so h
      exact v_ret (fun _ => rfl)
  · refine v_i1f (T := 12) rfl rfl c2 ?_
    refine s_ek_bk 1 (P := 11) (ls' := [(2, .int r1), (0, .ref 0), (1, .int b)]) (st' := [.int r1]) (M' := v_mk s1) rfl ?_
    obtain ⟨rfl, rfl⟩ := v_so h
    exact v_ret (fun _ => rfl)
noncomputable def f_Ol_never_L11b (k52 : Int32 → vS → Option (Int32 × vS)) (again : Int32 → Int32 → vS → Option (Int32 × vS)) (v1 : Int32) (v2 : Int32) (s : vS) : Option (Int32 × vS) := (if 125 ≤ v2.toInt then (k52 v1 s) else (v_bi (f_Ct_holder v2 (s.1 8 2) s) (fun r103 s103 => v_on r103 (again v1 (v2 + 1) s103) (fun b104 => if v_kd b104 = 4 then (again (v1 ||| ((1 : Int32) <<< ((s103.1 b104 0) &&& 31))) (v2 + 1) s103) else none))))
noncomputable def f_Ol_never_L11 (k52 : Int32 → vS → Option (Int32 × vS)) (n : Nat) : Int32 → Int32 → vS → Option (Int32 × vS) := Nat.rec (motive := fun _ => Int32 → Int32 → vS → Option (Int32 × vS)) (fun _ _ _ => none) (fun _ again => f_Ol_never_L11b k52 again) n
noncomputable def f_Ol_never (s : vS) : Option (Int32 × vS) := (v_bi (f_Ct_hear s) (fun _ s1 => (f_Ol_never_L11 (fun w2 s3 => (v_bi (f_Ct_numbers s3) (fun r4 s4 => (some ((r4 &&& (w2 ^^^ ((-1) : Int32))), s4))))) 4096 0 0 s1)))
set_option maxRecDepth 20000 in
set_option maxHeartbeats 4000000 in
theorem t_Ol_never_L11 {L : Nat} {xs : Nat → Int32} {k52 : Int32 → vS → Option (Int32 × vS)} {D : Nat} (hD : 6 ≤ D) {r : Int32} {s' : vS} (hk52 : ∀ (v1 : Int32) (s : vS), k52 v1 s = some (r, s') → s_Ek (s_rows 3 L xs) D s_e146.1 52 [(0, .ref 0), (1, .int v1)] [] (v_mk s) (v_Q (some (.int r)) s')) : ∀ (n : Nat) (v1 : Int32) (v2 : Int32) (s : vS), f_Ol_never_L11 k52 n v1 v2 s = some (r, s') → s_Ek (s_rows 3 L xs) D s_e146.1 11 [(0, .ref 0), (1, .int v1), (2, .int v2)] [] (v_mk s) (v_Q (some (.int r)) s') := by
  intro n
  induction n with
  | zero => intro v1 v2 s h; exact nomatch (show (none : Option (Int32 × vS)) = some (r, s') from h)
  | succ n ih =>
    intro v1 v2 s h
    replace h : f_Ol_never_L11b k52 (f_Ol_never_L11 k52 n) v1 v2 s = some (r, s') := h
    unfold f_Ol_never_L11b at h
    refine s_ek_bk 2 (P := 14) (ls' := [(0, .ref 0), (1, .int v1), (2, .int v2)]) (st' := [.int 125, .int v2]) (M' := v_mk s) rfl ?_
    rcases v_if h with ⟨c102, h⟩ | ⟨c102, h⟩
    · refine v_i2t (T := 52) rfl rfl c102 ?_
      refine v_ls (ls' := [(0, .ref 0), (1, .int v1)]) ⟨rfl, rfl, trivial⟩ (show ([0, 1] : List Nat).Nodup from by decide) ?_
      exact hk52 _ _ h
    · refine v_i2f (T := 52) rfl rfl c102 ?_
      refine s_ek_bk 1 (P := 18) (ls' := [(0, .ref 0), (1, .int v1), (2, .int v2)]) (st' := [.ref 0]) (M' := v_mk s) rfl ?_
      refine v_gf rfl (v_gr (rfl : v_kd 0 = 10) (rfl : v_sl 0 4 = .ref 8) ⟨rfl, rfl, by decide⟩) ?_
      refine s_ek_bk 2 (P := 23) (ls' := [(0, .ref 0), (1, .int v1), (2, .int v2)]) (st' := [.ref 0, .int v2, .ref 8]) (M' := v_mk s) rfl ?_
      refine v_gf rfl (v_gr (rfl : v_kd 0 = 10) (rfl : v_sl 0 4 = .ref 8) ⟨rfl, rfl, by decide⟩) ?_
      refine v_gf rfl (v_gi (rfl : v_kd 8 = 3) rfl ⟨rfl, rfl, by decide⟩) ?_
      obtain ⟨r103, s103, e103, h⟩ := v_bd h
      refine v_cV (ν := s_e52.1) (w := 418) (a := 8) (as' := [.int v2, .int (s.1 8 2)]) (r := []) (o := some (v_nu r103)) (by omega) rfl rfl rfl (v_mk_kd (k := 3) (rfl : v_kd 8 = 3) (by decide)) rfl (t_Ct_holder e103 (by omega)) ?_
      rcases v_od h with ⟨rfl, hz106⟩ | ⟨b104, rfl, hz106⟩
      · have h := hz106
        show s_Ek (s_rows 3 L xs) D s_e146.1 32 [(0, .ref 0), (1, .int v1), (2, .int v2)] [.null] (v_mk s103) _
        refine s_ek_bk 5 (P := 11) (ls' := [(2, .int (v2 + 1)), (3, .null), (0, .ref 0), (1, .int v1)]) (st' := []) (M' := v_mk s103) rfl ?_
        refine v_ls (ls' := [(0, .ref 0), (1, .int v1), (2, .int (v2 + 1))]) ⟨rfl, rfl, rfl, trivial⟩ (show ([0, 1, 2] : List Nat).Nodup from by decide) ?_
        exact ih _ _ _ h
      · have h := hz106
        obtain ⟨c105, h⟩ := v_ck h
        show s_Ek (s_rows 3 L xs) D s_e146.1 32 [(0, .ref 0), (1, .int v1), (2, .int v2)] [.ref b104] (v_mk s103) _
        refine s_ek_bk 6 (P := 40) (ls' := [(3, .ref b104), (0, .ref 0), (1, .int v1), (2, .int v2)]) (st' := [.ref b104, .int 1, .int v1]) (M' := v_mk s103) rfl ?_
        refine v_gf rfl (v_gi c105 (v_tK (j := 0) v_is4 (by decide) c105) ⟨rfl, rfl, by decide⟩) ?_
        refine s_ek_bk 5 (P := 11) (ls' := [(2, .int (v2 + 1)), (1, .int (v1 ||| ((1 : Int32) <<< ((s103.1 b104 0) &&& 31)))), (3, .ref b104), (0, .ref 0)]) (st' := []) (M' := v_mk s103) rfl ?_
        refine v_ls (ls' := [(0, .ref 0), (1, .int (v1 ||| ((1 : Int32) <<< ((s103.1 b104 0) &&& 31)))), (2, .int (v2 + 1))]) ⟨rfl, rfl, rfl, trivial⟩ (show ([0, 1, 2] : List Nat).Nodup from by decide) ?_
        exact ih _ _ _ h
set_option maxRecDepth 20000 in
set_option maxHeartbeats 4000000 in
theorem t_Ol_never {L : Nat} {xs : Nat → Int32} {D : Nat} {r : Int32} {s s' : vS} (h : f_Ol_never s = some (r, s')) (hD : 6 ≤ D) : s_Ek (s_rows 3 L xs) D s_e146.1 0 (lv_args 0 [.ref 0]) [] (v_mk s) (v_Q (some (.int r)) s') := by
  unfold f_Ol_never at h
  show s_Ek (s_rows 3 L xs) D s_e146.1 0 [(0, .ref 0)] [] (v_mk s) _
  refine s_ek_bk 1 (P := 1) (ls' := [(0, .ref 0)]) (st' := [.ref 0]) (M' := v_mk s) rfl ?_
  refine v_gf rfl (v_gr (rfl : v_kd 0 = 10) (rfl : v_sl 0 4 = .ref 8) ⟨rfl, rfl, by decide⟩) ?_
  obtain ⟨r1, s1, e1, h⟩ := v_bd h
  refine v_cV (ν := s_e48.1) (w := 384) (a := 8) (as' := []) (r := []) (o := none) (by omega) rfl rfl rfl (v_mk_kd (k := 3) (rfl : v_kd 8 = 3) (by decide)) rfl (t_Ct_hear e1 (by omega)) ?_
  show s_Ek (s_rows 3 L xs) D s_e146.1 7 [(0, .ref 0)] [] (v_mk s1) _
  refine s_ek_bk 4 (P := 11) (ls' := [(2, .int 0), (1, .int 0), (0, .ref 0)]) (st' := []) (M' := v_mk s1) rfl ?_
  refine v_ls (ls' := [(0, .ref 0), (1, .int 0), (2, .int 0)]) ⟨rfl, rfl, rfl, trivial⟩ (show ([0, 1, 2] : List Nat).Nodup from by decide) ?_
  refine t_Ol_never_L11 (by omega) (fun w2 s3 h => ?_) 4096 _ _ _ h
  show s_Ek (s_rows 3 L xs) D s_e146.1 52 [(0, .ref 0), (1, .int w2)] [] (v_mk s3) _
  refine s_ek_bk 1 (P := 53) (ls' := [(0, .ref 0), (1, .int w2)]) (st' := [.ref 0]) (M' := v_mk s3) rfl ?_
  refine v_gf rfl (v_gr (rfl : v_kd 0 = 10) (rfl : v_sl 0 4 = .ref 8) ⟨rfl, rfl, by decide⟩) ?_
  obtain ⟨r4, s4, e4, h⟩ := v_bd h
  refine v_cV (ν := s_e42.1) (w := 336) (a := 8) (as' := []) (r := []) (o := some (.int r4)) (by omega) rfl rfl rfl (v_mk_kd (k := 3) (rfl : v_kd 8 = 3) (by decide)) rfl (t_Ct_numbers e4 (by omega)) ?_
  show s_Ek (s_rows 3 L xs) D s_e146.1 59 [(0, .ref 0), (1, .int w2)] [.int r4] (v_mk s4) _
  refine s_ek_bk 4 (P := 63) (ls' := [(0, .ref 0), (1, .int w2)]) (st' := [.int (r4 &&& (w2 ^^^ ((-1) : Int32)))]) (M' := v_mk s4) rfl ?_
  obtain ⟨rfl, rfl⟩ := v_so h
  exact v_ret (fun _ => rfl)
noncomputable def f_Ol_isEither (b : Int32) (s : vS) : Option (Int32 × vS) := (if b.toInt = 0 then (some (1, s)) else (if b.toInt = 1 then (some (1, s)) else (some (0, s))))
set_option maxRecDepth 20000 in
set_option maxHeartbeats 4000000 in
theorem t_Ol_isEither {L : Nat} {xs : Nat → Int32} {b : Int32} {D : Nat} {r : Int32} {s s' : vS} (h : f_Ol_isEither b s = some (r, s')) (hD : 0 ≤ D) : s_Ek (s_rows 3 L xs) D s_e174.1 0 (lv_args 0 [.int b]) [] (v_mk s) (v_Q (some (.int r)) s') := by
  unfold f_Ol_isEither at h
  show s_Ek (s_rows 3 L xs) D s_e174.1 0 [(0, .int b)] [] (v_mk s) _
  refine s_ek_bk 1 (P := 1) (ls' := [(0, .int b)]) (st' := [.int b]) (M' := v_mk s) rfl ?_
  rcases v_if h with ⟨c1, h⟩ | ⟨c1, h⟩
  · refine v_i1t (T := 9) rfl rfl c1 ?_
    refine s_ek_bk 2 (P := 14) (ls' := [(0, .int b)]) (st' := [.int 1]) (M' := v_mk s) rfl ?_
    obtain ⟨rfl, rfl⟩ := v_so h
    exact v_ret (fun _ => rfl)
  · refine v_i1f (T := 9) rfl rfl c1 ?_
    refine s_ek_bk 2 (P := 6) (ls' := [(0, .int b)]) (st' := [.int 1, .int b]) (M' := v_mk s) rfl ?_
    rcases v_if h with ⟨c2, h⟩ | ⟨c2, h⟩
    · refine v_i2f (T := 13) rfl rfl (fun q => q c2) ?_
      refine s_ek_bk 2 (P := 14) (ls' := [(0, .int b)]) (st' := [.int 1]) (M' := v_mk s) rfl ?_
      obtain ⟨rfl, rfl⟩ := v_so h
      exact v_ret (fun _ => rfl)
    · refine v_i2t (T := 13) rfl rfl c2 ?_
      refine s_ek_bk 1 (P := 14) (ls' := [(0, .int b)]) (st' := [.int 0]) (M' := v_mk s) rfl ?_
      obtain ⟨rfl, rfl⟩ := v_so h
      exact v_ret (fun _ => rfl)
noncomputable def f_Ol_clash (b : Int32) (c : Int32) (s : vS) : Option (Int32 × vS) := (if b.toInt < 0 then (some ((-1), s)) else (if 99 < b.toInt then (some ((-1), s)) else (v_bi (f_Ol_isEither c s) (fun r3 s3 => (if r3.toInt = 0 then (some ((-1), s3)) else (if (b / (10 : Int32)).toInt = (b - b / (10 : Int32) * (10 : Int32)).toInt then (some ((-1), s3)) else (v_bi (f_Ct_isThere (b / (10 : Int32)) s3) (fun r6 s6 => (if r6.toInt = 0 then (some ((-1), s6)) else (v_bi (f_Ct_isThere (b - b / (10 : Int32) * (10 : Int32)) s6) (fun r8 s8 => (if r8.toInt = 0 then (some ((-1), s8)) else (v_bi (f_Ct_hear s8) (fun _ s10 => (v_bi (f_Ct_at (b / (10 : Int32)) s10) (fun r11 s11 => if v_kd r11 = 4 then (v_bi (f_Ct_at (b - b / (10 : Int32) * (10 : Int32)) s11) (fun r13 s13 => if v_kd r13 = 4 then (v_bi (f_Cs_clear 138 s13) (fun _ s15 => (if (s15.1 r11 2).toInt = (s15.1 r13 2).toInt then (if c.toInt = 0 then (v_bi (f_Cs_first 138 s15) (fun r18 s18 => (some (r18, s18)))) else (v_bi (f_Cs_size 138 s15) (fun r19 s19 => (some (r19, s19))))) else (v_bi (f_Cs_takeBoth 138 (r11 + 4) (r13 + 4) s15) (fun _ s20 => (if c.toInt = 0 then (v_bi (f_Cs_first 138 s20) (fun r22 s22 => (some (r22, s22)))) else (v_bi (f_Cs_size 138 s20) (fun r23 s23 => (some (r23, s23)))))))))) else none)) else none))))))))))))))))
set_option maxRecDepth 20000 in
set_option maxHeartbeats 4000000 in
theorem t_Ol_clash {L : Nat} {xs : Nat → Int32} {b : Int32} {c : Int32} {D : Nat} {r : Int32} {s s' : vS} (h : f_Ol_clash b c s = some (r, s')) (hD : 6 ≤ D) : s_Ek (s_rows 3 L xs) D s_e147.1 0 (lv_args 0 [.ref 0, .int b, .int c]) [] (v_mk s) (v_Q (some (.int r)) s') := by
  unfold f_Ol_clash at h
  show s_Ek (s_rows 3 L xs) D s_e147.1 0 [(0, .ref 0), (1, .int b), (2, .int c)] [] (v_mk s) _
  refine s_ek_bk 1 (P := 1) (ls' := [(0, .ref 0), (1, .int b), (2, .int c)]) (st' := [.int b]) (M' := v_mk s) rfl ?_
  rcases v_if h with ⟨c1, h⟩ | ⟨c1, h⟩
  · refine v_i1t (T := 17) rfl rfl c1 ?_
    refine s_ek_bk 1 (P := 18) (ls' := [(0, .ref 0), (1, .int b), (2, .int c)]) (st' := [.int (-1)]) (M' := v_mk s) rfl ?_
    obtain ⟨rfl, rfl⟩ := v_so h
    exact v_ret (fun _ => rfl)
  · refine v_i1f (T := 17) rfl rfl c1 ?_
    refine s_ek_bk 2 (P := 7) (ls' := [(0, .ref 0), (1, .int b), (2, .int c)]) (st' := [.int 99, .int b]) (M' := v_mk s) rfl ?_
    rcases v_if h with ⟨c2, h⟩ | ⟨c2, h⟩
    · refine v_i2t (T := 17) rfl rfl c2 ?_
      refine s_ek_bk 1 (P := 18) (ls' := [(0, .ref 0), (1, .int b), (2, .int c)]) (st' := [.int (-1)]) (M' := v_mk s) rfl ?_
      obtain ⟨rfl, rfl⟩ := v_so h
      exact v_ret (fun _ => rfl)
    · refine v_i2f (T := 17) rfl rfl c2 ?_
      refine s_ek_bk 1 (P := 11) (ls' := [(0, .ref 0), (1, .int b), (2, .int c)]) (st' := [.int c]) (M' := v_mk s) rfl ?_
      obtain ⟨r3, s3, e3, h⟩ := v_bd h
      refine v_cS (ν := s_e174.1) (w := 1393) (as := [.int c]) (r := []) (o := some (.int r3)) (by omega) rfl rfl rfl rfl (t_Ol_isEither e3 (by omega)) ?_
      show s_Ek (s_rows 3 L xs) D s_e147.1 14 [(0, .ref 0), (1, .int b), (2, .int c)] [.int r3] (v_mk s3) _
      rcases v_if h with ⟨c4, h⟩ | ⟨c4, h⟩
      · refine v_i1f (T := 19) rfl rfl (fun q => q c4) ?_
        refine s_ek_bk 1 (P := 18) (ls' := [(0, .ref 0), (1, .int b), (2, .int c)]) (st' := [.int (-1)]) (M' := v_mk s3) rfl ?_
        obtain ⟨rfl, rfl⟩ := v_so h
        exact v_ret (fun _ => rfl)
      · refine v_i1t (T := 19) rfl rfl c4 ?_
        refine s_ek_bk 10 (P := 33) (ls' := [(4, .int (b - b / (10 : Int32) * (10 : Int32))), (3, .int (b / (10 : Int32))), (0, .ref 0), (1, .int b), (2, .int c)]) (st' := [.int (b - b / (10 : Int32) * (10 : Int32)), .int (b / (10 : Int32))]) (M' := v_mk s3) rfl ?_
        rcases v_if h with ⟨c5, h⟩ | ⟨c5, h⟩
        · refine v_i2t (T := 59) rfl rfl c5 ?_
          refine s_ek_bk 1 (P := 60) (ls' := [(4, .int (b - b / (10 : Int32) * (10 : Int32))), (3, .int (b / (10 : Int32))), (0, .ref 0), (1, .int b), (2, .int c)]) (st' := [.int (-1)]) (M' := v_mk s3) rfl ?_
          obtain ⟨rfl, rfl⟩ := v_so h
          exact v_ret (fun _ => rfl)
        · refine v_i2f (T := 59) rfl rfl c5 ?_
          refine s_ek_bk 1 (P := 37) (ls' := [(4, .int (b - b / (10 : Int32) * (10 : Int32))), (3, .int (b / (10 : Int32))), (0, .ref 0), (1, .int b), (2, .int c)]) (st' := [.ref 0]) (M' := v_mk s3) rfl ?_
          refine v_gf rfl (v_gr (rfl : v_kd 0 = 10) (rfl : v_sl 0 4 = .ref 8) ⟨rfl, rfl, by decide⟩) ?_
          refine s_ek_bk 1 (P := 41) (ls' := [(4, .int (b - b / (10 : Int32) * (10 : Int32))), (3, .int (b / (10 : Int32))), (0, .ref 0), (1, .int b), (2, .int c)]) (st' := [.int (b / (10 : Int32)), .ref 8]) (M' := v_mk s3) rfl ?_
          obtain ⟨r6, s6, e6, h⟩ := v_bd h
          refine v_cV (ν := s_e46.1) (w := 369) (a := 8) (as' := [.int (b / (10 : Int32))]) (r := []) (o := some (.int r6)) (by omega) rfl rfl rfl (v_mk_kd (k := 3) (rfl : v_kd 8 = 3) (by decide)) rfl (t_Ct_isThere e6 (by omega)) ?_
          show s_Ek (s_rows 3 L xs) D s_e147.1 44 [(4, .int (b - b / (10 : Int32) * (10 : Int32))), (3, .int (b / (10 : Int32))), (0, .ref 0), (1, .int b), (2, .int c)] [.int r6] (v_mk s6) _
          rcases v_if h with ⟨c7, h⟩ | ⟨c7, h⟩
          · refine v_i1t (T := 59) rfl rfl c7 ?_
            refine s_ek_bk 1 (P := 60) (ls' := [(4, .int (b - b / (10 : Int32) * (10 : Int32))), (3, .int (b / (10 : Int32))), (0, .ref 0), (1, .int b), (2, .int c)]) (st' := [.int (-1)]) (M' := v_mk s6) rfl ?_
            obtain ⟨rfl, rfl⟩ := v_so h
            exact v_ret (fun _ => rfl)
          · refine v_i1f (T := 59) rfl rfl c7 ?_
            refine s_ek_bk 1 (P := 48) (ls' := [(4, .int (b - b / (10 : Int32) * (10 : Int32))), (3, .int (b / (10 : Int32))), (0, .ref 0), (1, .int b), (2, .int c)]) (st' := [.ref 0]) (M' := v_mk s6) rfl ?_
            refine v_gf rfl (v_gr (rfl : v_kd 0 = 10) (rfl : v_sl 0 4 = .ref 8) ⟨rfl, rfl, by decide⟩) ?_
            refine s_ek_bk 1 (P := 53) (ls' := [(4, .int (b - b / (10 : Int32) * (10 : Int32))), (3, .int (b / (10 : Int32))), (0, .ref 0), (1, .int b), (2, .int c)]) (st' := [.int (b - b / (10 : Int32) * (10 : Int32)), .ref 8]) (M' := v_mk s6) rfl ?_
            obtain ⟨r8, s8, e8, h⟩ := v_bd h
            refine v_cV (ν := s_e46.1) (w := 369) (a := 8) (as' := [.int (b - b / (10 : Int32) * (10 : Int32))]) (r := []) (o := some (.int r8)) (by omega) rfl rfl rfl (v_mk_kd (k := 3) (rfl : v_kd 8 = 3) (by decide)) rfl (t_Ct_isThere e8 (by omega)) ?_
            show s_Ek (s_rows 3 L xs) D s_e147.1 56 [(4, .int (b - b / (10 : Int32) * (10 : Int32))), (3, .int (b / (10 : Int32))), (0, .ref 0), (1, .int b), (2, .int c)] [.int r8] (v_mk s8) _
            rcases v_if h with ⟨c9, h⟩ | ⟨c9, h⟩
            · refine v_i1f (T := 61) rfl rfl (fun q => q c9) ?_
              refine s_ek_bk 1 (P := 60) (ls' := [(4, .int (b - b / (10 : Int32) * (10 : Int32))), (3, .int (b / (10 : Int32))), (0, .ref 0), (1, .int b), (2, .int c)]) (st' := [.int (-1)]) (M' := v_mk s8) rfl ?_
              obtain ⟨rfl, rfl⟩ := v_so h
              exact v_ret (fun _ => rfl)
            · refine v_i1t (T := 61) rfl rfl c9 ?_
              refine s_ek_bk 1 (P := 62) (ls' := [(4, .int (b - b / (10 : Int32) * (10 : Int32))), (3, .int (b / (10 : Int32))), (0, .ref 0), (1, .int b), (2, .int c)]) (st' := [.ref 0]) (M' := v_mk s8) rfl ?_
              refine v_gf rfl (v_gr (rfl : v_kd 0 = 10) (rfl : v_sl 0 4 = .ref 8) ⟨rfl, rfl, by decide⟩) ?_
              obtain ⟨r10, s10, e10, h⟩ := v_bd h
              refine v_cV (ν := s_e48.1) (w := 384) (a := 8) (as' := []) (r := []) (o := none) (by omega) rfl rfl rfl (v_mk_kd (k := 3) (rfl : v_kd 8 = 3) (by decide)) rfl (t_Ct_hear e10 (by omega)) ?_
              show s_Ek (s_rows 3 L xs) D s_e147.1 68 [(4, .int (b - b / (10 : Int32) * (10 : Int32))), (3, .int (b / (10 : Int32))), (0, .ref 0), (1, .int b), (2, .int c)] [] (v_mk s10) _
              refine s_ek_bk 1 (P := 69) (ls' := [(4, .int (b - b / (10 : Int32) * (10 : Int32))), (3, .int (b / (10 : Int32))), (0, .ref 0), (1, .int b), (2, .int c)]) (st' := [.ref 0]) (M' := v_mk s10) rfl ?_
              refine v_gf rfl (v_gr (rfl : v_kd 0 = 10) (rfl : v_sl 0 4 = .ref 8) ⟨rfl, rfl, by decide⟩) ?_
              refine s_ek_bk 1 (P := 73) (ls' := [(4, .int (b - b / (10 : Int32) * (10 : Int32))), (3, .int (b / (10 : Int32))), (0, .ref 0), (1, .int b), (2, .int c)]) (st' := [.int (b / (10 : Int32)), .ref 8]) (M' := v_mk s10) rfl ?_
              obtain ⟨r11, s11, e11, h⟩ := v_bd h
              refine v_cV (ν := s_e41.1) (w := 329) (a := 8) (as' := [.int (b / (10 : Int32))]) (r := []) (o := some (.ref r11)) (by omega) rfl rfl rfl (v_mk_kd (k := 3) (rfl : v_kd 8 = 3) (by decide)) rfl (t_Ct_at e11 (by omega)) ?_
              obtain ⟨c12, h⟩ := v_ck h
              show s_Ek (s_rows 3 L xs) D s_e147.1 76 [(4, .int (b - b / (10 : Int32) * (10 : Int32))), (3, .int (b / (10 : Int32))), (0, .ref 0), (1, .int b), (2, .int c)] [.ref r11] (v_mk s11) _
              refine s_ek_bk 2 (P := 79) (ls' := [(5, .ref r11), (4, .int (b - b / (10 : Int32) * (10 : Int32))), (3, .int (b / (10 : Int32))), (0, .ref 0), (1, .int b), (2, .int c)]) (st' := [.ref 0]) (M' := v_mk s11) rfl ?_
              refine v_gf rfl (v_gr (rfl : v_kd 0 = 10) (rfl : v_sl 0 4 = .ref 8) ⟨rfl, rfl, by decide⟩) ?_
              refine s_ek_bk 1 (P := 84) (ls' := [(5, .ref r11), (4, .int (b - b / (10 : Int32) * (10 : Int32))), (3, .int (b / (10 : Int32))), (0, .ref 0), (1, .int b), (2, .int c)]) (st' := [.int (b - b / (10 : Int32) * (10 : Int32)), .ref 8]) (M' := v_mk s11) rfl ?_
              obtain ⟨r13, s13, e13, h⟩ := v_bd h
              refine v_cV (ν := s_e41.1) (w := 329) (a := 8) (as' := [.int (b - b / (10 : Int32) * (10 : Int32))]) (r := []) (o := some (.ref r13)) (by omega) rfl rfl rfl (v_mk_kd (k := 3) (rfl : v_kd 8 = 3) (by decide)) rfl (t_Ct_at e13 (by omega)) ?_
              obtain ⟨c14, h⟩ := v_ck h
              show s_Ek (s_rows 3 L xs) D s_e147.1 87 [(5, .ref r11), (4, .int (b - b / (10 : Int32) * (10 : Int32))), (3, .int (b / (10 : Int32))), (0, .ref 0), (1, .int b), (2, .int c)] [.ref r13] (v_mk s13) _
              refine s_ek_bk 2 (P := 90) (ls' := [(6, .ref r13), (5, .ref r11), (4, .int (b - b / (10 : Int32) * (10 : Int32))), (3, .int (b / (10 : Int32))), (0, .ref 0), (1, .int b), (2, .int c)]) (st' := [.ref 0]) (M' := v_mk s13) rfl ?_
              refine v_gf rfl (v_gr (rfl : v_kd 0 = 10) (rfl : v_sl 0 10 = .ref 138) ⟨rfl, rfl, by decide⟩) ?_
              obtain ⟨r15, s15, e15, h⟩ := v_bd h
              refine v_cV (ν := s_e5.1) (w := 40) (a := 138) (as' := []) (r := []) (o := none) (by omega) rfl rfl rfl (v_mk_kd (k := 0) (rfl : v_kd 138 = 0) (by decide)) rfl (t_Cs_clear (rfl : v_kd 138 = 0) e15 (by omega)) ?_
              show s_Ek (s_rows 3 L xs) D s_e147.1 96 [(6, .ref r13), (5, .ref r11), (4, .int (b - b / (10 : Int32) * (10 : Int32))), (3, .int (b / (10 : Int32))), (0, .ref 0), (1, .int b), (2, .int c)] [] (v_mk s15) _
              refine s_ek_bk 1 (P := 98) (ls' := [(6, .ref r13), (5, .ref r11), (4, .int (b - b / (10 : Int32) * (10 : Int32))), (3, .int (b / (10 : Int32))), (0, .ref 0), (1, .int b), (2, .int c)]) (st' := [.ref r11]) (M' := v_mk s15) rfl ?_
              refine v_gf rfl (v_gi c12 (v_tK (j := 2) v_is4 (by decide) c12) ⟨rfl, rfl, by decide⟩) ?_
              refine s_ek_bk 1 (P := 103) (ls' := [(6, .ref r13), (5, .ref r11), (4, .int (b - b / (10 : Int32) * (10 : Int32))), (3, .int (b / (10 : Int32))), (0, .ref 0), (1, .int b), (2, .int c)]) (st' := [.ref r13, .int (s15.1 r11 2)]) (M' := v_mk s15) rfl ?_
              refine v_gf rfl (v_gi c14 (v_tK (j := 2) v_is4 (by decide) c14) ⟨rfl, rfl, by decide⟩) ?_
              rcases v_if h with ⟨c16, h⟩ | ⟨c16, h⟩
              · refine v_i2t (T := 126) rfl rfl c16 ?_
                refine s_ek_bk 1 (P := 127) (ls' := [(6, .ref r13), (5, .ref r11), (4, .int (b - b / (10 : Int32) * (10 : Int32))), (3, .int (b / (10 : Int32))), (0, .ref 0), (1, .int b), (2, .int c)]) (st' := [.int c]) (M' := v_mk s15) rfl ?_
                rcases v_if h with ⟨c17, h⟩ | ⟨c17, h⟩
                · refine v_i1f (T := 140) rfl rfl (fun q => q c17) ?_
                  refine s_ek_bk 1 (P := 131) (ls' := [(6, .ref r13), (5, .ref r11), (4, .int (b - b / (10 : Int32) * (10 : Int32))), (3, .int (b / (10 : Int32))), (0, .ref 0), (1, .int b), (2, .int c)]) (st' := [.ref 0]) (M' := v_mk s15) rfl ?_
                  refine v_gf rfl (v_gr (rfl : v_kd 0 = 10) (rfl : v_sl 0 10 = .ref 138) ⟨rfl, rfl, by decide⟩) ?_
                  obtain ⟨r18, s18, e18, h⟩ := v_bd h
                  refine v_cV (ν := s_e11.1) (w := 88) (a := 138) (as' := []) (r := []) (o := some (.int r18)) (by omega) rfl rfl rfl (v_mk_kd (k := 0) (rfl : v_kd 138 = 0) (by decide)) rfl (t_Cs_first (rfl : v_kd 138 = 0) e18 (by omega)) ?_
                  show s_Ek (s_rows 3 L xs) D s_e147.1 137 [(6, .ref r13), (5, .ref r11), (4, .int (b - b / (10 : Int32) * (10 : Int32))), (3, .int (b / (10 : Int32))), (0, .ref 0), (1, .int b), (2, .int c)] [.int r18] (v_mk s18) _
                  refine s_ek_bk 1 (P := 147) (ls' := [(6, .ref r13), (5, .ref r11), (4, .int (b - b / (10 : Int32) * (10 : Int32))), (3, .int (b / (10 : Int32))), (0, .ref 0), (1, .int b), (2, .int c)]) (st' := [.int r18]) (M' := v_mk s18) rfl ?_
                  obtain ⟨rfl, rfl⟩ := v_so h
                  exact v_ret (fun _ => rfl)
                · refine v_i1t (T := 140) rfl rfl c17 ?_
                  refine s_ek_bk 1 (P := 141) (ls' := [(6, .ref r13), (5, .ref r11), (4, .int (b - b / (10 : Int32) * (10 : Int32))), (3, .int (b / (10 : Int32))), (0, .ref 0), (1, .int b), (2, .int c)]) (st' := [.ref 0]) (M' := v_mk s15) rfl ?_
                  refine v_gf rfl (v_gr (rfl : v_kd 0 = 10) (rfl : v_sl 0 10 = .ref 138) ⟨rfl, rfl, by decide⟩) ?_
                  obtain ⟨r19, s19, e19, h⟩ := v_bd h
                  refine v_cV (ν := s_e10.1) (w := 80) (a := 138) (as' := []) (r := []) (o := some (.int r19)) (by omega) rfl rfl rfl (v_mk_kd (k := 0) (rfl : v_kd 138 = 0) (by decide)) rfl (t_Cs_size (rfl : v_kd 138 = 0) e19 (by omega)) ?_
                  show s_Ek (s_rows 3 L xs) D s_e147.1 147 [(6, .ref r13), (5, .ref r11), (4, .int (b - b / (10 : Int32) * (10 : Int32))), (3, .int (b / (10 : Int32))), (0, .ref 0), (1, .int b), (2, .int c)] [.int r19] (v_mk s19) _
                  obtain ⟨rfl, rfl⟩ := v_so h
                  exact v_ret (fun _ => rfl)
              · refine v_i2f (T := 126) rfl rfl c16 ?_
                refine s_ek_bk 1 (P := 110) (ls' := [(6, .ref r13), (5, .ref r11), (4, .int (b - b / (10 : Int32) * (10 : Int32))), (3, .int (b / (10 : Int32))), (0, .ref 0), (1, .int b), (2, .int c)]) (st' := [.ref 0]) (M' := v_mk s15) rfl ?_
                refine v_gf rfl (v_gr (rfl : v_kd 0 = 10) (rfl : v_sl 0 10 = .ref 138) ⟨rfl, rfl, by decide⟩) ?_
                refine s_ek_bk 1 (P := 115) (ls' := [(6, .ref r13), (5, .ref r11), (4, .int (b - b / (10 : Int32) * (10 : Int32))), (3, .int (b / (10 : Int32))), (0, .ref 0), (1, .int b), (2, .int c)]) (st' := [.ref r11, .ref 138]) (M' := v_mk s15) rfl ?_
                refine v_gf rfl (v_gr c12 (v_rK v_r4_5 (by decide) c12).1 ⟨rfl, rfl, by decide⟩) ?_
                refine s_ek_bk 1 (P := 120) (ls' := [(6, .ref r13), (5, .ref r11), (4, .int (b - b / (10 : Int32) * (10 : Int32))), (3, .int (b / (10 : Int32))), (0, .ref 0), (1, .int b), (2, .int c)]) (st' := [.ref r13, .ref (r11 + 4), .ref 138]) (M' := v_mk s15) rfl ?_
                refine v_gf rfl (v_gr c14 (v_rK v_r4_5 (by decide) c14).1 ⟨rfl, rfl, by decide⟩) ?_
                obtain ⟨r20, s20, e20, h⟩ := v_bd h
                refine v_cV (ν := s_e9.1) (w := 74) (a := 138) (as' := [.ref (r11 + 4), .ref (r13 + 4)]) (r := []) (o := none) (by omega) rfl rfl rfl (v_mk_kd (k := 0) (rfl : v_kd 138 = 0) (by decide)) rfl (t_Cs_takeBoth (rfl : v_kd 138 = 0) (v_rK v_r4_5 (by decide) c12).2.1 (v_rK v_r4_5 (by decide) c14).2.1 e20 (by omega)) ?_
                show s_Ek (s_rows 3 L xs) D s_e147.1 126 [(6, .ref r13), (5, .ref r11), (4, .int (b - b / (10 : Int32) * (10 : Int32))), (3, .int (b / (10 : Int32))), (0, .ref 0), (1, .int b), (2, .int c)] [] (v_mk s20) _
                refine s_ek_bk 1 (P := 127) (ls' := [(6, .ref r13), (5, .ref r11), (4, .int (b - b / (10 : Int32) * (10 : Int32))), (3, .int (b / (10 : Int32))), (0, .ref 0), (1, .int b), (2, .int c)]) (st' := [.int c]) (M' := v_mk s20) rfl ?_
                rcases v_if h with ⟨c21, h⟩ | ⟨c21, h⟩
                · refine v_i1f (T := 140) rfl rfl (fun q => q c21) ?_
                  refine s_ek_bk 1 (P := 131) (ls' := [(6, .ref r13), (5, .ref r11), (4, .int (b - b / (10 : Int32) * (10 : Int32))), (3, .int (b / (10 : Int32))), (0, .ref 0), (1, .int b), (2, .int c)]) (st' := [.ref 0]) (M' := v_mk s20) rfl ?_
                  refine v_gf rfl (v_gr (rfl : v_kd 0 = 10) (rfl : v_sl 0 10 = .ref 138) ⟨rfl, rfl, by decide⟩) ?_
                  obtain ⟨r22, s22, e22, h⟩ := v_bd h
                  refine v_cV (ν := s_e11.1) (w := 88) (a := 138) (as' := []) (r := []) (o := some (.int r22)) (by omega) rfl rfl rfl (v_mk_kd (k := 0) (rfl : v_kd 138 = 0) (by decide)) rfl (t_Cs_first (rfl : v_kd 138 = 0) e22 (by omega)) ?_
                  show s_Ek (s_rows 3 L xs) D s_e147.1 137 [(6, .ref r13), (5, .ref r11), (4, .int (b - b / (10 : Int32) * (10 : Int32))), (3, .int (b / (10 : Int32))), (0, .ref 0), (1, .int b), (2, .int c)] [.int r22] (v_mk s22) _
                  refine s_ek_bk 1 (P := 147) (ls' := [(6, .ref r13), (5, .ref r11), (4, .int (b - b / (10 : Int32) * (10 : Int32))), (3, .int (b / (10 : Int32))), (0, .ref 0), (1, .int b), (2, .int c)]) (st' := [.int r22]) (M' := v_mk s22) rfl ?_
                  obtain ⟨rfl, rfl⟩ := v_so h
                  exact v_ret (fun _ => rfl)
                · refine v_i1t (T := 140) rfl rfl c21 ?_
                  refine s_ek_bk 1 (P := 141) (ls' := [(6, .ref r13), (5, .ref r11), (4, .int (b - b / (10 : Int32) * (10 : Int32))), (3, .int (b / (10 : Int32))), (0, .ref 0), (1, .int b), (2, .int c)]) (st' := [.ref 0]) (M' := v_mk s20) rfl ?_
                  refine v_gf rfl (v_gr (rfl : v_kd 0 = 10) (rfl : v_sl 0 10 = .ref 138) ⟨rfl, rfl, by decide⟩) ?_
                  obtain ⟨r23, s23, e23, h⟩ := v_bd h
                  refine v_cV (ν := s_e10.1) (w := 80) (a := 138) (as' := []) (r := []) (o := some (.int r23)) (by omega) rfl rfl rfl (v_mk_kd (k := 0) (rfl : v_kd 138 = 0) (by decide)) rfl (t_Cs_size (rfl : v_kd 138 = 0) e23 (by omega)) ?_
                  show s_Ek (s_rows 3 L xs) D s_e147.1 147 [(6, .ref r13), (5, .ref r11), (4, .int (b - b / (10 : Int32) * (10 : Int32))), (3, .int (b / (10 : Int32))), (0, .ref 0), (1, .int b), (2, .int c)] [.int r23] (v_mk s23) _
                  obtain ⟨rfl, rfl⟩ := v_so h
                  exact v_ret (fun _ => rfl)
noncomputable def f_Ol_refusalOfNew (b : Int32) (c : Int32) (d : Int32) (s : vS) : Option (Int32 × vS) := (v_bi (f_Ol_isDate c s) (fun r1 s1 => (if r1.toInt = 0 then (some ((-1), s1)) else (v_bi (f_Ol_isSaying d s1) (fun r3 s3 => (if r3.toInt = 0 then (some ((-1), s3)) else (v_bi (f_Ol_refusalOfTold b s3) (fun r5 s5 => (some (r5, s5))))))))))
set_option maxRecDepth 20000 in
set_option maxHeartbeats 4000000 in
theorem t_Ol_refusalOfNew {L : Nat} {xs : Nat → Int32} {b : Int32} {c : Int32} {d : Int32} {D : Nat} {r : Int32} {s s' : vS} (h : f_Ol_refusalOfNew b c d s = some (r, s')) (hD : 2 ≤ D) : s_Ek (s_rows 3 L xs) D s_e178.1 0 (lv_args 0 [.ref 0, .int b, .int c, .int d]) [] (v_mk s) (v_Q (some (.int r)) s') := by
  unfold f_Ol_refusalOfNew at h
  show s_Ek (s_rows 3 L xs) D s_e178.1 0 [(0, .ref 0), (1, .int b), (2, .int c), (3, .int d)] [] (v_mk s) _
  refine s_ek_bk 1 (P := 1) (ls' := [(0, .ref 0), (1, .int b), (2, .int c), (3, .int d)]) (st' := [.int c]) (M' := v_mk s) rfl ?_
  obtain ⟨r1, s1, e1, h⟩ := v_bd h
  refine v_cS (ν := s_e169.1) (w := 1353) (as := [.int c]) (r := []) (o := some (.int r1)) (by omega) rfl rfl rfl rfl (t_Ol_isDate e1 (by omega)) ?_
  show s_Ek (s_rows 3 L xs) D s_e178.1 4 [(0, .ref 0), (1, .int b), (2, .int c), (3, .int d)] [.int r1] (v_mk s1) _
  rcases v_if h with ⟨c2, h⟩ | ⟨c2, h⟩
  · refine v_i1t (T := 22) rfl rfl c2 ?_
    refine s_ek_bk 1 (P := 23) (ls' := [(0, .ref 0), (1, .int b), (2, .int c), (3, .int d)]) (st' := [.int (-1)]) (M' := v_mk s1) rfl ?_
    obtain ⟨rfl, rfl⟩ := v_so h
    exact v_ret (fun _ => rfl)
  · refine v_i1f (T := 22) rfl rfl c2 ?_
    refine s_ek_bk 1 (P := 8) (ls' := [(0, .ref 0), (1, .int b), (2, .int c), (3, .int d)]) (st' := [.int d]) (M' := v_mk s1) rfl ?_
    obtain ⟨r3, s3, e3, h⟩ := v_bd h
    refine v_cS (ν := s_e170.1) (w := 1361) (as := [.int d]) (r := []) (o := some (.int r3)) (by omega) rfl rfl rfl rfl (t_Ol_isSaying e3 (by omega)) ?_
    show s_Ek (s_rows 3 L xs) D s_e178.1 11 [(0, .ref 0), (1, .int b), (2, .int c), (3, .int d)] [.int r3] (v_mk s3) _
    rcases v_if h with ⟨c4, h⟩ | ⟨c4, h⟩
    · refine v_i1t (T := 22) rfl rfl c4 ?_
      refine s_ek_bk 1 (P := 23) (ls' := [(0, .ref 0), (1, .int b), (2, .int c), (3, .int d)]) (st' := [.int (-1)]) (M' := v_mk s3) rfl ?_
      obtain ⟨rfl, rfl⟩ := v_so h
      exact v_ret (fun _ => rfl)
    · refine v_i1f (T := 22) rfl rfl c4 ?_
      refine s_ek_bk 2 (P := 16) (ls' := [(0, .ref 0), (1, .int b), (2, .int c), (3, .int d)]) (st' := [.int b, .ref 0]) (M' := v_mk s3) rfl ?_
      obtain ⟨r5, s5, e5, h⟩ := v_bd h
      refine v_cV (ν := s_e177.1) (w := 1417) (a := 0) (as' := [.int b]) (r := []) (o := some (.int r5)) (by omega) rfl rfl rfl (v_mk_kd (k := 10) (rfl : v_kd 0 = 10) (by decide)) rfl (t_Ol_refusalOfTold e5 (by omega)) ?_
      show s_Ek (s_rows 3 L xs) D s_e178.1 19 [(0, .ref 0), (1, .int b), (2, .int c), (3, .int d)] [.int r5] (v_mk s5) _
      refine s_ek_bk 1 (P := 23) (ls' := [(0, .ref 0), (1, .int b), (2, .int c), (3, .int d)]) (st' := [.int r5]) (M' := v_mk s5) rfl ?_
      obtain ⟨rfl, rfl⟩ := v_so h
      exact v_ret (fun _ => rfl)
noncomputable def f_Ol_write (b : Int32) (c : Int32) (d : Int32) (s : vS) : Option (Int32 × vS) := (v_bi (f_Ol_refusalOfNew b c d s) (fun r1 s1 => (if r1.toInt = 0 then (v_bi (f_Ol_shelfAt b s1) (fun r3 s3 => if v_kd r3 = 6 then (v_bi (f_Sh_isAllTwos r3 s3) (fun r5 s5 => (if r5.toInt = 0 then (some ((-2), s5)) else (v_bi (f_Ct_hear s5) (fun _ s7 => (v_bi (f_Wd_prepare (s7.1 8 3) c d s7) (fun _ s8 => (v_bi (f_Wd_firstFitting r3 s8) (fun r9 s9 => (some (r9, s9))))))))))) else none)) else (some (r1, s1)))))
set_option maxRecDepth 20000 in
set_option maxHeartbeats 4000000 in
theorem t_Ol_write {L : Nat} {xs : Nat → Int32} {b : Int32} {c : Int32} {d : Int32} {D : Nat} {r : Int32} {s s' : vS} (h : f_Ol_write b c d s = some (r, s')) (hD : 6 ≤ D) : s_Ek (s_rows 3 L xs) D s_e148.1 0 (lv_args 0 [.ref 0, .int b, .int c, .int d]) [] (v_mk s) (v_Q (some (.int r)) s') := by
  unfold f_Ol_write at h
  show s_Ek (s_rows 3 L xs) D s_e148.1 0 [(0, .ref 0), (1, .int b), (2, .int c), (3, .int d)] [] (v_mk s) _
  refine s_ek_bk 4 (P := 4) (ls' := [(0, .ref 0), (1, .int b), (2, .int c), (3, .int d)]) (st' := [.int d, .int c, .int b, .ref 0]) (M' := v_mk s) rfl ?_
  obtain ⟨r1, s1, e1, h⟩ := v_bd h
  refine v_cV (ν := s_e178.1) (w := 1427) (a := 0) (as' := [.int b, .int c, .int d]) (r := []) (o := some (.int r1)) (by omega) rfl rfl rfl (v_mk_kd (k := 10) (rfl : v_kd 0 = 10) (by decide)) rfl (t_Ol_refusalOfNew e1 (by omega)) ?_
  show s_Ek (s_rows 3 L xs) D s_e148.1 7 [(0, .ref 0), (1, .int b), (2, .int c), (3, .int d)] [.int r1] (v_mk s1) _
  refine s_ek_bk 2 (P := 11) (ls' := [(4, .int r1), (0, .ref 0), (1, .int b), (2, .int c), (3, .int d)]) (st' := [.int r1]) (M' := v_mk s1) rfl ?_
  rcases v_if h with ⟨c2, h⟩ | ⟨c2, h⟩
  · refine v_i1t (T := 17) rfl rfl c2 ?_
    refine s_ek_bk 2 (P := 19) (ls' := [(4, .int r1), (0, .ref 0), (1, .int b), (2, .int c), (3, .int d)]) (st' := [.int b, .ref 0]) (M' := v_mk s1) rfl ?_
    obtain ⟨r3, s3, e3, h⟩ := v_bd h
    refine v_cV (ν := s_e176.1) (w := 1409) (a := 0) (as' := [.int b]) (r := []) (o := some (.ref r3)) (by omega) rfl rfl rfl (v_mk_kd (k := 10) (rfl : v_kd 0 = 10) (by decide)) rfl (t_Ol_shelfAt e3 (by omega)) ?_
    obtain ⟨c4, h⟩ := v_ck h
    show s_Ek (s_rows 3 L xs) D s_e148.1 22 [(4, .int r1), (0, .ref 0), (1, .int b), (2, .int c), (3, .int d)] [.ref r3] (v_mk s3) _
    refine s_ek_bk 2 (P := 26) (ls' := [(5, .ref r3), (4, .int r1), (0, .ref 0), (1, .int b), (2, .int c), (3, .int d)]) (st' := [.ref r3]) (M' := v_mk s3) rfl ?_
    obtain ⟨r5, s5, e5, h⟩ := v_bd h
    refine v_cV (ν := s_e96.1) (w := 768) (a := r3) (as' := []) (r := []) (o := some (.int r5)) (by omega) rfl rfl rfl (v_mk_kd (k := 6) c4 (by decide)) rfl (t_Sh_isAllTwos c4 e5 (by omega)) ?_
    show s_Ek (s_rows 3 L xs) D s_e148.1 29 [(5, .ref r3), (4, .int r1), (0, .ref 0), (1, .int b), (2, .int c), (3, .int d)] [.int r5] (v_mk s5) _
    rcases v_if h with ⟨c6, h⟩ | ⟨c6, h⟩
    · refine v_i1f (T := 35) rfl rfl (fun q => q c6) ?_
      refine s_ek_bk 1 (P := 34) (ls' := [(5, .ref r3), (4, .int r1), (0, .ref 0), (1, .int b), (2, .int c), (3, .int d)]) (st' := [.int (-2)]) (M' := v_mk s5) rfl ?_
      obtain ⟨rfl, rfl⟩ := v_so h
      exact v_ret (fun _ => rfl)
    · refine v_i1t (T := 35) rfl rfl c6 ?_
      refine s_ek_bk 1 (P := 36) (ls' := [(5, .ref r3), (4, .int r1), (0, .ref 0), (1, .int b), (2, .int c), (3, .int d)]) (st' := [.ref 0]) (M' := v_mk s5) rfl ?_
      refine v_gf rfl (v_gr (rfl : v_kd 0 = 10) (rfl : v_sl 0 4 = .ref 8) ⟨rfl, rfl, by decide⟩) ?_
      obtain ⟨r7, s7, e7, h⟩ := v_bd h
      refine v_cV (ν := s_e48.1) (w := 384) (a := 8) (as' := []) (r := []) (o := none) (by omega) rfl rfl rfl (v_mk_kd (k := 3) (rfl : v_kd 8 = 3) (by decide)) rfl (t_Ct_hear e7 (by omega)) ?_
      show s_Ek (s_rows 3 L xs) D s_e148.1 42 [(5, .ref r3), (4, .int r1), (0, .ref 0), (1, .int b), (2, .int c), (3, .int d)] [] (v_mk s7) _
      refine s_ek_bk 1 (P := 43) (ls' := [(5, .ref r3), (4, .int r1), (0, .ref 0), (1, .int b), (2, .int c), (3, .int d)]) (st' := [.ref 0]) (M' := v_mk s7) rfl ?_
      refine v_gf rfl (v_gr (rfl : v_kd 0 = 10) (rfl : v_sl 0 6 = .ref 78) ⟨rfl, rfl, by decide⟩) ?_
      refine s_ek_bk 1 (P := 47) (ls' := [(5, .ref r3), (4, .int r1), (0, .ref 0), (1, .int b), (2, .int c), (3, .int d)]) (st' := [.ref 0, .ref 78]) (M' := v_mk s7) rfl ?_
      refine v_gf rfl (v_gr (rfl : v_kd 0 = 10) (rfl : v_sl 0 4 = .ref 8) ⟨rfl, rfl, by decide⟩) ?_
      refine v_gf rfl (v_gr (rfl : v_kd 8 = 3) (rfl : v_sl 8 0 = .ref 9) ⟨rfl, rfl, by decide⟩) ?_
      refine s_ek_bk 1 (P := 54) (ls' := [(5, .ref r3), (4, .int r1), (0, .ref 0), (1, .int b), (2, .int c), (3, .int d)]) (st' := [.ref 0, .ref 9, .ref 78]) (M' := v_mk s7) rfl ?_
      refine v_gf rfl (v_gr (rfl : v_kd 0 = 10) (rfl : v_sl 0 4 = .ref 8) ⟨rfl, rfl, by decide⟩) ?_
      refine v_gf rfl (v_gi (rfl : v_kd 8 = 3) rfl ⟨rfl, rfl, by decide⟩) ?_
      refine s_ek_bk 2 (P := 62) (ls' := [(5, .ref r3), (4, .int r1), (0, .ref 0), (1, .int b), (2, .int c), (3, .int d)]) (st' := [.int d, .int c, .int (s7.1 8 3), .ref 9, .ref 78]) (M' := v_mk s7) rfl ?_
      obtain ⟨r8, s8, e8, h⟩ := v_bd h
      refine v_cV (ν := s_e113.1) (w := 908) (a := 78) (as' := [.ref 9, .int (s7.1 8 3), .int c, .int d]) (r := []) (o := none) (by omega) rfl rfl rfl (v_mk_kd (k := 8) (rfl : v_kd 78 = 8) (by decide)) rfl (t_Wd_prepare e8 (by omega)) ?_
      show s_Ek (s_rows 3 L xs) D s_e148.1 65 [(5, .ref r3), (4, .int r1), (0, .ref 0), (1, .int b), (2, .int c), (3, .int d)] [] (v_mk s8) _
      refine s_ek_bk 1 (P := 66) (ls' := [(5, .ref r3), (4, .int r1), (0, .ref 0), (1, .int b), (2, .int c), (3, .int d)]) (st' := [.ref 0]) (M' := v_mk s8) rfl ?_
      refine v_gf rfl (v_gr (rfl : v_kd 0 = 10) (rfl : v_sl 0 6 = .ref 78) ⟨rfl, rfl, by decide⟩) ?_
      refine s_ek_bk 2 (P := 72) (ls' := [(5, .ref r3), (4, .int r1), (0, .ref 0), (1, .int b), (2, .int c), (3, .int d)]) (st' := [.ref 0, .ref r3, .ref 78]) (M' := v_mk s8) rfl ?_
      refine v_gf rfl (v_gr (rfl : v_kd 0 = 10) (rfl : v_sl 0 4 = .ref 8) ⟨rfl, rfl, by decide⟩) ?_
      obtain ⟨r9, s9, e9, h⟩ := v_bd h
      refine v_cV (ν := s_e120.1) (w := 962) (a := 78) (as' := [.ref r3, .ref 8]) (r := []) (o := some (.int r9)) (by omega) rfl rfl rfl (v_mk_kd (k := 8) (rfl : v_kd 78 = 8) (by decide)) rfl (t_Wd_firstFitting c4 e9 (by omega)) ?_
      show s_Ek (s_rows 3 L xs) D s_e148.1 78 [(5, .ref r3), (4, .int r1), (0, .ref 0), (1, .int b), (2, .int c), (3, .int d)] [.int r9] (v_mk s9) _
      obtain ⟨rfl, rfl⟩ := v_so h
      exact v_ret (fun _ => rfl)
  · refine v_i1f (T := 17) rfl rfl c2 ?_
    refine s_ek_bk 1 (P := 16) (ls' := [(4, .int r1), (0, .ref 0), (1, .int b), (2, .int c), (3, .int d)]) (st' := [.int r1]) (M' := v_mk s1) rfl ?_
    obtain ⟨rfl, rfl⟩ := v_so h
    exact v_ret (fun _ => rfl)
noncomputable def f_Ol_bars (b : Int32) (c : Int32) (d : Int32) (s : vS) : Option (Int32 × vS) := (v_bi (f_Ol_refusalOfNew b c d s) (fun r1 s1 => (if r1.toInt = 0 then (v_bi (f_Ct_hear s1) (fun _ s3 => (v_bi (f_Wd_prepare (s3.1 8 3) c d s3) (fun _ s4 => (v_bi (f_Ol_shelfAt b s4) (fun r5 s5 => if v_kd r5 = 6 then (v_bi (f_Wd_barring r5 s5) (fun r7 s7 => v_on r7 (some ((-2), s7)) (fun b8 => if v_kd b8 = 4 then (some ((s7.1 b8 0), s7)) else none))) else none)))))) else (some (r1, s1)))))
set_option maxRecDepth 20000 in
set_option maxHeartbeats 4000000 in
theorem t_Ol_bars {L : Nat} {xs : Nat → Int32} {b : Int32} {c : Int32} {d : Int32} {D : Nat} {r : Int32} {s s' : vS} (h : f_Ol_bars b c d s = some (r, s')) (hD : 7 ≤ D) : s_Ek (s_rows 3 L xs) D s_e149.1 0 (lv_args 0 [.ref 0, .int b, .int c, .int d]) [] (v_mk s) (v_Q (some (.int r)) s') := by
  unfold f_Ol_bars at h
  show s_Ek (s_rows 3 L xs) D s_e149.1 0 [(0, .ref 0), (1, .int b), (2, .int c), (3, .int d)] [] (v_mk s) _
  refine s_ek_bk 4 (P := 4) (ls' := [(0, .ref 0), (1, .int b), (2, .int c), (3, .int d)]) (st' := [.int d, .int c, .int b, .ref 0]) (M' := v_mk s) rfl ?_
  obtain ⟨r1, s1, e1, h⟩ := v_bd h
  refine v_cV (ν := s_e178.1) (w := 1427) (a := 0) (as' := [.int b, .int c, .int d]) (r := []) (o := some (.int r1)) (by omega) rfl rfl rfl (v_mk_kd (k := 10) (rfl : v_kd 0 = 10) (by decide)) rfl (t_Ol_refusalOfNew e1 (by omega)) ?_
  show s_Ek (s_rows 3 L xs) D s_e149.1 7 [(0, .ref 0), (1, .int b), (2, .int c), (3, .int d)] [.int r1] (v_mk s1) _
  refine s_ek_bk 2 (P := 11) (ls' := [(4, .int r1), (0, .ref 0), (1, .int b), (2, .int c), (3, .int d)]) (st' := [.int r1]) (M' := v_mk s1) rfl ?_
  rcases v_if h with ⟨c2, h⟩ | ⟨c2, h⟩
  · refine v_i1t (T := 17) rfl rfl c2 ?_
    refine s_ek_bk 1 (P := 18) (ls' := [(4, .int r1), (0, .ref 0), (1, .int b), (2, .int c), (3, .int d)]) (st' := [.ref 0]) (M' := v_mk s1) rfl ?_
    refine v_gf rfl (v_gr (rfl : v_kd 0 = 10) (rfl : v_sl 0 4 = .ref 8) ⟨rfl, rfl, by decide⟩) ?_
    obtain ⟨r3, s3, e3, h⟩ := v_bd h
    refine v_cV (ν := s_e48.1) (w := 384) (a := 8) (as' := []) (r := []) (o := none) (by omega) rfl rfl rfl (v_mk_kd (k := 3) (rfl : v_kd 8 = 3) (by decide)) rfl (t_Ct_hear e3 (by omega)) ?_
    show s_Ek (s_rows 3 L xs) D s_e149.1 24 [(4, .int r1), (0, .ref 0), (1, .int b), (2, .int c), (3, .int d)] [] (v_mk s3) _
    refine s_ek_bk 1 (P := 25) (ls' := [(4, .int r1), (0, .ref 0), (1, .int b), (2, .int c), (3, .int d)]) (st' := [.ref 0]) (M' := v_mk s3) rfl ?_
    refine v_gf rfl (v_gr (rfl : v_kd 0 = 10) (rfl : v_sl 0 6 = .ref 78) ⟨rfl, rfl, by decide⟩) ?_
    refine s_ek_bk 1 (P := 29) (ls' := [(4, .int r1), (0, .ref 0), (1, .int b), (2, .int c), (3, .int d)]) (st' := [.ref 0, .ref 78]) (M' := v_mk s3) rfl ?_
    refine v_gf rfl (v_gr (rfl : v_kd 0 = 10) (rfl : v_sl 0 4 = .ref 8) ⟨rfl, rfl, by decide⟩) ?_
    refine v_gf rfl (v_gr (rfl : v_kd 8 = 3) (rfl : v_sl 8 0 = .ref 9) ⟨rfl, rfl, by decide⟩) ?_
    refine s_ek_bk 1 (P := 36) (ls' := [(4, .int r1), (0, .ref 0), (1, .int b), (2, .int c), (3, .int d)]) (st' := [.ref 0, .ref 9, .ref 78]) (M' := v_mk s3) rfl ?_
    refine v_gf rfl (v_gr (rfl : v_kd 0 = 10) (rfl : v_sl 0 4 = .ref 8) ⟨rfl, rfl, by decide⟩) ?_
    refine v_gf rfl (v_gi (rfl : v_kd 8 = 3) rfl ⟨rfl, rfl, by decide⟩) ?_
    refine s_ek_bk 2 (P := 44) (ls' := [(4, .int r1), (0, .ref 0), (1, .int b), (2, .int c), (3, .int d)]) (st' := [.int d, .int c, .int (s3.1 8 3), .ref 9, .ref 78]) (M' := v_mk s3) rfl ?_
    obtain ⟨r4, s4, e4, h⟩ := v_bd h
    refine v_cV (ν := s_e113.1) (w := 908) (a := 78) (as' := [.ref 9, .int (s3.1 8 3), .int c, .int d]) (r := []) (o := none) (by omega) rfl rfl rfl (v_mk_kd (k := 8) (rfl : v_kd 78 = 8) (by decide)) rfl (t_Wd_prepare e4 (by omega)) ?_
    show s_Ek (s_rows 3 L xs) D s_e149.1 47 [(4, .int r1), (0, .ref 0), (1, .int b), (2, .int c), (3, .int d)] [] (v_mk s4) _
    refine s_ek_bk 1 (P := 48) (ls' := [(4, .int r1), (0, .ref 0), (1, .int b), (2, .int c), (3, .int d)]) (st' := [.ref 0]) (M' := v_mk s4) rfl ?_
    refine v_gf rfl (v_gr (rfl : v_kd 0 = 10) (rfl : v_sl 0 6 = .ref 78) ⟨rfl, rfl, by decide⟩) ?_
    refine s_ek_bk 2 (P := 53) (ls' := [(4, .int r1), (0, .ref 0), (1, .int b), (2, .int c), (3, .int d)]) (st' := [.int b, .ref 0, .ref 78]) (M' := v_mk s4) rfl ?_
    obtain ⟨r5, s5, e5, h⟩ := v_bd h
    refine v_cV (ν := s_e176.1) (w := 1409) (a := 0) (as' := [.int b]) (r := [.ref 78]) (o := some (.ref r5)) (by omega) rfl rfl rfl (v_mk_kd (k := 10) (rfl : v_kd 0 = 10) (by decide)) rfl (t_Ol_shelfAt e5 (by omega)) ?_
    obtain ⟨c6, h⟩ := v_ck h
    show s_Ek (s_rows 3 L xs) D s_e149.1 56 [(4, .int r1), (0, .ref 0), (1, .int b), (2, .int c), (3, .int d)] [.ref r5, .ref 78] (v_mk s5) _
    refine s_ek_bk 1 (P := 57) (ls' := [(4, .int r1), (0, .ref 0), (1, .int b), (2, .int c), (3, .int d)]) (st' := [.ref 0, .ref r5, .ref 78]) (M' := v_mk s5) rfl ?_
    refine v_gf rfl (v_gr (rfl : v_kd 0 = 10) (rfl : v_sl 0 4 = .ref 8) ⟨rfl, rfl, by decide⟩) ?_
    obtain ⟨r7, s7, e7, h⟩ := v_bd h
    refine v_cV (ν := s_e123.1) (w := 986) (a := 78) (as' := [.ref r5, .ref 8]) (r := []) (o := some (v_nu r7)) (by omega) rfl rfl rfl (v_mk_kd (k := 8) (rfl : v_kd 78 = 8) (by decide)) rfl (t_Wd_barring c6 e7 (by omega)) ?_
    rcases v_od h with ⟨rfl, hz10⟩ | ⟨b8, rfl, hz10⟩
    · have h := hz10
      show s_Ek (s_rows 3 L xs) D s_e149.1 63 [(4, .int r1), (0, .ref 0), (1, .int b), (2, .int c), (3, .int d)] [.null] (v_mk s7) _
      refine s_ek_bk 5 (P := 80) (ls' := [(5, .null), (4, .int r1), (0, .ref 0), (1, .int b), (2, .int c), (3, .int d)]) (st' := [.int (-2)]) (M' := v_mk s7) rfl ?_
      obtain ⟨rfl, rfl⟩ := v_so h
      exact v_ret (fun _ => rfl)
    · have h := hz10
      obtain ⟨c9, h⟩ := v_ck h
      show s_Ek (s_rows 3 L xs) D s_e149.1 63 [(4, .int r1), (0, .ref 0), (1, .int b), (2, .int c), (3, .int d)] [.ref b8] (v_mk s7) _
      refine s_ek_bk 4 (P := 77) (ls' := [(5, .ref b8), (4, .int r1), (0, .ref 0), (1, .int b), (2, .int c), (3, .int d)]) (st' := [.ref b8]) (M' := v_mk s7) rfl ?_
      refine v_gf rfl (v_gi c9 (v_tK (j := 0) v_is4 (by decide) c9) ⟨rfl, rfl, by decide⟩) ?_
      obtain ⟨rfl, rfl⟩ := v_so h
      exact v_ret (fun _ => rfl)
  · refine v_i1f (T := 17) rfl rfl c2 ?_
    refine s_ek_bk 1 (P := 16) (ls' := [(4, .int r1), (0, .ref 0), (1, .int b), (2, .int c), (3, .int d)]) (st' := [.int r1]) (M' := v_mk s1) rfl ?_
    obtain ⟨rfl, rfl⟩ := v_so h
    exact v_ret (fun _ => rfl)
noncomputable def f_Ol_meant (b : Int32) (c : Int32) (s : vS) : Option (Int32 × vS) := (v_bi (f_Ol_isWord b s) (fun r1 s1 => (if r1.toInt = 0 then (some ((-1), s1)) else (v_bi (f_Ol_isEither c s1) (fun r3 s3 => (if r3.toInt = 0 then (some ((-1), s3)) else (v_bi (f_Ct_hear s3) (fun _ s5 => (v_bi (f_Ct_rememberVerdicts s5) (fun _ s6 => (v_bi (f_Ws_to b s6) (fun r7 s7 => (v_bi (f_Ws_from b s7) (fun r8 s8 => (v_bi (f_Ws_move b (-1) 0 s8) (fun _ s9 => (v_bi (f_Ct_hear s9) (fun _ s10 => (v_bi (f_Ct_findChanged 138 s10) (fun _ s11 => (v_bi (f_Ws_move b r7 r8 s11) (fun _ s12 => (if c.toInt = 0 then (v_bi (f_Cs_size 138 s12) (fun r14 s14 => (some (r14, s14)))) else (v_bi (f_Cs_first 138 s12) (fun r15 s15 => (some (r15, s15)))))))))))))))))))))))))))
set_option maxRecDepth 20000 in
set_option maxHeartbeats 4000000 in
theorem t_Ol_meant {L : Nat} {xs : Nat → Int32} {b : Int32} {c : Int32} {D : Nat} {r : Int32} {s s' : vS} (h : f_Ol_meant b c s = some (r, s')) (hD : 6 ≤ D) : s_Ek (s_rows 3 L xs) D s_e150.1 0 (lv_args 0 [.ref 0, .int b, .int c]) [] (v_mk s) (v_Q (some (.int r)) s') := by
  unfold f_Ol_meant at h
  show s_Ek (s_rows 3 L xs) D s_e150.1 0 [(0, .ref 0), (1, .int b), (2, .int c)] [] (v_mk s) _
  refine s_ek_bk 1 (P := 1) (ls' := [(0, .ref 0), (1, .int b), (2, .int c)]) (st' := [.int b]) (M' := v_mk s) rfl ?_
  obtain ⟨r1, s1, e1, h⟩ := v_bd h
  refine v_cS (ν := s_e172.1) (w := 1377) (as := [.int b]) (r := []) (o := some (.int r1)) (by omega) rfl rfl rfl rfl (t_Ol_isWord e1 (by omega)) ?_
  show s_Ek (s_rows 3 L xs) D s_e150.1 4 [(0, .ref 0), (1, .int b), (2, .int c)] [.int r1] (v_mk s1) _
  rcases v_if h with ⟨c2, h⟩ | ⟨c2, h⟩
  · refine v_i1t (T := 14) rfl rfl c2 ?_
    refine s_ek_bk 1 (P := 15) (ls' := [(0, .ref 0), (1, .int b), (2, .int c)]) (st' := [.int (-1)]) (M' := v_mk s1) rfl ?_
    obtain ⟨rfl, rfl⟩ := v_so h
    exact v_ret (fun _ => rfl)
  · refine v_i1f (T := 14) rfl rfl c2 ?_
    refine s_ek_bk 1 (P := 8) (ls' := [(0, .ref 0), (1, .int b), (2, .int c)]) (st' := [.int c]) (M' := v_mk s1) rfl ?_
    obtain ⟨r3, s3, e3, h⟩ := v_bd h
    refine v_cS (ν := s_e174.1) (w := 1393) (as := [.int c]) (r := []) (o := some (.int r3)) (by omega) rfl rfl rfl rfl (t_Ol_isEither e3 (by omega)) ?_
    show s_Ek (s_rows 3 L xs) D s_e150.1 11 [(0, .ref 0), (1, .int b), (2, .int c)] [.int r3] (v_mk s3) _
    rcases v_if h with ⟨c4, h⟩ | ⟨c4, h⟩
    · refine v_i1f (T := 16) rfl rfl (fun q => q c4) ?_
      refine s_ek_bk 1 (P := 15) (ls' := [(0, .ref 0), (1, .int b), (2, .int c)]) (st' := [.int (-1)]) (M' := v_mk s3) rfl ?_
      obtain ⟨rfl, rfl⟩ := v_so h
      exact v_ret (fun _ => rfl)
    · refine v_i1t (T := 16) rfl rfl c4 ?_
      refine s_ek_bk 1 (P := 17) (ls' := [(0, .ref 0), (1, .int b), (2, .int c)]) (st' := [.ref 0]) (M' := v_mk s3) rfl ?_
      refine v_gf rfl (v_gr (rfl : v_kd 0 = 10) (rfl : v_sl 0 4 = .ref 8) ⟨rfl, rfl, by decide⟩) ?_
      obtain ⟨r5, s5, e5, h⟩ := v_bd h
      refine v_cV (ν := s_e48.1) (w := 384) (a := 8) (as' := []) (r := []) (o := none) (by omega) rfl rfl rfl (v_mk_kd (k := 3) (rfl : v_kd 8 = 3) (by decide)) rfl (t_Ct_hear e5 (by omega)) ?_
      show s_Ek (s_rows 3 L xs) D s_e150.1 23 [(0, .ref 0), (1, .int b), (2, .int c)] [] (v_mk s5) _
      refine s_ek_bk 1 (P := 24) (ls' := [(0, .ref 0), (1, .int b), (2, .int c)]) (st' := [.ref 0]) (M' := v_mk s5) rfl ?_
      refine v_gf rfl (v_gr (rfl : v_kd 0 = 10) (rfl : v_sl 0 4 = .ref 8) ⟨rfl, rfl, by decide⟩) ?_
      obtain ⟨r6, s6, e6, h⟩ := v_bd h
      refine v_cV (ν := s_e57.1) (w := 456) (a := 8) (as' := []) (r := []) (o := none) (by omega) rfl rfl rfl (v_mk_kd (k := 3) (rfl : v_kd 8 = 3) (by decide)) rfl (t_Ct_rememberVerdicts e6 (by omega)) ?_
      show s_Ek (s_rows 3 L xs) D s_e150.1 30 [(0, .ref 0), (1, .int b), (2, .int c)] [] (v_mk s6) _
      refine s_ek_bk 1 (P := 31) (ls' := [(0, .ref 0), (1, .int b), (2, .int c)]) (st' := [.ref 0]) (M' := v_mk s6) rfl ?_
      refine v_gf rfl (v_gr (rfl : v_kd 0 = 10) (rfl : v_sl 0 4 = .ref 8) ⟨rfl, rfl, by decide⟩) ?_
      refine v_gf rfl (v_gr (rfl : v_kd 8 = 3) (rfl : v_sl 8 0 = .ref 9) ⟨rfl, rfl, by decide⟩) ?_
      refine s_ek_bk 3 (P := 40) (ls' := [(3, .ref 9), (0, .ref 0), (1, .int b), (2, .int c)]) (st' := [.int b, .ref 9]) (M' := v_mk s6) rfl ?_
      obtain ⟨r7, s7, e7, h⟩ := v_bd h
      refine v_cV (ν := s_e128.1) (w := 1025) (a := 9) (as' := [.int b]) (r := []) (o := some (.int r7)) (by omega) rfl rfl rfl (v_mk_kd (k := 9) (rfl : v_kd 9 = 9) (by decide)) rfl (t_Ws_to e7 (by omega)) ?_
      show s_Ek (s_rows 3 L xs) D s_e150.1 43 [(3, .ref 9), (0, .ref 0), (1, .int b), (2, .int c)] [.int r7] (v_mk s7) _
      refine s_ek_bk 3 (P := 47) (ls' := [(4, .int r7), (3, .ref 9), (0, .ref 0), (1, .int b), (2, .int c)]) (st' := [.int b, .ref 9]) (M' := v_mk s7) rfl ?_
      obtain ⟨r8, s8, e8, h⟩ := v_bd h
      refine v_cV (ν := s_e129.1) (w := 1033) (a := 9) (as' := [.int b]) (r := []) (o := some (.int r8)) (by omega) rfl rfl rfl (v_mk_kd (k := 9) (rfl : v_kd 9 = 9) (by decide)) rfl (t_Ws_from e8 (by omega)) ?_
      show s_Ek (s_rows 3 L xs) D s_e150.1 50 [(4, .int r7), (3, .ref 9), (0, .ref 0), (1, .int b), (2, .int c)] [.int r8] (v_mk s8) _
      refine s_ek_bk 5 (P := 56) (ls' := [(5, .int r8), (4, .int r7), (3, .ref 9), (0, .ref 0), (1, .int b), (2, .int c)]) (st' := [.int 0, .int (-1), .int b, .ref 9]) (M' := v_mk s8) rfl ?_
      obtain ⟨r9, s9, e9, h⟩ := v_bd h
      refine v_cV (ν := s_e127.1) (w := 1019) (a := 9) (as' := [.int b, .int (-1), .int 0]) (r := []) (o := none) (by omega) rfl rfl rfl (v_mk_kd (k := 9) (rfl : v_kd 9 = 9) (by decide)) rfl (t_Ws_move e9 (by omega)) ?_
      show s_Ek (s_rows 3 L xs) D s_e150.1 59 [(5, .int r8), (4, .int r7), (3, .ref 9), (0, .ref 0), (1, .int b), (2, .int c)] [] (v_mk s9) _
      refine s_ek_bk 1 (P := 60) (ls' := [(5, .int r8), (4, .int r7), (3, .ref 9), (0, .ref 0), (1, .int b), (2, .int c)]) (st' := [.ref 0]) (M' := v_mk s9) rfl ?_
      refine v_gf rfl (v_gr (rfl : v_kd 0 = 10) (rfl : v_sl 0 4 = .ref 8) ⟨rfl, rfl, by decide⟩) ?_
      obtain ⟨r10, s10, e10, h⟩ := v_bd h
      refine v_cV (ν := s_e48.1) (w := 384) (a := 8) (as' := []) (r := []) (o := none) (by omega) rfl rfl rfl (v_mk_kd (k := 3) (rfl : v_kd 8 = 3) (by decide)) rfl (t_Ct_hear e10 (by omega)) ?_
      show s_Ek (s_rows 3 L xs) D s_e150.1 66 [(5, .int r8), (4, .int r7), (3, .ref 9), (0, .ref 0), (1, .int b), (2, .int c)] [] (v_mk s10) _
      refine s_ek_bk 1 (P := 67) (ls' := [(5, .int r8), (4, .int r7), (3, .ref 9), (0, .ref 0), (1, .int b), (2, .int c)]) (st' := [.ref 0]) (M' := v_mk s10) rfl ?_
      refine v_gf rfl (v_gr (rfl : v_kd 0 = 10) (rfl : v_sl 0 4 = .ref 8) ⟨rfl, rfl, by decide⟩) ?_
      refine s_ek_bk 1 (P := 71) (ls' := [(5, .int r8), (4, .int r7), (3, .ref 9), (0, .ref 0), (1, .int b), (2, .int c)]) (st' := [.ref 0, .ref 8]) (M' := v_mk s10) rfl ?_
      refine v_gf rfl (v_gr (rfl : v_kd 0 = 10) (rfl : v_sl 0 10 = .ref 138) ⟨rfl, rfl, by decide⟩) ?_
      obtain ⟨r11, s11, e11, h⟩ := v_bd h
      refine v_cV (ν := s_e58.1) (w := 465) (a := 8) (as' := [.ref 138]) (r := []) (o := none) (by omega) rfl rfl rfl (v_mk_kd (k := 3) (rfl : v_kd 8 = 3) (by decide)) rfl (t_Ct_findChanged (rfl : v_kd 138 = 0) e11 (by omega)) ?_
      show s_Ek (s_rows 3 L xs) D s_e150.1 77 [(5, .int r8), (4, .int r7), (3, .ref 9), (0, .ref 0), (1, .int b), (2, .int c)] [] (v_mk s11) _
      refine s_ek_bk 4 (P := 83) (ls' := [(5, .int r8), (4, .int r7), (3, .ref 9), (0, .ref 0), (1, .int b), (2, .int c)]) (st' := [.int r8, .int r7, .int b, .ref 9]) (M' := v_mk s11) rfl ?_
      obtain ⟨r12, s12, e12, h⟩ := v_bd h
      refine v_cV (ν := s_e127.1) (w := 1019) (a := 9) (as' := [.int b, .int r7, .int r8]) (r := []) (o := none) (by omega) rfl rfl rfl (v_mk_kd (k := 9) (rfl : v_kd 9 = 9) (by decide)) rfl (t_Ws_move e12 (by omega)) ?_
      show s_Ek (s_rows 3 L xs) D s_e150.1 86 [(5, .int r8), (4, .int r7), (3, .ref 9), (0, .ref 0), (1, .int b), (2, .int c)] [] (v_mk s12) _
      refine s_ek_bk 1 (P := 87) (ls' := [(5, .int r8), (4, .int r7), (3, .ref 9), (0, .ref 0), (1, .int b), (2, .int c)]) (st' := [.int c]) (M' := v_mk s12) rfl ?_
      rcases v_if h with ⟨c13, h⟩ | ⟨c13, h⟩
      · refine v_i1f (T := 100) rfl rfl (fun q => q c13) ?_
        refine s_ek_bk 1 (P := 91) (ls' := [(5, .int r8), (4, .int r7), (3, .ref 9), (0, .ref 0), (1, .int b), (2, .int c)]) (st' := [.ref 0]) (M' := v_mk s12) rfl ?_
        refine v_gf rfl (v_gr (rfl : v_kd 0 = 10) (rfl : v_sl 0 10 = .ref 138) ⟨rfl, rfl, by decide⟩) ?_
        obtain ⟨r14, s14, e14, h⟩ := v_bd h
        refine v_cV (ν := s_e10.1) (w := 80) (a := 138) (as' := []) (r := []) (o := some (.int r14)) (by omega) rfl rfl rfl (v_mk_kd (k := 0) (rfl : v_kd 138 = 0) (by decide)) rfl (t_Cs_size (rfl : v_kd 138 = 0) e14 (by omega)) ?_
        show s_Ek (s_rows 3 L xs) D s_e150.1 97 [(5, .int r8), (4, .int r7), (3, .ref 9), (0, .ref 0), (1, .int b), (2, .int c)] [.int r14] (v_mk s14) _
        refine s_ek_bk 1 (P := 107) (ls' := [(5, .int r8), (4, .int r7), (3, .ref 9), (0, .ref 0), (1, .int b), (2, .int c)]) (st' := [.int r14]) (M' := v_mk s14) rfl ?_
        obtain ⟨rfl, rfl⟩ := v_so h
        exact v_ret (fun _ => rfl)
      · refine v_i1t (T := 100) rfl rfl c13 ?_
        refine s_ek_bk 1 (P := 101) (ls' := [(5, .int r8), (4, .int r7), (3, .ref 9), (0, .ref 0), (1, .int b), (2, .int c)]) (st' := [.ref 0]) (M' := v_mk s12) rfl ?_
        refine v_gf rfl (v_gr (rfl : v_kd 0 = 10) (rfl : v_sl 0 10 = .ref 138) ⟨rfl, rfl, by decide⟩) ?_
        obtain ⟨r15, s15, e15, h⟩ := v_bd h
        refine v_cV (ν := s_e11.1) (w := 88) (a := 138) (as' := []) (r := []) (o := some (.int r15)) (by omega) rfl rfl rfl (v_mk_kd (k := 0) (rfl : v_kd 138 = 0) (by decide)) rfl (t_Cs_first (rfl : v_kd 138 = 0) e15 (by omega)) ?_
        show s_Ek (s_rows 3 L xs) D s_e150.1 107 [(5, .int r8), (4, .int r7), (3, .ref 9), (0, .ref 0), (1, .int b), (2, .int c)] [.int r15] (v_mk s15) _
        obtain ⟨rfl, rfl⟩ := v_so h
        exact v_ret (fun _ => rfl)
noncomputable def f_In_bitCount (b : Int32) (s : vS) : Option (Int32 × vS) := (some (((((((((b - ((((Int32.toUInt32 b) >>> ((Int32.toUInt32 (1 : Int32)) &&& Int32.toUInt32 31)).toInt32) &&& (1431655765 : Int32))) &&& (858993459 : Int32)) + ((((Int32.toUInt32 (b - ((((Int32.toUInt32 b) >>> ((Int32.toUInt32 (1 : Int32)) &&& Int32.toUInt32 31)).toInt32) &&& (1431655765 : Int32)))) >>> ((Int32.toUInt32 (2 : Int32)) &&& Int32.toUInt32 31)).toInt32) &&& (858993459 : Int32))) + (((Int32.toUInt32 (((b - ((((Int32.toUInt32 b) >>> ((Int32.toUInt32 (1 : Int32)) &&& Int32.toUInt32 31)).toInt32) &&& (1431655765 : Int32))) &&& (858993459 : Int32)) + ((((Int32.toUInt32 (b - ((((Int32.toUInt32 b) >>> ((Int32.toUInt32 (1 : Int32)) &&& Int32.toUInt32 31)).toInt32) &&& (1431655765 : Int32)))) >>> ((Int32.toUInt32 (2 : Int32)) &&& Int32.toUInt32 31)).toInt32) &&& (858993459 : Int32)))) >>> ((Int32.toUInt32 (4 : Int32)) &&& Int32.toUInt32 31)).toInt32)) &&& (252645135 : Int32)) + (((Int32.toUInt32 (((((b - ((((Int32.toUInt32 b) >>> ((Int32.toUInt32 (1 : Int32)) &&& Int32.toUInt32 31)).toInt32) &&& (1431655765 : Int32))) &&& (858993459 : Int32)) + ((((Int32.toUInt32 (b - ((((Int32.toUInt32 b) >>> ((Int32.toUInt32 (1 : Int32)) &&& Int32.toUInt32 31)).toInt32) &&& (1431655765 : Int32)))) >>> ((Int32.toUInt32 (2 : Int32)) &&& Int32.toUInt32 31)).toInt32) &&& (858993459 : Int32))) + (((Int32.toUInt32 (((b - ((((Int32.toUInt32 b) >>> ((Int32.toUInt32 (1 : Int32)) &&& Int32.toUInt32 31)).toInt32) &&& (1431655765 : Int32))) &&& (858993459 : Int32)) + ((((Int32.toUInt32 (b - ((((Int32.toUInt32 b) >>> ((Int32.toUInt32 (1 : Int32)) &&& Int32.toUInt32 31)).toInt32) &&& (1431655765 : Int32)))) >>> ((Int32.toUInt32 (2 : Int32)) &&& Int32.toUInt32 31)).toInt32) &&& (858993459 : Int32)))) >>> ((Int32.toUInt32 (4 : Int32)) &&& Int32.toUInt32 31)).toInt32)) &&& (252645135 : Int32))) >>> ((Int32.toUInt32 (8 : Int32)) &&& Int32.toUInt32 31)).toInt32)) + (((Int32.toUInt32 ((((((b - ((((Int32.toUInt32 b) >>> ((Int32.toUInt32 (1 : Int32)) &&& Int32.toUInt32 31)).toInt32) &&& (1431655765 : Int32))) &&& (858993459 : Int32)) + ((((Int32.toUInt32 (b - ((((Int32.toUInt32 b) >>> ((Int32.toUInt32 (1 : Int32)) &&& Int32.toUInt32 31)).toInt32) &&& (1431655765 : Int32)))) >>> ((Int32.toUInt32 (2 : Int32)) &&& Int32.toUInt32 31)).toInt32) &&& (858993459 : Int32))) + (((Int32.toUInt32 (((b - ((((Int32.toUInt32 b) >>> ((Int32.toUInt32 (1 : Int32)) &&& Int32.toUInt32 31)).toInt32) &&& (1431655765 : Int32))) &&& (858993459 : Int32)) + ((((Int32.toUInt32 (b - ((((Int32.toUInt32 b) >>> ((Int32.toUInt32 (1 : Int32)) &&& Int32.toUInt32 31)).toInt32) &&& (1431655765 : Int32)))) >>> ((Int32.toUInt32 (2 : Int32)) &&& Int32.toUInt32 31)).toInt32) &&& (858993459 : Int32)))) >>> ((Int32.toUInt32 (4 : Int32)) &&& Int32.toUInt32 31)).toInt32)) &&& (252645135 : Int32)) + (((Int32.toUInt32 (((((b - ((((Int32.toUInt32 b) >>> ((Int32.toUInt32 (1 : Int32)) &&& Int32.toUInt32 31)).toInt32) &&& (1431655765 : Int32))) &&& (858993459 : Int32)) + ((((Int32.toUInt32 (b - ((((Int32.toUInt32 b) >>> ((Int32.toUInt32 (1 : Int32)) &&& Int32.toUInt32 31)).toInt32) &&& (1431655765 : Int32)))) >>> ((Int32.toUInt32 (2 : Int32)) &&& Int32.toUInt32 31)).toInt32) &&& (858993459 : Int32))) + (((Int32.toUInt32 (((b - ((((Int32.toUInt32 b) >>> ((Int32.toUInt32 (1 : Int32)) &&& Int32.toUInt32 31)).toInt32) &&& (1431655765 : Int32))) &&& (858993459 : Int32)) + ((((Int32.toUInt32 (b - ((((Int32.toUInt32 b) >>> ((Int32.toUInt32 (1 : Int32)) &&& Int32.toUInt32 31)).toInt32) &&& (1431655765 : Int32)))) >>> ((Int32.toUInt32 (2 : Int32)) &&& Int32.toUInt32 31)).toInt32) &&& (858993459 : Int32)))) >>> ((Int32.toUInt32 (4 : Int32)) &&& Int32.toUInt32 31)).toInt32)) &&& (252645135 : Int32))) >>> ((Int32.toUInt32 (8 : Int32)) &&& Int32.toUInt32 31)).toInt32))) >>> ((Int32.toUInt32 (16 : Int32)) &&& Int32.toUInt32 31)).toInt32)) &&& (63 : Int32)), s))
set_option maxRecDepth 20000 in
set_option maxHeartbeats 4000000 in
theorem t_In_bitCount {L : Nat} {xs : Nat → Int32} {b : Int32} {D : Nat} {r : Int32} {s s' : vS} (h : f_In_bitCount b s = some (r, s')) (hD : 0 ≤ D) : s_Ek (s_rows 3 L xs) D s_e289.1 0 (lv_args 0 [.int b]) [] (v_mk s) (v_Q (some (.int r)) s') := by
  unfold f_In_bitCount at h
  show s_Ek (s_rows 3 L xs) D s_e289.1 0 [(0, .int b)] [] (v_mk s) _
  refine s_ek_bk 41 (P := 52) (ls' := [(0, .int (((((((b - ((((Int32.toUInt32 b) >>> ((Int32.toUInt32 (1 : Int32)) &&& Int32.toUInt32 31)).toInt32) &&& (1431655765 : Int32))) &&& (858993459 : Int32)) + ((((Int32.toUInt32 (b - ((((Int32.toUInt32 b) >>> ((Int32.toUInt32 (1 : Int32)) &&& Int32.toUInt32 31)).toInt32) &&& (1431655765 : Int32)))) >>> ((Int32.toUInt32 (2 : Int32)) &&& Int32.toUInt32 31)).toInt32) &&& (858993459 : Int32))) + (((Int32.toUInt32 (((b - ((((Int32.toUInt32 b) >>> ((Int32.toUInt32 (1 : Int32)) &&& Int32.toUInt32 31)).toInt32) &&& (1431655765 : Int32))) &&& (858993459 : Int32)) + ((((Int32.toUInt32 (b - ((((Int32.toUInt32 b) >>> ((Int32.toUInt32 (1 : Int32)) &&& Int32.toUInt32 31)).toInt32) &&& (1431655765 : Int32)))) >>> ((Int32.toUInt32 (2 : Int32)) &&& Int32.toUInt32 31)).toInt32) &&& (858993459 : Int32)))) >>> ((Int32.toUInt32 (4 : Int32)) &&& Int32.toUInt32 31)).toInt32)) &&& (252645135 : Int32)) + (((Int32.toUInt32 (((((b - ((((Int32.toUInt32 b) >>> ((Int32.toUInt32 (1 : Int32)) &&& Int32.toUInt32 31)).toInt32) &&& (1431655765 : Int32))) &&& (858993459 : Int32)) + ((((Int32.toUInt32 (b - ((((Int32.toUInt32 b) >>> ((Int32.toUInt32 (1 : Int32)) &&& Int32.toUInt32 31)).toInt32) &&& (1431655765 : Int32)))) >>> ((Int32.toUInt32 (2 : Int32)) &&& Int32.toUInt32 31)).toInt32) &&& (858993459 : Int32))) + (((Int32.toUInt32 (((b - ((((Int32.toUInt32 b) >>> ((Int32.toUInt32 (1 : Int32)) &&& Int32.toUInt32 31)).toInt32) &&& (1431655765 : Int32))) &&& (858993459 : Int32)) + ((((Int32.toUInt32 (b - ((((Int32.toUInt32 b) >>> ((Int32.toUInt32 (1 : Int32)) &&& Int32.toUInt32 31)).toInt32) &&& (1431655765 : Int32)))) >>> ((Int32.toUInt32 (2 : Int32)) &&& Int32.toUInt32 31)).toInt32) &&& (858993459 : Int32)))) >>> ((Int32.toUInt32 (4 : Int32)) &&& Int32.toUInt32 31)).toInt32)) &&& (252645135 : Int32))) >>> ((Int32.toUInt32 (8 : Int32)) &&& Int32.toUInt32 31)).toInt32)) + (((Int32.toUInt32 ((((((b - ((((Int32.toUInt32 b) >>> ((Int32.toUInt32 (1 : Int32)) &&& Int32.toUInt32 31)).toInt32) &&& (1431655765 : Int32))) &&& (858993459 : Int32)) + ((((Int32.toUInt32 (b - ((((Int32.toUInt32 b) >>> ((Int32.toUInt32 (1 : Int32)) &&& Int32.toUInt32 31)).toInt32) &&& (1431655765 : Int32)))) >>> ((Int32.toUInt32 (2 : Int32)) &&& Int32.toUInt32 31)).toInt32) &&& (858993459 : Int32))) + (((Int32.toUInt32 (((b - ((((Int32.toUInt32 b) >>> ((Int32.toUInt32 (1 : Int32)) &&& Int32.toUInt32 31)).toInt32) &&& (1431655765 : Int32))) &&& (858993459 : Int32)) + ((((Int32.toUInt32 (b - ((((Int32.toUInt32 b) >>> ((Int32.toUInt32 (1 : Int32)) &&& Int32.toUInt32 31)).toInt32) &&& (1431655765 : Int32)))) >>> ((Int32.toUInt32 (2 : Int32)) &&& Int32.toUInt32 31)).toInt32) &&& (858993459 : Int32)))) >>> ((Int32.toUInt32 (4 : Int32)) &&& Int32.toUInt32 31)).toInt32)) &&& (252645135 : Int32)) + (((Int32.toUInt32 (((((b - ((((Int32.toUInt32 b) >>> ((Int32.toUInt32 (1 : Int32)) &&& Int32.toUInt32 31)).toInt32) &&& (1431655765 : Int32))) &&& (858993459 : Int32)) + ((((Int32.toUInt32 (b - ((((Int32.toUInt32 b) >>> ((Int32.toUInt32 (1 : Int32)) &&& Int32.toUInt32 31)).toInt32) &&& (1431655765 : Int32)))) >>> ((Int32.toUInt32 (2 : Int32)) &&& Int32.toUInt32 31)).toInt32) &&& (858993459 : Int32))) + (((Int32.toUInt32 (((b - ((((Int32.toUInt32 b) >>> ((Int32.toUInt32 (1 : Int32)) &&& Int32.toUInt32 31)).toInt32) &&& (1431655765 : Int32))) &&& (858993459 : Int32)) + ((((Int32.toUInt32 (b - ((((Int32.toUInt32 b) >>> ((Int32.toUInt32 (1 : Int32)) &&& Int32.toUInt32 31)).toInt32) &&& (1431655765 : Int32)))) >>> ((Int32.toUInt32 (2 : Int32)) &&& Int32.toUInt32 31)).toInt32) &&& (858993459 : Int32)))) >>> ((Int32.toUInt32 (4 : Int32)) &&& Int32.toUInt32 31)).toInt32)) &&& (252645135 : Int32))) >>> ((Int32.toUInt32 (8 : Int32)) &&& Int32.toUInt32 31)).toInt32))) >>> ((Int32.toUInt32 (16 : Int32)) &&& Int32.toUInt32 31)).toInt32)))]) (st' := [.int ((((((((b - ((((Int32.toUInt32 b) >>> ((Int32.toUInt32 (1 : Int32)) &&& Int32.toUInt32 31)).toInt32) &&& (1431655765 : Int32))) &&& (858993459 : Int32)) + ((((Int32.toUInt32 (b - ((((Int32.toUInt32 b) >>> ((Int32.toUInt32 (1 : Int32)) &&& Int32.toUInt32 31)).toInt32) &&& (1431655765 : Int32)))) >>> ((Int32.toUInt32 (2 : Int32)) &&& Int32.toUInt32 31)).toInt32) &&& (858993459 : Int32))) + (((Int32.toUInt32 (((b - ((((Int32.toUInt32 b) >>> ((Int32.toUInt32 (1 : Int32)) &&& Int32.toUInt32 31)).toInt32) &&& (1431655765 : Int32))) &&& (858993459 : Int32)) + ((((Int32.toUInt32 (b - ((((Int32.toUInt32 b) >>> ((Int32.toUInt32 (1 : Int32)) &&& Int32.toUInt32 31)).toInt32) &&& (1431655765 : Int32)))) >>> ((Int32.toUInt32 (2 : Int32)) &&& Int32.toUInt32 31)).toInt32) &&& (858993459 : Int32)))) >>> ((Int32.toUInt32 (4 : Int32)) &&& Int32.toUInt32 31)).toInt32)) &&& (252645135 : Int32)) + (((Int32.toUInt32 (((((b - ((((Int32.toUInt32 b) >>> ((Int32.toUInt32 (1 : Int32)) &&& Int32.toUInt32 31)).toInt32) &&& (1431655765 : Int32))) &&& (858993459 : Int32)) + ((((Int32.toUInt32 (b - ((((Int32.toUInt32 b) >>> ((Int32.toUInt32 (1 : Int32)) &&& Int32.toUInt32 31)).toInt32) &&& (1431655765 : Int32)))) >>> ((Int32.toUInt32 (2 : Int32)) &&& Int32.toUInt32 31)).toInt32) &&& (858993459 : Int32))) + (((Int32.toUInt32 (((b - ((((Int32.toUInt32 b) >>> ((Int32.toUInt32 (1 : Int32)) &&& Int32.toUInt32 31)).toInt32) &&& (1431655765 : Int32))) &&& (858993459 : Int32)) + ((((Int32.toUInt32 (b - ((((Int32.toUInt32 b) >>> ((Int32.toUInt32 (1 : Int32)) &&& Int32.toUInt32 31)).toInt32) &&& (1431655765 : Int32)))) >>> ((Int32.toUInt32 (2 : Int32)) &&& Int32.toUInt32 31)).toInt32) &&& (858993459 : Int32)))) >>> ((Int32.toUInt32 (4 : Int32)) &&& Int32.toUInt32 31)).toInt32)) &&& (252645135 : Int32))) >>> ((Int32.toUInt32 (8 : Int32)) &&& Int32.toUInt32 31)).toInt32)) + (((Int32.toUInt32 ((((((b - ((((Int32.toUInt32 b) >>> ((Int32.toUInt32 (1 : Int32)) &&& Int32.toUInt32 31)).toInt32) &&& (1431655765 : Int32))) &&& (858993459 : Int32)) + ((((Int32.toUInt32 (b - ((((Int32.toUInt32 b) >>> ((Int32.toUInt32 (1 : Int32)) &&& Int32.toUInt32 31)).toInt32) &&& (1431655765 : Int32)))) >>> ((Int32.toUInt32 (2 : Int32)) &&& Int32.toUInt32 31)).toInt32) &&& (858993459 : Int32))) + (((Int32.toUInt32 (((b - ((((Int32.toUInt32 b) >>> ((Int32.toUInt32 (1 : Int32)) &&& Int32.toUInt32 31)).toInt32) &&& (1431655765 : Int32))) &&& (858993459 : Int32)) + ((((Int32.toUInt32 (b - ((((Int32.toUInt32 b) >>> ((Int32.toUInt32 (1 : Int32)) &&& Int32.toUInt32 31)).toInt32) &&& (1431655765 : Int32)))) >>> ((Int32.toUInt32 (2 : Int32)) &&& Int32.toUInt32 31)).toInt32) &&& (858993459 : Int32)))) >>> ((Int32.toUInt32 (4 : Int32)) &&& Int32.toUInt32 31)).toInt32)) &&& (252645135 : Int32)) + (((Int32.toUInt32 (((((b - ((((Int32.toUInt32 b) >>> ((Int32.toUInt32 (1 : Int32)) &&& Int32.toUInt32 31)).toInt32) &&& (1431655765 : Int32))) &&& (858993459 : Int32)) + ((((Int32.toUInt32 (b - ((((Int32.toUInt32 b) >>> ((Int32.toUInt32 (1 : Int32)) &&& Int32.toUInt32 31)).toInt32) &&& (1431655765 : Int32)))) >>> ((Int32.toUInt32 (2 : Int32)) &&& Int32.toUInt32 31)).toInt32) &&& (858993459 : Int32))) + (((Int32.toUInt32 (((b - ((((Int32.toUInt32 b) >>> ((Int32.toUInt32 (1 : Int32)) &&& Int32.toUInt32 31)).toInt32) &&& (1431655765 : Int32))) &&& (858993459 : Int32)) + ((((Int32.toUInt32 (b - ((((Int32.toUInt32 b) >>> ((Int32.toUInt32 (1 : Int32)) &&& Int32.toUInt32 31)).toInt32) &&& (1431655765 : Int32)))) >>> ((Int32.toUInt32 (2 : Int32)) &&& Int32.toUInt32 31)).toInt32) &&& (858993459 : Int32)))) >>> ((Int32.toUInt32 (4 : Int32)) &&& Int32.toUInt32 31)).toInt32)) &&& (252645135 : Int32))) >>> ((Int32.toUInt32 (8 : Int32)) &&& Int32.toUInt32 31)).toInt32))) >>> ((Int32.toUInt32 (16 : Int32)) &&& Int32.toUInt32 31)).toInt32)) &&& (63 : Int32))]) (M' := v_mk s) rfl ?_
  obtain ⟨rfl, rfl⟩ := v_so h
  exact v_ret (fun _ => rfl)
noncomputable def f_Ol_falseOnes_L55b (p3 : Nat) (p6 : Int32) (k110 : Int32 → vS → Option (Int32 × vS)) (again : Int32 → Int32 → Int32 → vS → Option (Int32 × vS)) (v4 : Int32) (v5 : Int32) (v7 : Int32) (s : vS) : Option (Int32 × vS) := (if p6.toInt < v7.toInt then (k110 v5 s) else (v_bi (f_In_bitCount v7 s) (fun r110 s110 => (if v4.toInt ≤ r110.toInt then (again v4 v5 (v7 + 1) s110) else (v_bi (f_Ct_standWithout v7 s110) (fun _ s112 => (v_bi (f_Ct_firstWrong p3 s112) (fun r113 s113 => (if 0 ≤ r113.toInt then (again v4 v5 (v7 + 1) s113) else (again r110 v7 (v7 + 1) s113))))))))))
noncomputable def f_Ol_falseOnes_L55 (p3 : Nat) (p6 : Int32) (k110 : Int32 → vS → Option (Int32 × vS)) (n : Nat) : Int32 → Int32 → Int32 → vS → Option (Int32 × vS) := Nat.rec (motive := fun _ => Int32 → Int32 → Int32 → vS → Option (Int32 × vS)) (fun _ _ _ _ => none) (fun _ again => f_Ol_falseOnes_L55b p3 p6 k110 again) n
noncomputable def f_Ol_falseOnes (b : Int32) (s : vS) : Option (Int32 × vS) := (v_bi (f_Ol_refusalOfTold b s) (fun r1 s1 => (if r1.toInt = 0 then (v_bi (f_Ol_shelfAt b s1) (fun r3 s3 => if v_kd r3 = 6 then (v_bi (f_Sh_isAllTwos r3 s3) (fun r5 s5 => (if r5.toInt = 0 then (some ((-2), s5)) else (v_bi (f_Ct_hear s5) (fun _ s7 => (v_bi (f_Ct_numbers s7) (fun r8 s8 => (f_Ol_falseOnes_L55 r3 r8 (fun w9 s10 => (some (w9, s10))) 4096 11 (-2) 0 s8)))))))) else none)) else (some (r1, s1)))))
set_option maxRecDepth 20000 in
set_option maxHeartbeats 4000000 in
theorem t_Ol_falseOnes_L55 {L : Nat} {xs : Nat → Int32} {p3 : Nat} {p6 : Int32} (hp3 : v_kd p3 = 6) {k110 : Int32 → vS → Option (Int32 × vS)} {D : Nat} (hD : 6 ≤ D) {r : Int32} {s' : vS} (hk110 : ∀ (v5 : Int32) (s : vS), k110 v5 s = some (r, s') → s_Ek (s_rows 3 L xs) D s_e151.1 110 [(5, .int v5)] [] (v_mk s) (v_Q (some (.int r)) s')) : ∀ (n : Nat) (v4 : Int32) (v5 : Int32) (v7 : Int32) (s : vS), f_Ol_falseOnes_L55 p3 p6 k110 n v4 v5 v7 s = some (r, s') → s_Ek (s_rows 3 L xs) D s_e151.1 55 [(0, .ref 0), (3, .ref p3), (4, .int v4), (5, .int v5), (6, .int p6), (7, .int v7)] [] (v_mk s) (v_Q (some (.int r)) s') := by
  intro n
  induction n with
  | zero => intro v4 v5 v7 s h; exact nomatch (show (none : Option (Int32 × vS)) = some (r, s') from h)
  | succ n ih =>
    intro v4 v5 v7 s h
    replace h : f_Ol_falseOnes_L55b p3 p6 k110 (f_Ol_falseOnes_L55 p3 p6 k110 n) v4 v5 v7 s = some (r, s') := h
    unfold f_Ol_falseOnes_L55b at h
    refine s_ek_bk 2 (P := 59) (ls' := [(0, .ref 0), (3, .ref p3), (4, .int v4), (5, .int v5), (6, .int p6), (7, .int v7)]) (st' := [.int p6, .int v7]) (M' := v_mk s) rfl ?_
    rcases v_if h with ⟨c109, h⟩ | ⟨c109, h⟩
    · refine v_i2t (T := 110) rfl rfl c109 ?_
      refine v_ls (ls' := [(5, .int v5)]) ⟨rfl, trivial⟩ (show ([5] : List Nat).Nodup from by decide) ?_
      exact hk110 _ _ h
    · refine v_i2f (T := 110) rfl rfl c109 ?_
      refine s_ek_bk 1 (P := 64) (ls' := [(0, .ref 0), (3, .ref p3), (4, .int v4), (5, .int v5), (6, .int p6), (7, .int v7)]) (st' := [.int v7]) (M' := v_mk s) rfl ?_
      obtain ⟨r110, s110, e110, h⟩ := v_bd h
      refine v_cS (ν := s_e289.1) (w := 2313) (as := [.int v7]) (r := []) (o := some (.int r110)) (by omega) rfl rfl rfl rfl (t_In_bitCount e110 (by omega)) ?_
      show s_Ek (s_rows 3 L xs) D s_e151.1 67 [(0, .ref 0), (3, .ref p3), (4, .int v4), (5, .int v5), (6, .int p6), (7, .int v7)] [.int r110] (v_mk s110) _
      refine s_ek_bk 3 (P := 73) (ls' := [(8, .int r110), (0, .ref 0), (3, .ref p3), (4, .int v4), (5, .int v5), (6, .int p6), (7, .int v7)]) (st' := [.int v4, .int r110]) (M' := v_mk s110) rfl ?_
      rcases v_if h with ⟨c111, h⟩ | ⟨c111, h⟩
      · refine v_i2t (T := 104) rfl rfl c111 ?_
        refine s_ek_bk 2 (P := 55) (ls' := [(7, .int (v7 + 1)), (8, .int r110), (0, .ref 0), (3, .ref p3), (4, .int v4), (5, .int v5), (6, .int p6)]) (st' := []) (M' := v_mk s110) rfl ?_
        refine v_ls (ls' := [(0, .ref 0), (3, .ref p3), (4, .int v4), (5, .int v5), (6, .int p6), (7, .int (v7 + 1))]) ⟨rfl, rfl, rfl, rfl, rfl, rfl, trivial⟩ (show ([0, 3, 4, 5, 6, 7] : List Nat).Nodup from by decide) ?_
        exact ih _ _ _ _ h
      · refine v_i2f (T := 104) rfl rfl c111 ?_
        refine s_ek_bk 1 (P := 77) (ls' := [(8, .int r110), (0, .ref 0), (3, .ref p3), (4, .int v4), (5, .int v5), (6, .int p6), (7, .int v7)]) (st' := [.ref 0]) (M' := v_mk s110) rfl ?_
        refine v_gf rfl (v_gr (rfl : v_kd 0 = 10) (rfl : v_sl 0 4 = .ref 8) ⟨rfl, rfl, by decide⟩) ?_
        refine s_ek_bk 1 (P := 82) (ls' := [(8, .int r110), (0, .ref 0), (3, .ref p3), (4, .int v4), (5, .int v5), (6, .int p6), (7, .int v7)]) (st' := [.int v7, .ref 8]) (M' := v_mk s110) rfl ?_
        obtain ⟨r112, s112, e112, h⟩ := v_bd h
        refine v_cV (ν := s_e50.1) (w := 401) (a := 8) (as' := [.int v7]) (r := []) (o := none) (by omega) rfl rfl rfl (v_mk_kd (k := 3) (rfl : v_kd 8 = 3) (by decide)) rfl (t_Ct_standWithout e112 (by omega)) ?_
        show s_Ek (s_rows 3 L xs) D s_e151.1 85 [(8, .int r110), (0, .ref 0), (3, .ref p3), (4, .int v4), (5, .int v5), (6, .int p6), (7, .int v7)] [] (v_mk s112) _
        refine s_ek_bk 1 (P := 86) (ls' := [(8, .int r110), (0, .ref 0), (3, .ref p3), (4, .int v4), (5, .int v5), (6, .int p6), (7, .int v7)]) (st' := [.ref 0]) (M' := v_mk s112) rfl ?_
        refine v_gf rfl (v_gr (rfl : v_kd 0 = 10) (rfl : v_sl 0 4 = .ref 8) ⟨rfl, rfl, by decide⟩) ?_
        refine s_ek_bk 1 (P := 90) (ls' := [(8, .int r110), (0, .ref 0), (3, .ref p3), (4, .int v4), (5, .int v5), (6, .int p6), (7, .int v7)]) (st' := [.ref p3, .ref 8]) (M' := v_mk s112) rfl ?_
        obtain ⟨r113, s113, e113, h⟩ := v_bd h
        refine v_cV (ν := s_e56.1) (w := 449) (a := 8) (as' := [.ref p3]) (r := []) (o := some (.int r113)) (by omega) rfl rfl rfl (v_mk_kd (k := 3) (rfl : v_kd 8 = 3) (by decide)) rfl (t_Ct_firstWrong hp3 e113 (by omega)) ?_
        show s_Ek (s_rows 3 L xs) D s_e151.1 93 [(8, .int r110), (0, .ref 0), (3, .ref p3), (4, .int v4), (5, .int v5), (6, .int p6), (7, .int v7)] [.int r113] (v_mk s113) _
        rcases v_if h with ⟨c114, h⟩ | ⟨c114, h⟩
        · refine v_i1t (T := 104) rfl rfl c114 ?_
          refine s_ek_bk 2 (P := 55) (ls' := [(7, .int (v7 + 1)), (8, .int r110), (0, .ref 0), (3, .ref p3), (4, .int v4), (5, .int v5), (6, .int p6)]) (st' := []) (M' := v_mk s113) rfl ?_
          refine v_ls (ls' := [(0, .ref 0), (3, .ref p3), (4, .int v4), (5, .int v5), (6, .int p6), (7, .int (v7 + 1))]) ⟨rfl, rfl, rfl, rfl, rfl, rfl, trivial⟩ (show ([0, 3, 4, 5, 6, 7] : List Nat).Nodup from by decide) ?_
          exact ih _ _ _ _ h
        · refine v_i1f (T := 104) rfl rfl c114 ?_
          refine s_ek_bk 6 (P := 55) (ls' := [(7, .int (v7 + 1)), (5, .int v7), (4, .int r110), (8, .int r110), (0, .ref 0), (3, .ref p3), (6, .int p6)]) (st' := []) (M' := v_mk s113) rfl ?_
          refine v_ls (ls' := [(0, .ref 0), (3, .ref p3), (4, .int r110), (5, .int v7), (6, .int p6), (7, .int (v7 + 1))]) ⟨rfl, rfl, rfl, rfl, rfl, rfl, trivial⟩ (show ([0, 3, 4, 5, 6, 7] : List Nat).Nodup from by decide) ?_
          exact ih _ _ _ _ h
set_option maxRecDepth 20000 in
set_option maxHeartbeats 4000000 in
theorem t_Ol_falseOnes {L : Nat} {xs : Nat → Int32} {b : Int32} {D : Nat} {r : Int32} {s s' : vS} (h : f_Ol_falseOnes b s = some (r, s')) (hD : 6 ≤ D) : s_Ek (s_rows 3 L xs) D s_e151.1 0 (lv_args 0 [.ref 0, .int b]) [] (v_mk s) (v_Q (some (.int r)) s') := by
  unfold f_Ol_falseOnes at h
  show s_Ek (s_rows 3 L xs) D s_e151.1 0 [(0, .ref 0), (1, .int b)] [] (v_mk s) _
  refine s_ek_bk 2 (P := 2) (ls' := [(0, .ref 0), (1, .int b)]) (st' := [.int b, .ref 0]) (M' := v_mk s) rfl ?_
  obtain ⟨r1, s1, e1, h⟩ := v_bd h
  refine v_cV (ν := s_e177.1) (w := 1417) (a := 0) (as' := [.int b]) (r := []) (o := some (.int r1)) (by omega) rfl rfl rfl (v_mk_kd (k := 10) (rfl : v_kd 0 = 10) (by decide)) rfl (t_Ol_refusalOfTold e1 (by omega)) ?_
  show s_Ek (s_rows 3 L xs) D s_e151.1 5 [(0, .ref 0), (1, .int b)] [.int r1] (v_mk s1) _
  refine s_ek_bk 2 (P := 7) (ls' := [(2, .int r1), (0, .ref 0), (1, .int b)]) (st' := [.int r1]) (M' := v_mk s1) rfl ?_
  rcases v_if h with ⟨c2, h⟩ | ⟨c2, h⟩
  · refine v_i1t (T := 12) rfl rfl c2 ?_
    refine s_ek_bk 2 (P := 14) (ls' := [(2, .int r1), (0, .ref 0), (1, .int b)]) (st' := [.int b, .ref 0]) (M' := v_mk s1) rfl ?_
    obtain ⟨r3, s3, e3, h⟩ := v_bd h
    refine v_cV (ν := s_e176.1) (w := 1409) (a := 0) (as' := [.int b]) (r := []) (o := some (.ref r3)) (by omega) rfl rfl rfl (v_mk_kd (k := 10) (rfl : v_kd 0 = 10) (by decide)) rfl (t_Ol_shelfAt e3 (by omega)) ?_
    obtain ⟨c4, h⟩ := v_ck h
    show s_Ek (s_rows 3 L xs) D s_e151.1 17 [(2, .int r1), (0, .ref 0), (1, .int b)] [.ref r3] (v_mk s3) _
    refine s_ek_bk 2 (P := 19) (ls' := [(3, .ref r3), (2, .int r1), (0, .ref 0), (1, .int b)]) (st' := [.ref r3]) (M' := v_mk s3) rfl ?_
    obtain ⟨r5, s5, e5, h⟩ := v_bd h
    refine v_cV (ν := s_e96.1) (w := 768) (a := r3) (as' := []) (r := []) (o := some (.int r5)) (by omega) rfl rfl rfl (v_mk_kd (k := 6) c4 (by decide)) rfl (t_Sh_isAllTwos c4 e5 (by omega)) ?_
    show s_Ek (s_rows 3 L xs) D s_e151.1 22 [(3, .ref r3), (2, .int r1), (0, .ref 0), (1, .int b)] [.int r5] (v_mk s5) _
    rcases v_if h with ⟨c6, h⟩ | ⟨c6, h⟩
    · refine v_i1f (T := 28) rfl rfl (fun q => q c6) ?_
      refine s_ek_bk 1 (P := 27) (ls' := [(3, .ref r3), (2, .int r1), (0, .ref 0), (1, .int b)]) (st' := [.int (-2)]) (M' := v_mk s5) rfl ?_
      obtain ⟨rfl, rfl⟩ := v_so h
      exact v_ret (fun _ => rfl)
    · refine v_i1t (T := 28) rfl rfl c6 ?_
      refine s_ek_bk 1 (P := 29) (ls' := [(3, .ref r3), (2, .int r1), (0, .ref 0), (1, .int b)]) (st' := [.ref 0]) (M' := v_mk s5) rfl ?_
      refine v_gf rfl (v_gr (rfl : v_kd 0 = 10) (rfl : v_sl 0 4 = .ref 8) ⟨rfl, rfl, by decide⟩) ?_
      obtain ⟨r7, s7, e7, h⟩ := v_bd h
      refine v_cV (ν := s_e48.1) (w := 384) (a := 8) (as' := []) (r := []) (o := none) (by omega) rfl rfl rfl (v_mk_kd (k := 3) (rfl : v_kd 8 = 3) (by decide)) rfl (t_Ct_hear e7 (by omega)) ?_
      show s_Ek (s_rows 3 L xs) D s_e151.1 35 [(3, .ref r3), (2, .int r1), (0, .ref 0), (1, .int b)] [] (v_mk s7) _
      refine s_ek_bk 5 (P := 44) (ls' := [(5, .int (-2)), (4, .int 11), (3, .ref r3), (2, .int r1), (0, .ref 0), (1, .int b)]) (st' := [.ref 0]) (M' := v_mk s7) rfl ?_
      refine v_gf rfl (v_gr (rfl : v_kd 0 = 10) (rfl : v_sl 0 4 = .ref 8) ⟨rfl, rfl, by decide⟩) ?_
      obtain ⟨r8, s8, e8, h⟩ := v_bd h
      refine v_cV (ν := s_e42.1) (w := 336) (a := 8) (as' := []) (r := []) (o := some (.int r8)) (by omega) rfl rfl rfl (v_mk_kd (k := 3) (rfl : v_kd 8 = 3) (by decide)) rfl (t_Ct_numbers e8 (by omega)) ?_
      show s_Ek (s_rows 3 L xs) D s_e151.1 50 [(5, .int (-2)), (4, .int 11), (3, .ref r3), (2, .int r1), (0, .ref 0), (1, .int b)] [.int r8] (v_mk s8) _
      refine s_ek_bk 3 (P := 55) (ls' := [(7, .int 0), (6, .int r8), (5, .int (-2)), (4, .int 11), (3, .ref r3), (2, .int r1), (0, .ref 0), (1, .int b)]) (st' := []) (M' := v_mk s8) rfl ?_
      refine v_ls (ls' := [(0, .ref 0), (3, .ref r3), (4, .int 11), (5, .int (-2)), (6, .int r8), (7, .int 0)]) ⟨rfl, rfl, rfl, rfl, rfl, rfl, trivial⟩ (show ([0, 3, 4, 5, 6, 7] : List Nat).Nodup from by decide) ?_
      refine t_Ol_falseOnes_L55 c4 (by omega) (fun w9 s10 h => ?_) 4096 _ _ _ _ h
      show s_Ek (s_rows 3 L xs) D s_e151.1 110 [(5, .int w9)] [] (v_mk s10) _
      refine s_ek_bk 1 (P := 112) (ls' := [(5, .int w9)]) (st' := [.int w9]) (M' := v_mk s10) rfl ?_
      obtain ⟨rfl, rfl⟩ := v_so h
      exact v_ret (fun _ => rfl)
  · refine v_i1f (T := 12) rfl rfl c2 ?_
    refine s_ek_bk 1 (P := 11) (ls' := [(2, .int r1), (0, .ref 0), (1, .int b)]) (st' := [.int r1]) (M' := v_mk s1) rfl ?_
    obtain ⟨rfl, rfl⟩ := v_so h
    exact v_ret (fun _ => rfl)
noncomputable def f_Ol_under (b : Int32) (c : Int32) (s : vS) : Option (Int32 × vS) := (v_bi (f_Ct_knows b s) (fun r1 s1 => (if r1.toInt = 0 then (some ((-1), s1)) else (v_bi (f_Ol_isEither c s1) (fun r3 s3 => (if r3.toInt = 0 then (some ((-1), s3)) else (v_bi (f_Ct_isThere b s3) (fun r5 s5 => (if r5.toInt = 0 then (some ((-5), s5)) else (v_bi (f_Ct_hear s5) (fun _ s7 => (v_bi (f_Ct_rememberVerdicts s7) (fun _ s8 => (v_bi (f_Ct_at b s8) (fun r9 s9 => if v_kd r9 = 4 then (v_let (v_w1 s9 r9 1 (-1)) (fun s11 => (v_bi (f_Ct_hear s11) (fun _ s12 => (v_bi (f_Ct_findChanged 138 s12) (fun _ s13 => (v_let (v_w1 s13 r9 1 (s9.1 r9 1)) (fun s14 => (if c.toInt = 0 then (v_bi (f_Cs_size 138 s14) (fun r16 s16 => (some (r16, s16)))) else (some (((s8.1 8 4) &&& ((s14.1 8 4) ^^^ ((-1) : Int32))), s14))))))))))) else none)))))))))))))))
set_option maxRecDepth 20000 in
set_option maxHeartbeats 4000000 in
theorem t_Ol_under {L : Nat} {xs : Nat → Int32} {b : Int32} {c : Int32} {D : Nat} {r : Int32} {s s' : vS} (h : f_Ol_under b c s = some (r, s')) (hD : 6 ≤ D) : s_Ek (s_rows 3 L xs) D s_e152.1 0 (lv_args 0 [.ref 0, .int b, .int c]) [] (v_mk s) (v_Q (some (.int r)) s') := by
  unfold f_Ol_under at h
  show s_Ek (s_rows 3 L xs) D s_e152.1 0 [(0, .ref 0), (1, .int b), (2, .int c)] [] (v_mk s) _
  refine s_ek_bk 1 (P := 1) (ls' := [(0, .ref 0), (1, .int b), (2, .int c)]) (st' := [.ref 0]) (M' := v_mk s) rfl ?_
  refine v_gf rfl (v_gr (rfl : v_kd 0 = 10) (rfl : v_sl 0 4 = .ref 8) ⟨rfl, rfl, by decide⟩) ?_
  refine s_ek_bk 1 (P := 5) (ls' := [(0, .ref 0), (1, .int b), (2, .int c)]) (st' := [.int b, .ref 8]) (M' := v_mk s) rfl ?_
  obtain ⟨r1, s1, e1, h⟩ := v_bd h
  refine v_cV (ν := s_e40.1) (w := 321) (a := 8) (as' := [.int b]) (r := []) (o := some (.int r1)) (by omega) rfl rfl rfl (v_mk_kd (k := 3) (rfl : v_kd 8 = 3) (by decide)) rfl (t_Ct_knows e1 (by omega)) ?_
  show s_Ek (s_rows 3 L xs) D s_e152.1 8 [(0, .ref 0), (1, .int b), (2, .int c)] [.int r1] (v_mk s1) _
  rcases v_if h with ⟨c2, h⟩ | ⟨c2, h⟩
  · refine v_i1t (T := 18) rfl rfl c2 ?_
    refine s_ek_bk 1 (P := 19) (ls' := [(0, .ref 0), (1, .int b), (2, .int c)]) (st' := [.int (-1)]) (M' := v_mk s1) rfl ?_
    obtain ⟨rfl, rfl⟩ := v_so h
    exact v_ret (fun _ => rfl)
  · refine v_i1f (T := 18) rfl rfl c2 ?_
    refine s_ek_bk 1 (P := 12) (ls' := [(0, .ref 0), (1, .int b), (2, .int c)]) (st' := [.int c]) (M' := v_mk s1) rfl ?_
    obtain ⟨r3, s3, e3, h⟩ := v_bd h
    refine v_cS (ν := s_e174.1) (w := 1393) (as := [.int c]) (r := []) (o := some (.int r3)) (by omega) rfl rfl rfl rfl (t_Ol_isEither e3 (by omega)) ?_
    show s_Ek (s_rows 3 L xs) D s_e152.1 15 [(0, .ref 0), (1, .int b), (2, .int c)] [.int r3] (v_mk s3) _
    rcases v_if h with ⟨c4, h⟩ | ⟨c4, h⟩
    · refine v_i1f (T := 20) rfl rfl (fun q => q c4) ?_
      refine s_ek_bk 1 (P := 19) (ls' := [(0, .ref 0), (1, .int b), (2, .int c)]) (st' := [.int (-1)]) (M' := v_mk s3) rfl ?_
      obtain ⟨rfl, rfl⟩ := v_so h
      exact v_ret (fun _ => rfl)
    · refine v_i1t (T := 20) rfl rfl c4 ?_
      refine s_ek_bk 1 (P := 21) (ls' := [(0, .ref 0), (1, .int b), (2, .int c)]) (st' := [.ref 0]) (M' := v_mk s3) rfl ?_
      refine v_gf rfl (v_gr (rfl : v_kd 0 = 10) (rfl : v_sl 0 4 = .ref 8) ⟨rfl, rfl, by decide⟩) ?_
      refine s_ek_bk 1 (P := 25) (ls' := [(0, .ref 0), (1, .int b), (2, .int c)]) (st' := [.int b, .ref 8]) (M' := v_mk s3) rfl ?_
      obtain ⟨r5, s5, e5, h⟩ := v_bd h
      refine v_cV (ν := s_e46.1) (w := 369) (a := 8) (as' := [.int b]) (r := []) (o := some (.int r5)) (by omega) rfl rfl rfl (v_mk_kd (k := 3) (rfl : v_kd 8 = 3) (by decide)) rfl (t_Ct_isThere e5 (by omega)) ?_
      show s_Ek (s_rows 3 L xs) D s_e152.1 28 [(0, .ref 0), (1, .int b), (2, .int c)] [.int r5] (v_mk s5) _
      rcases v_if h with ⟨c6, h⟩ | ⟨c6, h⟩
      · refine v_i1f (T := 34) rfl rfl (fun q => q c6) ?_
        refine s_ek_bk 1 (P := 33) (ls' := [(0, .ref 0), (1, .int b), (2, .int c)]) (st' := [.int (-5)]) (M' := v_mk s5) rfl ?_
        obtain ⟨rfl, rfl⟩ := v_so h
        exact v_ret (fun _ => rfl)
      · refine v_i1t (T := 34) rfl rfl c6 ?_
        refine s_ek_bk 1 (P := 35) (ls' := [(0, .ref 0), (1, .int b), (2, .int c)]) (st' := [.ref 0]) (M' := v_mk s5) rfl ?_
        refine v_gf rfl (v_gr (rfl : v_kd 0 = 10) (rfl : v_sl 0 4 = .ref 8) ⟨rfl, rfl, by decide⟩) ?_
        obtain ⟨r7, s7, e7, h⟩ := v_bd h
        refine v_cV (ν := s_e48.1) (w := 384) (a := 8) (as' := []) (r := []) (o := none) (by omega) rfl rfl rfl (v_mk_kd (k := 3) (rfl : v_kd 8 = 3) (by decide)) rfl (t_Ct_hear e7 (by omega)) ?_
        show s_Ek (s_rows 3 L xs) D s_e152.1 41 [(0, .ref 0), (1, .int b), (2, .int c)] [] (v_mk s7) _
        refine s_ek_bk 1 (P := 42) (ls' := [(0, .ref 0), (1, .int b), (2, .int c)]) (st' := [.ref 0]) (M' := v_mk s7) rfl ?_
        refine v_gf rfl (v_gr (rfl : v_kd 0 = 10) (rfl : v_sl 0 4 = .ref 8) ⟨rfl, rfl, by decide⟩) ?_
        obtain ⟨r8, s8, e8, h⟩ := v_bd h
        refine v_cV (ν := s_e57.1) (w := 456) (a := 8) (as' := []) (r := []) (o := none) (by omega) rfl rfl rfl (v_mk_kd (k := 3) (rfl : v_kd 8 = 3) (by decide)) rfl (t_Ct_rememberVerdicts e8 (by omega)) ?_
        show s_Ek (s_rows 3 L xs) D s_e152.1 48 [(0, .ref 0), (1, .int b), (2, .int c)] [] (v_mk s8) _
        refine s_ek_bk 1 (P := 49) (ls' := [(0, .ref 0), (1, .int b), (2, .int c)]) (st' := [.ref 0]) (M' := v_mk s8) rfl ?_
        refine v_gf rfl (v_gr (rfl : v_kd 0 = 10) (rfl : v_sl 0 4 = .ref 8) ⟨rfl, rfl, by decide⟩) ?_
        refine v_gf rfl (v_gi (rfl : v_kd 8 = 3) rfl ⟨rfl, rfl, by decide⟩) ?_
        refine s_ek_bk 2 (P := 57) (ls' := [(3, .int (s8.1 8 4)), (0, .ref 0), (1, .int b), (2, .int c)]) (st' := [.ref 0]) (M' := v_mk s8) rfl ?_
        refine v_gf rfl (v_gr (rfl : v_kd 0 = 10) (rfl : v_sl 0 4 = .ref 8) ⟨rfl, rfl, by decide⟩) ?_
        refine s_ek_bk 1 (P := 61) (ls' := [(3, .int (s8.1 8 4)), (0, .ref 0), (1, .int b), (2, .int c)]) (st' := [.int b, .ref 8]) (M' := v_mk s8) rfl ?_
        obtain ⟨r9, s9, e9, h⟩ := v_bd h
        refine v_cV (ν := s_e41.1) (w := 329) (a := 8) (as' := [.int b]) (r := []) (o := some (.ref r9)) (by omega) rfl rfl rfl (v_mk_kd (k := 3) (rfl : v_kd 8 = 3) (by decide)) rfl (t_Ct_at e9 (by omega)) ?_
        obtain ⟨c10, h⟩ := v_ck h
        show s_Ek (s_rows 3 L xs) D s_e152.1 64 [(3, .int (s8.1 8 4)), (0, .ref 0), (1, .int b), (2, .int c)] [.ref r9] (v_mk s9) _
        refine s_ek_bk 2 (P := 68) (ls' := [(4, .ref r9), (3, .int (s8.1 8 4)), (0, .ref 0), (1, .int b), (2, .int c)]) (st' := [.ref r9]) (M' := v_mk s9) rfl ?_
        refine v_gf rfl (v_gi c10 (v_tK (j := 1) v_is4 (by decide) c10) ⟨rfl, rfl, by decide⟩) ?_
        refine s_ek_bk 3 (P := 76) (ls' := [(5, .int (s9.1 r9 1)), (4, .ref r9), (3, .int (s8.1 8 4)), (0, .ref 0), (1, .int b), (2, .int c)]) (st' := [.int (-1), .ref r9]) (M' := v_mk s9) rfl ?_
        obtain ⟨s11, es11, h⟩ := v_ld h
        refine v_pf (M' := v_mk s11) rfl (by rw [es11]; exact v_pi c10 (v_tK (j := 1) v_is4 (by decide) c10) ⟨rfl, rfl, by decide⟩ rfl) ?_
        refine s_ek_bk 1 (P := 80) (ls' := [(5, .int (s9.1 r9 1)), (4, .ref r9), (3, .int (s8.1 8 4)), (0, .ref 0), (1, .int b), (2, .int c)]) (st' := [.ref 0]) (M' := v_mk s11) rfl ?_
        refine v_gf rfl (v_gr (rfl : v_kd 0 = 10) (rfl : v_sl 0 4 = .ref 8) ⟨rfl, rfl, by decide⟩) ?_
        obtain ⟨r12, s12, e12, h⟩ := v_bd h
        refine v_cV (ν := s_e48.1) (w := 384) (a := 8) (as' := []) (r := []) (o := none) (by omega) rfl rfl rfl (v_mk_kd (k := 3) (rfl : v_kd 8 = 3) (by decide)) rfl (t_Ct_hear e12 (by omega)) ?_
        show s_Ek (s_rows 3 L xs) D s_e152.1 86 [(5, .int (s9.1 r9 1)), (4, .ref r9), (3, .int (s8.1 8 4)), (0, .ref 0), (1, .int b), (2, .int c)] [] (v_mk s12) _
        refine s_ek_bk 1 (P := 87) (ls' := [(5, .int (s9.1 r9 1)), (4, .ref r9), (3, .int (s8.1 8 4)), (0, .ref 0), (1, .int b), (2, .int c)]) (st' := [.ref 0]) (M' := v_mk s12) rfl ?_
        refine v_gf rfl (v_gr (rfl : v_kd 0 = 10) (rfl : v_sl 0 4 = .ref 8) ⟨rfl, rfl, by decide⟩) ?_
        refine s_ek_bk 1 (P := 91) (ls' := [(5, .int (s9.1 r9 1)), (4, .ref r9), (3, .int (s8.1 8 4)), (0, .ref 0), (1, .int b), (2, .int c)]) (st' := [.ref 0, .ref 8]) (M' := v_mk s12) rfl ?_
        refine v_gf rfl (v_gr (rfl : v_kd 0 = 10) (rfl : v_sl 0 10 = .ref 138) ⟨rfl, rfl, by decide⟩) ?_
        obtain ⟨r13, s13, e13, h⟩ := v_bd h
        refine v_cV (ν := s_e58.1) (w := 465) (a := 8) (as' := [.ref 138]) (r := []) (o := none) (by omega) rfl rfl rfl (v_mk_kd (k := 3) (rfl : v_kd 8 = 3) (by decide)) rfl (t_Ct_findChanged (rfl : v_kd 138 = 0) e13 (by omega)) ?_
        show s_Ek (s_rows 3 L xs) D s_e152.1 97 [(5, .int (s9.1 r9 1)), (4, .ref r9), (3, .int (s8.1 8 4)), (0, .ref 0), (1, .int b), (2, .int c)] [] (v_mk s13) _
        refine s_ek_bk 2 (P := 101) (ls' := [(5, .int (s9.1 r9 1)), (4, .ref r9), (3, .int (s8.1 8 4)), (0, .ref 0), (1, .int b), (2, .int c)]) (st' := [.int (s9.1 r9 1), .ref r9]) (M' := v_mk s13) rfl ?_
        obtain ⟨s14, es14, h⟩ := v_ld h
        refine v_pf (M' := v_mk s14) rfl (by rw [es14]; exact v_pi c10 (v_tK (j := 1) v_is4 (by decide) c10) ⟨rfl, rfl, by decide⟩ rfl) ?_
        refine s_ek_bk 1 (P := 105) (ls' := [(5, .int (s9.1 r9 1)), (4, .ref r9), (3, .int (s8.1 8 4)), (0, .ref 0), (1, .int b), (2, .int c)]) (st' := [.int c]) (M' := v_mk s14) rfl ?_
        rcases v_if h with ⟨c15, h⟩ | ⟨c15, h⟩
        · refine v_i1f (T := 118) rfl rfl (fun q => q c15) ?_
          refine s_ek_bk 1 (P := 109) (ls' := [(5, .int (s9.1 r9 1)), (4, .ref r9), (3, .int (s8.1 8 4)), (0, .ref 0), (1, .int b), (2, .int c)]) (st' := [.ref 0]) (M' := v_mk s14) rfl ?_
          refine v_gf rfl (v_gr (rfl : v_kd 0 = 10) (rfl : v_sl 0 10 = .ref 138) ⟨rfl, rfl, by decide⟩) ?_
          obtain ⟨r16, s16, e16, h⟩ := v_bd h
          refine v_cV (ν := s_e10.1) (w := 80) (a := 138) (as' := []) (r := []) (o := some (.int r16)) (by omega) rfl rfl rfl (v_mk_kd (k := 0) (rfl : v_kd 138 = 0) (by decide)) rfl (t_Cs_size (rfl : v_kd 138 = 0) e16 (by omega)) ?_
          show s_Ek (s_rows 3 L xs) D s_e152.1 115 [(5, .int (s9.1 r9 1)), (4, .ref r9), (3, .int (s8.1 8 4)), (0, .ref 0), (1, .int b), (2, .int c)] [.int r16] (v_mk s16) _
          refine s_ek_bk 1 (P := 129) (ls' := [(5, .int (s9.1 r9 1)), (4, .ref r9), (3, .int (s8.1 8 4)), (0, .ref 0), (1, .int b), (2, .int c)]) (st' := [.int r16]) (M' := v_mk s16) rfl ?_
          obtain ⟨rfl, rfl⟩ := v_so h
          exact v_ret (fun _ => rfl)
        · refine v_i1t (T := 118) rfl rfl c15 ?_
          refine s_ek_bk 2 (P := 120) (ls' := [(5, .int (s9.1 r9 1)), (4, .ref r9), (3, .int (s8.1 8 4)), (0, .ref 0), (1, .int b), (2, .int c)]) (st' := [.ref 0, .int (s8.1 8 4)]) (M' := v_mk s14) rfl ?_
          refine v_gf rfl (v_gr (rfl : v_kd 0 = 10) (rfl : v_sl 0 4 = .ref 8) ⟨rfl, rfl, by decide⟩) ?_
          refine v_gf rfl (v_gi (rfl : v_kd 8 = 3) rfl ⟨rfl, rfl, by decide⟩) ?_
          refine s_ek_bk 3 (P := 129) (ls' := [(5, .int (s9.1 r9 1)), (4, .ref r9), (3, .int (s8.1 8 4)), (0, .ref 0), (1, .int b), (2, .int c)]) (st' := [.int ((s8.1 8 4) &&& ((s14.1 8 4) ^^^ ((-1) : Int32)))]) (M' := v_mk s14) rfl ?_
          obtain ⟨rfl, rfl⟩ := v_so h
          exact v_ret (fun _ => rfl)
