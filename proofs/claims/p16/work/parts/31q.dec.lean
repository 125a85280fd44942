/-! functions over the store, and the runs that they stand for: Md_trace Md_body Md_isUnder Md_plainSays Md_wordSays Md_saying Md_plainHolds Md_mayHolds Md_plainBeats Md_unlessBeats Md_beating Md_holding Md_plainTells Md_telling Md_act Md_countStanding Md_count Md_keep Md_row Md_whyNoPlace Md_put -/
noncomputable def f_Md_trace (b : Int32) (s : vS) : Option (Int32 × vS) := (if b.toInt < 0 then (some ((-1), s)) else (if (s.1 151 44).toInt ≤ b.toInt then (some ((-1), s)) else (if 24 ≤ b.toInt then (some ((-1), s)) else (if v_in b 24 then (some ((s.1 180 (Int32.toNatClampNeg b)), s)) else none))))
set_option maxRecDepth 20000 in
set_option maxHeartbeats 4000000 in
theorem t_Md_trace {L : Nat} {xs : Nat → Int32} {b : Int32} {D : Nat} {r : Int32} {s s' : vS} (h : f_Md_trace b s = some (r, s')) (hD : 0 ≤ D) : s_Ek (s_rows 3 L xs) D s_e264.1 0 (lv_args 0 [.ref 151, .int b]) [] (v_mk s) (v_Q (some (.int r)) s') := by
  unfold f_Md_trace at h
  show s_Ek (s_rows 3 L xs) D s_e264.1 0 [(0, .ref 151), (1, .int b)] [] (v_mk s) _
  refine s_ek_bk 1 (P := 1) (ls' := [(0, .ref 151), (1, .int b)]) (st' := [.int b]) (M' := v_mk s) rfl ?_
  rcases v_if h with ⟨c1, h⟩ | ⟨c1, h⟩
  · refine v_i1t (T := 27) rfl rfl c1 ?_
    refine s_ek_bk 1 (P := 28) (ls' := [(0, .ref 151), (1, .int b)]) (st' := [.int (-1)]) (M' := v_mk s) rfl ?_
    obtain ⟨rfl, rfl⟩ := v_so h
    exact v_ret (fun _ => rfl)
  · refine v_i1f (T := 27) rfl rfl c1 ?_
    refine s_ek_bk 2 (P := 6) (ls' := [(0, .ref 151), (1, .int b)]) (st' := [.ref 151, .int b]) (M' := v_mk s) rfl ?_
    refine v_gf rfl (v_gi (rfl : v_kd 151 = 11) rfl ⟨rfl, rfl, by decide⟩) ?_
    rcases v_if h with ⟨c2, h⟩ | ⟨c2, h⟩
    · refine v_i2t (T := 27) rfl rfl c2 ?_
      refine s_ek_bk 1 (P := 28) (ls' := [(0, .ref 151), (1, .int b)]) (st' := [.int (-1)]) (M' := v_mk s) rfl ?_
      obtain ⟨rfl, rfl⟩ := v_so h
      exact v_ret (fun _ => rfl)
    · refine v_i2f (T := 27) rfl rfl c2 ?_
      refine s_ek_bk 2 (P := 15) (ls' := [(0, .ref 151), (1, .int b)]) (st' := [.int 24, .int b]) (M' := v_mk s) rfl ?_
      rcases v_if h with ⟨c3, h⟩ | ⟨c3, h⟩
      · refine v_i2t (T := 27) rfl rfl c3 ?_
        refine s_ek_bk 1 (P := 28) (ls' := [(0, .ref 151), (1, .int b)]) (st' := [.int (-1)]) (M' := v_mk s) rfl ?_
        obtain ⟨rfl, rfl⟩ := v_so h
        exact v_ret (fun _ => rfl)
      · refine v_i2f (T := 27) rfl rfl c3 ?_
        refine s_ek_bk 1 (P := 19) (ls' := [(0, .ref 151), (1, .int b)]) (st' := [.ref 151]) (M' := v_mk s) rfl ?_
        refine v_gf rfl (v_gr (rfl : v_kd 151 = 11) (rfl : v_sl 151 45 = .ref 180) ⟨rfl, rfl, by decide⟩) ?_
        refine s_ek_bk 1 (P := 23) (ls' := [(0, .ref 151), (1, .int b)]) (st' := [.int b, .ref 180]) (M' := v_mk s) rfl ?_
        obtain ⟨c4, h⟩ := v_ck h
        refine v_ia (i := b) rfl (v_ai (rfl : v_kd 180 = 13) rfl (by decide) v_all13 (v_cn (rfl : v_ln 180 = 24) c4)) ?_
        refine s_ek_bk 1 (P := 28) (ls' := [(0, .ref 151), (1, .int b)]) (st' := [.int (s.1 180 (Int32.toNatClampNeg b))]) (M' := v_mk s) rfl ?_
        obtain ⟨rfl, rfl⟩ := v_so h
        exact v_ret (fun _ => rfl)
noncomputable def f_Md_body (b : Int32) (s : vS) : Option (Int32 × vS) := (v_bi (f_Md_in b 0 7 s) (fun r1 s1 => (if r1.toInt = 0 then (some ((-1), s1)) else (if (s1.1 151 42).toInt = 50 then (some ((-3), s1)) else (if v_in (s1.1 151 42) 50 then (v_let (v_w1 s1 179 (Int32.toNatClampNeg (s1.1 151 42)) b) (fun s5 => (v_let (v_w1 s5 151 42 ((s5.1 151 42) + (1 : Int32))) (fun s6 => (some (((s6.1 151 42) - (1 : Int32)), s6)))))) else none)))))
set_option maxRecDepth 20000 in
set_option maxHeartbeats 4000000 in
theorem t_Md_body {L : Nat} {xs : Nat → Int32} {b : Int32} {D : Nat} {r : Int32} {s s' : vS} (h : f_Md_body b s = some (r, s')) (hD : 1 ≤ D) : s_Ek (s_rows 3 L xs) D s_e265.1 0 (lv_args 0 [.ref 151, .int b]) [] (v_mk s) (v_Q (some (.int r)) s') := by
  unfold f_Md_body at h
  show s_Ek (s_rows 3 L xs) D s_e265.1 0 [(0, .ref 151), (1, .int b)] [] (v_mk s) _
  refine s_ek_bk 3 (P := 4) (ls' := [(0, .ref 151), (1, .int b)]) (st' := [.int 7, .int 0, .int b]) (M' := v_mk s) rfl ?_
  obtain ⟨r1, s1, e1, h⟩ := v_bd h
  refine v_cS (ν := s_e181.1) (w := 1451) (as := [.int b, .int 0, .int 7]) (r := []) (o := some (.int r1)) (by omega) rfl rfl rfl rfl (t_Md_in e1 (by omega)) ?_
  show s_Ek (s_rows 3 L xs) D s_e265.1 7 [(0, .ref 151), (1, .int b)] [.int r1] (v_mk s1) _
  rcases v_if h with ⟨c2, h⟩ | ⟨c2, h⟩
  · refine v_i1f (T := 12) rfl rfl (fun q => q c2) ?_
    refine s_ek_bk 1 (P := 11) (ls' := [(0, .ref 151), (1, .int b)]) (st' := [.int (-1)]) (M' := v_mk s1) rfl ?_
    obtain ⟨rfl, rfl⟩ := v_so h
    exact v_ret (fun _ => rfl)
  · refine v_i1t (T := 12) rfl rfl c2 ?_
    refine s_ek_bk 1 (P := 13) (ls' := [(0, .ref 151), (1, .int b)]) (st' := [.ref 151]) (M' := v_mk s1) rfl ?_
    refine v_gf rfl (v_gi (rfl : v_kd 151 = 11) rfl ⟨rfl, rfl, by decide⟩) ?_
    refine s_ek_bk 1 (P := 18) (ls' := [(0, .ref 151), (1, .int b)]) (st' := [.int 50, .int (s1.1 151 42)]) (M' := v_mk s1) rfl ?_
    rcases v_if h with ⟨c3, h⟩ | ⟨c3, h⟩
    · refine v_i2f (T := 24) rfl rfl (fun q => q c3) ?_
      refine s_ek_bk 1 (P := 23) (ls' := [(0, .ref 151), (1, .int b)]) (st' := [.int (-3)]) (M' := v_mk s1) rfl ?_
      obtain ⟨rfl, rfl⟩ := v_so h
      exact v_ret (fun _ => rfl)
    · refine v_i2t (T := 24) rfl rfl c3 ?_
      refine s_ek_bk 1 (P := 25) (ls' := [(0, .ref 151), (1, .int b)]) (st' := [.ref 151]) (M' := v_mk s1) rfl ?_
      refine v_gf rfl (v_gr (rfl : v_kd 151 = 11) (rfl : v_sl 151 43 = .ref 179) ⟨rfl, rfl, by decide⟩) ?_
      refine s_ek_bk 1 (P := 29) (ls' := [(0, .ref 151), (1, .int b)]) (st' := [.ref 151, .ref 179]) (M' := v_mk s1) rfl ?_
      refine v_gf rfl (v_gi (rfl : v_kd 151 = 11) rfl ⟨rfl, rfl, by decide⟩) ?_
      refine s_ek_bk 1 (P := 33) (ls' := [(0, .ref 151), (1, .int b)]) (st' := [.int b, .int (s1.1 151 42), .ref 179]) (M' := v_mk s1) rfl ?_
      obtain ⟨c4, h⟩ := v_ck h
      obtain ⟨s5, es5, h⟩ := v_ld h
      refine v_ist (M' := v_mk s5) (i := (s1.1 151 42)) rfl (by rw [es5]; exact v_pai (rfl : v_kd 179 = 13) rfl (by decide) v_all13 (v_cn (rfl : v_ln 179 = 50) c4)) ?_
      refine s_ek_bk 2 (P := 36) (ls' := [(0, .ref 151), (1, .int b)]) (st' := [.ref 151, .ref 151]) (M' := v_mk s5) rfl ?_
      refine v_gf rfl (v_gi (rfl : v_kd 151 = 11) rfl ⟨rfl, rfl, by decide⟩) ?_
      refine s_ek_bk 2 (P := 41) (ls' := [(0, .ref 151), (1, .int b)]) (st' := [.int ((s5.1 151 42) + (1 : Int32)), .ref 151]) (M' := v_mk s5) rfl ?_
      obtain ⟨s6, es6, h⟩ := v_ld h
      refine v_pf (M' := v_mk s6) rfl (by rw [es6]; exact v_pi (rfl : v_kd 151 = 11) rfl ⟨rfl, rfl, by decide⟩ rfl) ?_
      refine s_ek_bk 1 (P := 45) (ls' := [(0, .ref 151), (1, .int b)]) (st' := [.ref 151]) (M' := v_mk s6) rfl ?_
      refine v_gf rfl (v_gi (rfl : v_kd 151 = 11) rfl ⟨rfl, rfl, by decide⟩) ?_
      refine s_ek_bk 2 (P := 50) (ls' := [(0, .ref 151), (1, .int b)]) (st' := [.int ((s6.1 151 42) - (1 : Int32))]) (M' := v_mk s6) rfl ?_
      obtain ⟨rfl, rfl⟩ := v_so h
      exact v_ret (fun _ => rfl)
noncomputable def f_Md_isUnder (b : Int32) (c : Int32) (s : vS) : Option (Int32 × vS) := (if c.toInt = 0 then (some (1, s)) else (if b.toInt = c.toInt then (some (1, s)) else (if c.toInt = 1 then (if b.toInt = 4 then (some (1, s)) else (if c.toInt = 2 then (if b.toInt = 3 then (some (1, s)) else (if b.toInt = 5 then (some (1, s)) else (if c.toInt = 3 then (if b.toInt = 5 then (some (1, s)) else (if c.toInt = 6 then (if b.toInt = 7 then (some (1, s)) else (some (0, s))) else (some (0, s)))) else (if c.toInt = 6 then (if b.toInt = 7 then (some (1, s)) else (some (0, s))) else (some (0, s)))))) else (if c.toInt = 3 then (if b.toInt = 5 then (some (1, s)) else (if c.toInt = 6 then (if b.toInt = 7 then (some (1, s)) else (some (0, s))) else (some (0, s)))) else (if c.toInt = 6 then (if b.toInt = 7 then (some (1, s)) else (some (0, s))) else (some (0, s)))))) else (if c.toInt = 2 then (if b.toInt = 3 then (some (1, s)) else (if b.toInt = 5 then (some (1, s)) else (if c.toInt = 3 then (if b.toInt = 5 then (some (1, s)) else (if c.toInt = 6 then (if b.toInt = 7 then (some (1, s)) else (some (0, s))) else (some (0, s)))) else (if c.toInt = 6 then (if b.toInt = 7 then (some (1, s)) else (some (0, s))) else (some (0, s)))))) else (if c.toInt = 3 then (if b.toInt = 5 then (some (1, s)) else (if c.toInt = 6 then (if b.toInt = 7 then (some (1, s)) else (some (0, s))) else (some (0, s)))) else (if c.toInt = 6 then (if b.toInt = 7 then (some (1, s)) else (some (0, s))) else (some (0, s))))))))
set_option maxRecDepth 20000 in
set_option maxHeartbeats 4000000 in
theorem t_Md_isUnder {L : Nat} {xs : Nat → Int32} {b : Int32} {c : Int32} {D : Nat} {r : Int32} {s s' : vS} (h : f_Md_isUnder b c s = some (r, s')) (hD : 0 ≤ D) : s_Ek (s_rows 3 L xs) D s_e266.1 0 (lv_args 0 [.int b, .int c]) [] (v_mk s) (v_Q (some (.int r)) s') := by
  unfold f_Md_isUnder at h
  show s_Ek (s_rows 3 L xs) D s_e266.1 0 [(0, .int b), (1, .int c)] [] (v_mk s) _
  refine s_ek_bk 1 (P := 1) (ls' := [(0, .int b), (1, .int c)]) (st' := [.int c]) (M' := v_mk s) rfl ?_
  rcases v_if h with ⟨c1, h⟩ | ⟨c1, h⟩
  · refine v_i1t (T := 56) rfl rfl c1 ?_
    refine s_ek_bk 2 (P := 61) (ls' := [(0, .int b), (1, .int c)]) (st' := [.int 1]) (M' := v_mk s) rfl ?_
    obtain ⟨rfl, rfl⟩ := v_so h
    exact v_ret (fun _ => rfl)
  · refine v_i1f (T := 56) rfl rfl c1 ?_
    refine s_ek_bk 2 (P := 6) (ls' := [(0, .int b), (1, .int c)]) (st' := [.int c, .int b]) (M' := v_mk s) rfl ?_
    rcases v_if h with ⟨c2, h⟩ | ⟨c2, h⟩
    · refine v_i2t (T := 56) rfl rfl c2 ?_
      refine s_ek_bk 2 (P := 61) (ls' := [(0, .int b), (1, .int c)]) (st' := [.int 1]) (M' := v_mk s) rfl ?_
      obtain ⟨rfl, rfl⟩ := v_so h
      exact v_ret (fun _ => rfl)
    · refine v_i2f (T := 56) rfl rfl c2 ?_
      refine s_ek_bk 2 (P := 11) (ls' := [(0, .int b), (1, .int c)]) (st' := [.int 1, .int c]) (M' := v_mk s) rfl ?_
      rcases v_if h with ⟨c3, h⟩ | ⟨c3, h⟩
      · refine v_i2f (T := 19) rfl rfl (fun q => q c3) ?_
        refine s_ek_bk 2 (P := 16) (ls' := [(0, .int b), (1, .int c)]) (st' := [.int 4, .int b]) (M' := v_mk s) rfl ?_
        rcases v_if h with ⟨c4, h⟩ | ⟨c4, h⟩
        · refine v_i2t (T := 56) rfl rfl c4 ?_
          refine s_ek_bk 2 (P := 61) (ls' := [(0, .int b), (1, .int c)]) (st' := [.int 1]) (M' := v_mk s) rfl ?_
          obtain ⟨rfl, rfl⟩ := v_so h
          exact v_ret (fun _ => rfl)
        · refine v_i2f (T := 56) rfl rfl c4 ?_
          refine s_ek_bk 2 (P := 21) (ls' := [(0, .int b), (1, .int c)]) (st' := [.int 2, .int c]) (M' := v_mk s) rfl ?_
          rcases v_if h with ⟨c5, h⟩ | ⟨c5, h⟩
          · refine v_i2f (T := 34) rfl rfl (fun q => q c5) ?_
            refine s_ek_bk 2 (P := 26) (ls' := [(0, .int b), (1, .int c)]) (st' := [.int 3, .int b]) (M' := v_mk s) rfl ?_
            rcases v_if h with ⟨c6, h⟩ | ⟨c6, h⟩
            · refine v_i2t (T := 56) rfl rfl c6 ?_
              refine s_ek_bk 2 (P := 61) (ls' := [(0, .int b), (1, .int c)]) (st' := [.int 1]) (M' := v_mk s) rfl ?_
              obtain ⟨rfl, rfl⟩ := v_so h
              exact v_ret (fun _ => rfl)
            · refine v_i2f (T := 56) rfl rfl c6 ?_
              refine s_ek_bk 2 (P := 31) (ls' := [(0, .int b), (1, .int c)]) (st' := [.int 5, .int b]) (M' := v_mk s) rfl ?_
              rcases v_if h with ⟨c7, h⟩ | ⟨c7, h⟩
              · refine v_i2t (T := 56) rfl rfl c7 ?_
                refine s_ek_bk 2 (P := 61) (ls' := [(0, .int b), (1, .int c)]) (st' := [.int 1]) (M' := v_mk s) rfl ?_
                obtain ⟨rfl, rfl⟩ := v_so h
                exact v_ret (fun _ => rfl)
              · refine v_i2f (T := 56) rfl rfl c7 ?_
                refine s_ek_bk 2 (P := 36) (ls' := [(0, .int b), (1, .int c)]) (st' := [.int 3, .int c]) (M' := v_mk s) rfl ?_
                rcases v_if h with ⟨c8, h⟩ | ⟨c8, h⟩
                · refine v_i2f (T := 44) rfl rfl (fun q => q c8) ?_
                  refine s_ek_bk 2 (P := 41) (ls' := [(0, .int b), (1, .int c)]) (st' := [.int 5, .int b]) (M' := v_mk s) rfl ?_
                  rcases v_if h with ⟨c9, h⟩ | ⟨c9, h⟩
                  · refine v_i2t (T := 56) rfl rfl c9 ?_
                    refine s_ek_bk 2 (P := 61) (ls' := [(0, .int b), (1, .int c)]) (st' := [.int 1]) (M' := v_mk s) rfl ?_
                    obtain ⟨rfl, rfl⟩ := v_so h
                    exact v_ret (fun _ => rfl)
                  · refine v_i2f (T := 56) rfl rfl c9 ?_
                    refine s_ek_bk 2 (P := 47) (ls' := [(0, .int b), (1, .int c)]) (st' := [.int 6, .int c]) (M' := v_mk s) rfl ?_
                    rcases v_if h with ⟨c10, h⟩ | ⟨c10, h⟩
                    · refine v_i2f (T := 60) rfl rfl (fun q => q c10) ?_
                      refine s_ek_bk 2 (P := 53) (ls' := [(0, .int b), (1, .int c)]) (st' := [.int 7, .int b]) (M' := v_mk s) rfl ?_
                      rcases v_if h with ⟨c11, h⟩ | ⟨c11, h⟩
                      · refine v_i2f (T := 60) rfl rfl (fun q => q c11) ?_
                        refine s_ek_bk 2 (P := 61) (ls' := [(0, .int b), (1, .int c)]) (st' := [.int 1]) (M' := v_mk s) rfl ?_
                        obtain ⟨rfl, rfl⟩ := v_so h
                        exact v_ret (fun _ => rfl)
                      · refine v_i2t (T := 60) rfl rfl c11 ?_
                        refine s_ek_bk 1 (P := 61) (ls' := [(0, .int b), (1, .int c)]) (st' := [.int 0]) (M' := v_mk s) rfl ?_
                        obtain ⟨rfl, rfl⟩ := v_so h
                        exact v_ret (fun _ => rfl)
                    · refine v_i2t (T := 60) rfl rfl c10 ?_
                      refine s_ek_bk 1 (P := 61) (ls' := [(0, .int b), (1, .int c)]) (st' := [.int 0]) (M' := v_mk s) rfl ?_
                      obtain ⟨rfl, rfl⟩ := v_so h
                      exact v_ret (fun _ => rfl)
                · refine v_i2t (T := 44) rfl rfl c8 ?_
                  refine s_ek_bk 2 (P := 47) (ls' := [(0, .int b), (1, .int c)]) (st' := [.int 6, .int c]) (M' := v_mk s) rfl ?_
                  rcases v_if h with ⟨c12, h⟩ | ⟨c12, h⟩
                  · refine v_i2f (T := 60) rfl rfl (fun q => q c12) ?_
                    refine s_ek_bk 2 (P := 53) (ls' := [(0, .int b), (1, .int c)]) (st' := [.int 7, .int b]) (M' := v_mk s) rfl ?_
                    rcases v_if h with ⟨c13, h⟩ | ⟨c13, h⟩
                    · refine v_i2f (T := 60) rfl rfl (fun q => q c13) ?_
                      refine s_ek_bk 2 (P := 61) (ls' := [(0, .int b), (1, .int c)]) (st' := [.int 1]) (M' := v_mk s) rfl ?_
                      obtain ⟨rfl, rfl⟩ := v_so h
                      exact v_ret (fun _ => rfl)
                    · refine v_i2t (T := 60) rfl rfl c13 ?_
                      refine s_ek_bk 1 (P := 61) (ls' := [(0, .int b), (1, .int c)]) (st' := [.int 0]) (M' := v_mk s) rfl ?_
                      obtain ⟨rfl, rfl⟩ := v_so h
                      exact v_ret (fun _ => rfl)
                  · refine v_i2t (T := 60) rfl rfl c12 ?_
                    refine s_ek_bk 1 (P := 61) (ls' := [(0, .int b), (1, .int c)]) (st' := [.int 0]) (M' := v_mk s) rfl ?_
                    obtain ⟨rfl, rfl⟩ := v_so h
                    exact v_ret (fun _ => rfl)
          · refine v_i2t (T := 34) rfl rfl c5 ?_
            refine s_ek_bk 2 (P := 36) (ls' := [(0, .int b), (1, .int c)]) (st' := [.int 3, .int c]) (M' := v_mk s) rfl ?_
            rcases v_if h with ⟨c14, h⟩ | ⟨c14, h⟩
            · refine v_i2f (T := 44) rfl rfl (fun q => q c14) ?_
              refine s_ek_bk 2 (P := 41) (ls' := [(0, .int b), (1, .int c)]) (st' := [.int 5, .int b]) (M' := v_mk s) rfl ?_
              rcases v_if h with ⟨c15, h⟩ | ⟨c15, h⟩
              · refine v_i2t (T := 56) rfl rfl c15 ?_
                refine s_ek_bk 2 (P := 61) (ls' := [(0, .int b), (1, .int c)]) (st' := [.int 1]) (M' := v_mk s) rfl ?_
                obtain ⟨rfl, rfl⟩ := v_so h
                exact v_ret (fun _ => rfl)
              · refine v_i2f (T := 56) rfl rfl c15 ?_
                refine s_ek_bk 2 (P := 47) (ls' := [(0, .int b), (1, .int c)]) (st' := [.int 6, .int c]) (M' := v_mk s) rfl ?_
                rcases v_if h with ⟨c16, h⟩ | ⟨c16, h⟩
                · refine v_i2f (T := 60) rfl rfl (fun q => q c16) ?_
                  refine s_ek_bk 2 (P := 53) (ls' := [(0, .int b), (1, .int c)]) (st' := [.int 7, .int b]) (M' := v_mk s) rfl ?_
                  rcases v_if h with ⟨c17, h⟩ | ⟨c17, h⟩
                  · refine v_i2f (T := 60) rfl rfl (fun q => q c17) ?_
                    refine s_ek_bk 2 (P := 61) (ls' := [(0, .int b), (1, .int c)]) (st' := [.int 1]) (M' := v_mk s) rfl ?_
                    obtain ⟨rfl, rfl⟩ := v_so h
                    exact v_ret (fun _ => rfl)
                  · refine v_i2t (T := 60) rfl rfl c17 ?_
                    refine s_ek_bk 1 (P := 61) (ls' := [(0, .int b), (1, .int c)]) (st' := [.int 0]) (M' := v_mk s) rfl ?_
                    obtain ⟨rfl, rfl⟩ := v_so h
                    exact v_ret (fun _ => rfl)
                · refine v_i2t (T := 60) rfl rfl c16 ?_
                  refine s_ek_bk 1 (P := 61) (ls' := [(0, .int b), (1, .int c)]) (st' := [.int 0]) (M' := v_mk s) rfl ?_
                  obtain ⟨rfl, rfl⟩ := v_so h
                  exact v_ret (fun _ => rfl)
            · refine v_i2t (T := 44) rfl rfl c14 ?_
              refine s_ek_bk 2 (P := 47) (ls' := [(0, .int b), (1, .int c)]) (st' := [.int 6, .int c]) (M' := v_mk s) rfl ?_
              rcases v_if h with ⟨c18, h⟩ | ⟨c18, h⟩
              · refine v_i2f (T := 60) rfl rfl (fun q => q c18) ?_
                refine s_ek_bk 2 (P := 53) (ls' := [(0, .int b), (1, .int c)]) (st' := [.int 7, .int b]) (M' := v_mk s) rfl ?_
                rcases v_if h with ⟨c19, h⟩ | ⟨c19, h⟩
                · refine v_i2f (T := 60) rfl rfl (fun q => q c19) ?_
                  refine s_ek_bk 2 (P := 61) (ls' := [(0, .int b), (1, .int c)]) (st' := [.int 1]) (M' := v_mk s) rfl ?_
                  obtain ⟨rfl, rfl⟩ := v_so h
                  exact v_ret (fun _ => rfl)
                · refine v_i2t (T := 60) rfl rfl c19 ?_
                  refine s_ek_bk 1 (P := 61) (ls' := [(0, .int b), (1, .int c)]) (st' := [.int 0]) (M' := v_mk s) rfl ?_
                  obtain ⟨rfl, rfl⟩ := v_so h
                  exact v_ret (fun _ => rfl)
              · refine v_i2t (T := 60) rfl rfl c18 ?_
                refine s_ek_bk 1 (P := 61) (ls' := [(0, .int b), (1, .int c)]) (st' := [.int 0]) (M' := v_mk s) rfl ?_
                obtain ⟨rfl, rfl⟩ := v_so h
                exact v_ret (fun _ => rfl)
      · refine v_i2t (T := 19) rfl rfl c3 ?_
        refine s_ek_bk 2 (P := 21) (ls' := [(0, .int b), (1, .int c)]) (st' := [.int 2, .int c]) (M' := v_mk s) rfl ?_
        rcases v_if h with ⟨c20, h⟩ | ⟨c20, h⟩
        · refine v_i2f (T := 34) rfl rfl (fun q => q c20) ?_
          refine s_ek_bk 2 (P := 26) (ls' := [(0, .int b), (1, .int c)]) (st' := [.int 3, .int b]) (M' := v_mk s) rfl ?_
          rcases v_if h with ⟨c21, h⟩ | ⟨c21, h⟩
          · refine v_i2t (T := 56) rfl rfl c21 ?_
            refine s_ek_bk 2 (P := 61) (ls' := [(0, .int b), (1, .int c)]) (st' := [.int 1]) (M' := v_mk s) rfl ?_
            obtain ⟨rfl, rfl⟩ := v_so h
            exact v_ret (fun _ => rfl)
          · refine v_i2f (T := 56) rfl rfl c21 ?_
            refine s_ek_bk 2 (P := 31) (ls' := [(0, .int b), (1, .int c)]) (st' := [.int 5, .int b]) (M' := v_mk s) rfl ?_
            rcases v_if h with ⟨c22, h⟩ | ⟨c22, h⟩
            · refine v_i2t (T := 56) rfl rfl c22 ?_
              refine s_ek_bk 2 (P := 61) (ls' := [(0, .int b), (1, .int c)]) (st' := [.int 1]) (M' := v_mk s) rfl ?_
              obtain ⟨rfl, rfl⟩ := v_so h
              exact v_ret (fun _ => rfl)
            · refine v_i2f (T := 56) rfl rfl c22 ?_
              refine s_ek_bk 2 (P := 36) (ls' := [(0, .int b), (1, .int c)]) (st' := [.int 3, .int c]) (M' := v_mk s) rfl ?_
              rcases v_if h with ⟨c23, h⟩ | ⟨c23, h⟩
              · refine v_i2f (T := 44) rfl rfl (fun q => q c23) ?_
                refine s_ek_bk 2 (P := 41) (ls' := [(0, .int b), (1, .int c)]) (st' := [.int 5, .int b]) (M' := v_mk s) rfl ?_
                rcases v_if h with ⟨c24, h⟩ | ⟨c24, h⟩
                · refine v_i2t (T := 56) rfl rfl c24 ?_
                  refine s_ek_bk 2 (P := 61) (ls' := [(0, .int b), (1, .int c)]) (st' := [.int 1]) (M' := v_mk s) rfl ?_
                  obtain ⟨rfl, rfl⟩ := v_so h
                  exact v_ret (fun _ => rfl)
                · refine v_i2f (T := 56) rfl rfl c24 ?_
                  refine s_ek_bk 2 (P := 47) (ls' := [(0, .int b), (1, .int c)]) (st' := [.int 6, .int c]) (M' := v_mk s) rfl ?_
                  rcases v_if h with ⟨c25, h⟩ | ⟨c25, h⟩
                  · refine v_i2f (T := 60) rfl rfl (fun q => q c25) ?_
                    refine s_ek_bk 2 (P := 53) (ls' := [(0, .int b), (1, .int c)]) (st' := [.int 7, .int b]) (M' := v_mk s) rfl ?_
                    rcases v_if h with ⟨c26, h⟩ | ⟨c26, h⟩
                    · refine v_i2f (T := 60) rfl rfl (fun q => q c26) ?_
                      refine s_ek_bk 2 (P := 61) (ls' := [(0, .int b), (1, .int c)]) (st' := [.int 1]) (M' := v_mk s) rfl ?_
                      obtain ⟨rfl, rfl⟩ := v_so h
                      exact v_ret (fun _ => rfl)
                    · refine v_i2t (T := 60) rfl rfl c26 ?_
                      refine s_ek_bk 1 (P := 61) (ls' := [(0, .int b), (1, .int c)]) (st' := [.int 0]) (M' := v_mk s) rfl ?_
                      obtain ⟨rfl, rfl⟩ := v_so h
                      exact v_ret (fun _ => rfl)
                  · refine v_i2t (T := 60) rfl rfl c25 ?_
                    refine s_ek_bk 1 (P := 61) (ls' := [(0, .int b), (1, .int c)]) (st' := [.int 0]) (M' := v_mk s) rfl ?_
                    obtain ⟨rfl, rfl⟩ := v_so h
                    exact v_ret (fun _ => rfl)
              · refine v_i2t (T := 44) rfl rfl c23 ?_
                refine s_ek_bk 2 (P := 47) (ls' := [(0, .int b), (1, .int c)]) (st' := [.int 6, .int c]) (M' := v_mk s) rfl ?_
                rcases v_if h with ⟨c27, h⟩ | ⟨c27, h⟩
                · refine v_i2f (T := 60) rfl rfl (fun q => q c27) ?_
                  refine s_ek_bk 2 (P := 53) (ls' := [(0, .int b), (1, .int c)]) (st' := [.int 7, .int b]) (M' := v_mk s) rfl ?_
                  rcases v_if h with ⟨c28, h⟩ | ⟨c28, h⟩
                  · refine v_i2f (T := 60) rfl rfl (fun q => q c28) ?_
                    refine s_ek_bk 2 (P := 61) (ls' := [(0, .int b), (1, .int c)]) (st' := [.int 1]) (M' := v_mk s) rfl ?_
                    obtain ⟨rfl, rfl⟩ := v_so h
                    exact v_ret (fun _ => rfl)
                  · refine v_i2t (T := 60) rfl rfl c28 ?_
                    refine s_ek_bk 1 (P := 61) (ls' := [(0, .int b), (1, .int c)]) (st' := [.int 0]) (M' := v_mk s) rfl ?_
                    obtain ⟨rfl, rfl⟩ := v_so h
                    exact v_ret (fun _ => rfl)
                · refine v_i2t (T := 60) rfl rfl c27 ?_
                  refine s_ek_bk 1 (P := 61) (ls' := [(0, .int b), (1, .int c)]) (st' := [.int 0]) (M' := v_mk s) rfl ?_
                  obtain ⟨rfl, rfl⟩ := v_so h
                  exact v_ret (fun _ => rfl)
        · refine v_i2t (T := 34) rfl rfl c20 ?_
          refine s_ek_bk 2 (P := 36) (ls' := [(0, .int b), (1, .int c)]) (st' := [.int 3, .int c]) (M' := v_mk s) rfl ?_
          rcases v_if h with ⟨c29, h⟩ | ⟨c29, h⟩
          · refine v_i2f (T := 44) rfl rfl (fun q => q c29) ?_
            refine s_ek_bk 2 (P := 41) (ls' := [(0, .int b), (1, .int c)]) (st' := [.int 5, .int b]) (M' := v_mk s) rfl ?_
            rcases v_if h with ⟨c30, h⟩ | ⟨c30, h⟩
            · refine v_i2t (T := 56) rfl rfl c30 ?_
              refine s_ek_bk 2 (P := 61) (ls' := [(0, .int b), (1, .int c)]) (st' := [.int 1]) (M' := v_mk s) rfl ?_
              obtain ⟨rfl, rfl⟩ := v_so h
              exact v_ret (fun _ => rfl)
            · refine v_i2f (T := 56) rfl rfl c30 ?_
              refine s_ek_bk 2 (P := 47) (ls' := [(0, .int b), (1, .int c)]) (st' := [.int 6, .int c]) (M' := v_mk s) rfl ?_
              rcases v_if h with ⟨c31, h⟩ | ⟨c31, h⟩
              · refine v_i2f (T := 60) rfl rfl (fun q => q c31) ?_
                refine s_ek_bk 2 (P := 53) (ls' := [(0, .int b), (1, .int c)]) (st' := [.int 7, .int b]) (M' := v_mk s) rfl ?_
                rcases v_if h with ⟨c32, h⟩ | ⟨c32, h⟩
                · refine v_i2f (T := 60) rfl rfl (fun q => q c32) ?_
                  refine s_ek_bk 2 (P := 61) (ls' := [(0, .int b), (1, .int c)]) (st' := [.int 1]) (M' := v_mk s) rfl ?_
                  obtain ⟨rfl, rfl⟩ := v_so h
                  exact v_ret (fun _ => rfl)
                · refine v_i2t (T := 60) rfl rfl c32 ?_
                  refine s_ek_bk 1 (P := 61) (ls' := [(0, .int b), (1, .int c)]) (st' := [.int 0]) (M' := v_mk s) rfl ?_
                  obtain ⟨rfl, rfl⟩ := v_so h
                  exact v_ret (fun _ => rfl)
              · refine v_i2t (T := 60) rfl rfl c31 ?_
                refine s_ek_bk 1 (P := 61) (ls' := [(0, .int b), (1, .int c)]) (st' := [.int 0]) (M' := v_mk s) rfl ?_
                obtain ⟨rfl, rfl⟩ := v_so h
                exact v_ret (fun _ => rfl)
          · refine v_i2t (T := 44) rfl rfl c29 ?_
            refine s_ek_bk 2 (P := 47) (ls' := [(0, .int b), (1, .int c)]) (st' := [.int 6, .int c]) (M' := v_mk s) rfl ?_
            rcases v_if h with ⟨c33, h⟩ | ⟨c33, h⟩
            · refine v_i2f (T := 60) rfl rfl (fun q => q c33) ?_
              refine s_ek_bk 2 (P := 53) (ls' := [(0, .int b), (1, .int c)]) (st' := [.int 7, .int b]) (M' := v_mk s) rfl ?_
              rcases v_if h with ⟨c34, h⟩ | ⟨c34, h⟩
              · refine v_i2f (T := 60) rfl rfl (fun q => q c34) ?_
                refine s_ek_bk 2 (P := 61) (ls' := [(0, .int b), (1, .int c)]) (st' := [.int 1]) (M' := v_mk s) rfl ?_
                obtain ⟨rfl, rfl⟩ := v_so h
                exact v_ret (fun _ => rfl)
              · refine v_i2t (T := 60) rfl rfl c34 ?_
                refine s_ek_bk 1 (P := 61) (ls' := [(0, .int b), (1, .int c)]) (st' := [.int 0]) (M' := v_mk s) rfl ?_
                obtain ⟨rfl, rfl⟩ := v_so h
                exact v_ret (fun _ => rfl)
            · refine v_i2t (T := 60) rfl rfl c33 ?_
              refine s_ek_bk 1 (P := 61) (ls' := [(0, .int b), (1, .int c)]) (st' := [.int 0]) (M' := v_mk s) rfl ?_
              obtain ⟨rfl, rfl⟩ := v_so h
              exact v_ret (fun _ => rfl)
noncomputable def f_Md_plainSays (b : Int32) (c : Int32) (s : vS) : Option (Int32 × vS) := (v_bi (f_Md_ran 1 s) (fun _ s1 => (some ((c + b), s1))))
set_option maxRecDepth 20000 in
set_option maxHeartbeats 4000000 in
theorem t_Md_plainSays {L : Nat} {xs : Nat → Int32} {b : Int32} {c : Int32} {D : Nat} {r : Int32} {s s' : vS} (h : f_Md_plainSays b c s = some (r, s')) (hD : 1 ≤ D) : s_Ek (s_rows 3 L xs) D s_e267.1 0 (lv_args 0 [.ref 151, .int b, .int c]) [] (v_mk s) (v_Q (some (.int r)) s') := by
  unfold f_Md_plainSays at h
  show s_Ek (s_rows 3 L xs) D s_e267.1 0 [(0, .ref 151), (1, .int b), (2, .int c)] [] (v_mk s) _
  refine s_ek_bk 2 (P := 2) (ls' := [(0, .ref 151), (1, .int b), (2, .int c)]) (st' := [.int 1, .ref 151]) (M' := v_mk s) rfl ?_
  obtain ⟨r1, s1, e1, h⟩ := v_bd h
  refine v_cV (ν := s_e263.1) (w := 2105) (a := 151) (as' := [.int 1]) (r := []) (o := none) (by omega) rfl rfl rfl (v_mk_kd (k := 11) (rfl : v_kd 151 = 11) (by decide)) rfl (t_Md_ran e1 (by omega)) ?_
  show s_Ek (s_rows 3 L xs) D s_e267.1 5 [(0, .ref 151), (1, .int b), (2, .int c)] [] (v_mk s1) _
  refine s_ek_bk 3 (P := 8) (ls' := [(0, .ref 151), (1, .int b), (2, .int c)]) (st' := [.int (c + b)]) (M' := v_mk s1) rfl ?_
  obtain ⟨rfl, rfl⟩ := v_so h
  exact v_ret (fun _ => rfl)
noncomputable def f_Md_wordSays (b : Int32) (c : Int32) (s : vS) : Option (Int32 × vS) := (v_bi (f_Md_ran 70 s) (fun _ s1 => (v_bi (f_Md_plainSays b c s1) (fun r2 s2 => (some ((r2 * (2 : Int32)), s2))))))
set_option maxRecDepth 20000 in
set_option maxHeartbeats 4000000 in
theorem t_Md_wordSays {L : Nat} {xs : Nat → Int32} {b : Int32} {c : Int32} {D : Nat} {r : Int32} {s s' : vS} (h : f_Md_wordSays b c s = some (r, s')) (hD : 2 ≤ D) : s_Ek (s_rows 3 L xs) D s_e268.1 0 (lv_args 0 [.ref 151, .int b, .int c]) [] (v_mk s) (v_Q (some (.int r)) s') := by
  unfold f_Md_wordSays at h
  show s_Ek (s_rows 3 L xs) D s_e268.1 0 [(0, .ref 151), (1, .int b), (2, .int c)] [] (v_mk s) _
  refine s_ek_bk 2 (P := 3) (ls' := [(0, .ref 151), (1, .int b), (2, .int c)]) (st' := [.int 70, .ref 151]) (M' := v_mk s) rfl ?_
  obtain ⟨r1, s1, e1, h⟩ := v_bd h
  refine v_cV (ν := s_e263.1) (w := 2105) (a := 151) (as' := [.int 70]) (r := []) (o := none) (by omega) rfl rfl rfl (v_mk_kd (k := 11) (rfl : v_kd 151 = 11) (by decide)) rfl (t_Md_ran e1 (by omega)) ?_
  show s_Ek (s_rows 3 L xs) D s_e268.1 6 [(0, .ref 151), (1, .int b), (2, .int c)] [] (v_mk s1) _
  refine s_ek_bk 3 (P := 9) (ls' := [(0, .ref 151), (1, .int b), (2, .int c)]) (st' := [.int c, .int b, .ref 151]) (M' := v_mk s1) rfl ?_
  obtain ⟨r2, s2, e2, h⟩ := v_bd h
  refine v_cV (ν := s_e267.1) (w := 2138) (a := 151) (as' := [.int b, .int c]) (r := []) (o := some (.int r2)) (by omega) rfl rfl rfl (v_mk_kd (k := 11) (rfl : v_kd 151 = 11) (by decide)) rfl (t_Md_plainSays e2 (by omega)) ?_
  show s_Ek (s_rows 3 L xs) D s_e268.1 12 [(0, .ref 151), (1, .int b), (2, .int c)] [.int r2] (v_mk s2) _
  refine s_ek_bk 2 (P := 14) (ls' := [(0, .ref 151), (1, .int b), (2, .int c)]) (st' := [.int (r2 * (2 : Int32))]) (M' := v_mk s2) rfl ?_
  obtain ⟨rfl, rfl⟩ := v_so h
  exact v_ret (fun _ => rfl)
noncomputable def f_Md_saying (b : Int32) (c : Int32) (s : vS) : Option (Int32 × vS) := (if v_in b 50 then (v_bi (f_Md_isUnder (s.1 179 (Int32.toNatClampNeg b)) 1 s) (fun r2 s2 => (if r2.toInt = 0 then (if v_in b 50 then (if (s2.1 179 (Int32.toNatClampNeg b)).toInt = 7 then (v_bi (f_Md_ran 81 s2) (fun _ s6 => (v_bi (f_Md_wordSays b c s6) (fun r7 s7 => (some ((r7 - (1 : Int32)), s7)))))) else (if v_in b 50 then (if (s2.1 179 (Int32.toNatClampNeg b)).toInt = 6 then (v_bi (f_Md_wordSays b c s2) (fun r10 s10 => (some (r10, s10)))) else (v_bi (f_Md_plainSays b c s2) (fun r11 s11 => (some (r11, s11))))) else none)) else none) else (v_bi (f_Md_ran 20 s2) (fun _ s12 => (v_bi (f_Md_plainSays b c s12) (fun r13 s13 => (some ((r13 + (3 : Int32)), s13))))))))) else none)
set_option maxRecDepth 20000 in
set_option maxHeartbeats 4000000 in
theorem t_Md_saying {L : Nat} {xs : Nat → Int32} {b : Int32} {c : Int32} {D : Nat} {r : Int32} {s s' : vS} (h : f_Md_saying b c s = some (r, s')) (hD : 3 ≤ D) : s_Ek (s_rows 3 L xs) D s_e269.1 0 (lv_args 0 [.ref 151, .int b, .int c]) [] (v_mk s) (v_Q (some (.int r)) s') := by
  unfold f_Md_saying at h
  show s_Ek (s_rows 3 L xs) D s_e269.1 0 [(0, .ref 151), (1, .int b), (2, .int c)] [] (v_mk s) _
  refine s_ek_bk 1 (P := 1) (ls' := [(0, .ref 151), (1, .int b), (2, .int c)]) (st' := [.ref 151]) (M' := v_mk s) rfl ?_
  refine v_gf rfl (v_gr (rfl : v_kd 151 = 11) (rfl : v_sl 151 43 = .ref 179) ⟨rfl, rfl, by decide⟩) ?_
  refine s_ek_bk 1 (P := 5) (ls' := [(0, .ref 151), (1, .int b), (2, .int c)]) (st' := [.int b, .ref 179]) (M' := v_mk s) rfl ?_
  obtain ⟨c1, h⟩ := v_ck h
  refine v_ia (i := b) rfl (v_ai (rfl : v_kd 179 = 13) rfl (by decide) v_all13 (v_cn (rfl : v_ln 179 = 50) c1)) ?_
  refine s_ek_bk 1 (P := 7) (ls' := [(0, .ref 151), (1, .int b), (2, .int c)]) (st' := [.int 1, .int (s.1 179 (Int32.toNatClampNeg b))]) (M' := v_mk s) rfl ?_
  obtain ⟨r2, s2, e2, h⟩ := v_bd h
  refine v_cS (ν := s_e266.1) (w := 2130) (as := [.int (s.1 179 (Int32.toNatClampNeg b)), .int 1]) (r := []) (o := some (.int r2)) (by omega) rfl rfl rfl rfl (t_Md_isUnder e2 (by omega)) ?_
  show s_Ek (s_rows 3 L xs) D s_e269.1 10 [(0, .ref 151), (1, .int b), (2, .int c)] [.int r2] (v_mk s2) _
  rcases v_if h with ⟨c3, h⟩ | ⟨c3, h⟩
  · refine v_i1t (T := 28) rfl rfl c3 ?_
    refine s_ek_bk 1 (P := 29) (ls' := [(0, .ref 151), (1, .int b), (2, .int c)]) (st' := [.ref 151]) (M' := v_mk s2) rfl ?_
    refine v_gf rfl (v_gr (rfl : v_kd 151 = 11) (rfl : v_sl 151 43 = .ref 179) ⟨rfl, rfl, by decide⟩) ?_
    refine s_ek_bk 1 (P := 33) (ls' := [(0, .ref 151), (1, .int b), (2, .int c)]) (st' := [.int b, .ref 179]) (M' := v_mk s2) rfl ?_
    obtain ⟨c4, h⟩ := v_ck h
    refine v_ia (i := b) rfl (v_ai (rfl : v_kd 179 = 13) rfl (by decide) v_all13 (v_cn (rfl : v_ln 179 = 50) c4)) ?_
    refine s_ek_bk 1 (P := 36) (ls' := [(0, .ref 151), (1, .int b), (2, .int c)]) (st' := [.int 7, .int (s2.1 179 (Int32.toNatClampNeg b))]) (M' := v_mk s2) rfl ?_
    rcases v_if h with ⟨c5, h⟩ | ⟨c5, h⟩
    · refine v_i2f (T := 54) rfl rfl (fun q => q c5) ?_
      refine s_ek_bk 2 (P := 42) (ls' := [(0, .ref 151), (1, .int b), (2, .int c)]) (st' := [.int 81, .ref 151]) (M' := v_mk s2) rfl ?_
      obtain ⟨r6, s6, e6, h⟩ := v_bd h
      refine v_cV (ν := s_e263.1) (w := 2105) (a := 151) (as' := [.int 81]) (r := []) (o := none) (by omega) rfl rfl rfl (v_mk_kd (k := 11) (rfl : v_kd 151 = 11) (by decide)) rfl (t_Md_ran e6 (by omega)) ?_
      show s_Ek (s_rows 3 L xs) D s_e269.1 45 [(0, .ref 151), (1, .int b), (2, .int c)] [] (v_mk s6) _
      refine s_ek_bk 3 (P := 48) (ls' := [(0, .ref 151), (1, .int b), (2, .int c)]) (st' := [.int c, .int b, .ref 151]) (M' := v_mk s6) rfl ?_
      obtain ⟨r7, s7, e7, h⟩ := v_bd h
      refine v_cV (ν := s_e268.1) (w := 2146) (a := 151) (as' := [.int b, .int c]) (r := []) (o := some (.int r7)) (by omega) rfl rfl rfl (v_mk_kd (k := 11) (rfl : v_kd 151 = 11) (by decide)) rfl (t_Md_wordSays e7 (by omega)) ?_
      show s_Ek (s_rows 3 L xs) D s_e269.1 51 [(0, .ref 151), (1, .int b), (2, .int c)] [.int r7] (v_mk s7) _
      refine s_ek_bk 2 (P := 53) (ls' := [(0, .ref 151), (1, .int b), (2, .int c)]) (st' := [.int (r7 - (1 : Int32))]) (M' := v_mk s7) rfl ?_
      obtain ⟨rfl, rfl⟩ := v_so h
      exact v_ret (fun _ => rfl)
    · refine v_i2t (T := 54) rfl rfl c5 ?_
      refine s_ek_bk 1 (P := 55) (ls' := [(0, .ref 151), (1, .int b), (2, .int c)]) (st' := [.ref 151]) (M' := v_mk s2) rfl ?_
      refine v_gf rfl (v_gr (rfl : v_kd 151 = 11) (rfl : v_sl 151 43 = .ref 179) ⟨rfl, rfl, by decide⟩) ?_
      refine s_ek_bk 1 (P := 59) (ls' := [(0, .ref 151), (1, .int b), (2, .int c)]) (st' := [.int b, .ref 179]) (M' := v_mk s2) rfl ?_
      obtain ⟨c8, h⟩ := v_ck h
      refine v_ia (i := b) rfl (v_ai (rfl : v_kd 179 = 13) rfl (by decide) v_all13 (v_cn (rfl : v_ln 179 = 50) c8)) ?_
      refine s_ek_bk 1 (P := 62) (ls' := [(0, .ref 151), (1, .int b), (2, .int c)]) (st' := [.int 6, .int (s2.1 179 (Int32.toNatClampNeg b))]) (M' := v_mk s2) rfl ?_
      rcases v_if h with ⟨c9, h⟩ | ⟨c9, h⟩
      · refine v_i2f (T := 74) rfl rfl (fun q => q c9) ?_
        refine s_ek_bk 3 (P := 68) (ls' := [(0, .ref 151), (1, .int b), (2, .int c)]) (st' := [.int c, .int b, .ref 151]) (M' := v_mk s2) rfl ?_
        obtain ⟨r10, s10, e10, h⟩ := v_bd h
        refine v_cV (ν := s_e268.1) (w := 2146) (a := 151) (as' := [.int b, .int c]) (r := []) (o := some (.int r10)) (by omega) rfl rfl rfl (v_mk_kd (k := 11) (rfl : v_kd 151 = 11) (by decide)) rfl (t_Md_wordSays e10 (by omega)) ?_
        show s_Ek (s_rows 3 L xs) D s_e269.1 71 [(0, .ref 151), (1, .int b), (2, .int c)] [.int r10] (v_mk s10) _
        refine s_ek_bk 1 (P := 80) (ls' := [(0, .ref 151), (1, .int b), (2, .int c)]) (st' := [.int r10]) (M' := v_mk s10) rfl ?_
        obtain ⟨rfl, rfl⟩ := v_so h
        exact v_ret (fun _ => rfl)
      · refine v_i2t (T := 74) rfl rfl c9 ?_
        refine s_ek_bk 3 (P := 77) (ls' := [(0, .ref 151), (1, .int b), (2, .int c)]) (st' := [.int c, .int b, .ref 151]) (M' := v_mk s2) rfl ?_
        obtain ⟨r11, s11, e11, h⟩ := v_bd h
        refine v_cV (ν := s_e267.1) (w := 2138) (a := 151) (as' := [.int b, .int c]) (r := []) (o := some (.int r11)) (by omega) rfl rfl rfl (v_mk_kd (k := 11) (rfl : v_kd 151 = 11) (by decide)) rfl (t_Md_plainSays e11 (by omega)) ?_
        show s_Ek (s_rows 3 L xs) D s_e269.1 80 [(0, .ref 151), (1, .int b), (2, .int c)] [.int r11] (v_mk s11) _
        obtain ⟨rfl, rfl⟩ := v_so h
        exact v_ret (fun _ => rfl)
  · refine v_i1f (T := 28) rfl rfl c3 ?_
    refine s_ek_bk 2 (P := 16) (ls' := [(0, .ref 151), (1, .int b), (2, .int c)]) (st' := [.int 20, .ref 151]) (M' := v_mk s2) rfl ?_
    obtain ⟨r12, s12, e12, h⟩ := v_bd h
    refine v_cV (ν := s_e263.1) (w := 2105) (a := 151) (as' := [.int 20]) (r := []) (o := none) (by omega) rfl rfl rfl (v_mk_kd (k := 11) (rfl : v_kd 151 = 11) (by decide)) rfl (t_Md_ran e12 (by omega)) ?_
    show s_Ek (s_rows 3 L xs) D s_e269.1 19 [(0, .ref 151), (1, .int b), (2, .int c)] [] (v_mk s12) _
    refine s_ek_bk 3 (P := 22) (ls' := [(0, .ref 151), (1, .int b), (2, .int c)]) (st' := [.int c, .int b, .ref 151]) (M' := v_mk s12) rfl ?_
    obtain ⟨r13, s13, e13, h⟩ := v_bd h
    refine v_cV (ν := s_e267.1) (w := 2138) (a := 151) (as' := [.int b, .int c]) (r := []) (o := some (.int r13)) (by omega) rfl rfl rfl (v_mk_kd (k := 11) (rfl : v_kd 151 = 11) (by decide)) rfl (t_Md_plainSays e13 (by omega)) ?_
    show s_Ek (s_rows 3 L xs) D s_e269.1 25 [(0, .ref 151), (1, .int b), (2, .int c)] [.int r13] (v_mk s13) _
    refine s_ek_bk 2 (P := 27) (ls' := [(0, .ref 151), (1, .int b), (2, .int c)]) (st' := [.int (r13 + (3 : Int32))]) (M' := v_mk s13) rfl ?_
    obtain ⟨rfl, rfl⟩ := v_so h
    exact v_ret (fun _ => rfl)
noncomputable def f_Md_plainHolds (b : Int32) (c : Int32) (s : vS) : Option (Int32 × vS) := (v_bi (f_Md_ran 10 s) (fun _ s1 => (v_bi (f_Md_saying b c s1) (fun r2 s2 => (some ((r2 * (2 : Int32)), s2))))))
set_option maxRecDepth 20000 in
set_option maxHeartbeats 4000000 in
theorem t_Md_plainHolds {L : Nat} {xs : Nat → Int32} {b : Int32} {c : Int32} {D : Nat} {r : Int32} {s s' : vS} (h : f_Md_plainHolds b c s = some (r, s')) (hD : 4 ≤ D) : s_Ek (s_rows 3 L xs) D s_e270.1 0 (lv_args 0 [.ref 151, .int b, .int c]) [] (v_mk s) (v_Q (some (.int r)) s') := by
  unfold f_Md_plainHolds at h
  show s_Ek (s_rows 3 L xs) D s_e270.1 0 [(0, .ref 151), (1, .int b), (2, .int c)] [] (v_mk s) _
  refine s_ek_bk 2 (P := 3) (ls' := [(0, .ref 151), (1, .int b), (2, .int c)]) (st' := [.int 10, .ref 151]) (M' := v_mk s) rfl ?_
  obtain ⟨r1, s1, e1, h⟩ := v_bd h
  refine v_cV (ν := s_e263.1) (w := 2105) (a := 151) (as' := [.int 10]) (r := []) (o := none) (by omega) rfl rfl rfl (v_mk_kd (k := 11) (rfl : v_kd 151 = 11) (by decide)) rfl (t_Md_ran e1 (by omega)) ?_
  show s_Ek (s_rows 3 L xs) D s_e270.1 6 [(0, .ref 151), (1, .int b), (2, .int c)] [] (v_mk s1) _
  refine s_ek_bk 3 (P := 9) (ls' := [(0, .ref 151), (1, .int b), (2, .int c)]) (st' := [.int c, .int b, .ref 151]) (M' := v_mk s1) rfl ?_
  obtain ⟨r2, s2, e2, h⟩ := v_bd h
  refine v_cV (ν := s_e269.1) (w := 2154) (a := 151) (as' := [.int b, .int c]) (r := []) (o := some (.int r2)) (by omega) rfl rfl rfl (v_mk_kd (k := 11) (rfl : v_kd 151 = 11) (by decide)) rfl (t_Md_saying e2 (by omega)) ?_
  show s_Ek (s_rows 3 L xs) D s_e270.1 12 [(0, .ref 151), (1, .int b), (2, .int c)] [.int r2] (v_mk s2) _
  refine s_ek_bk 2 (P := 14) (ls' := [(0, .ref 151), (1, .int b), (2, .int c)]) (st' := [.int (r2 * (2 : Int32))]) (M' := v_mk s2) rfl ?_
  obtain ⟨rfl, rfl⟩ := v_so h
  exact v_ret (fun _ => rfl)
noncomputable def f_Md_mayHolds (b : Int32) (c : Int32) (s : vS) : Option (Int32 × vS) := (v_bi (f_Md_ran 30 s) (fun _ s1 => (v_bi (f_Md_plainHolds b c s1) (fun r2 s2 => (some ((-r2), s2))))))
set_option maxRecDepth 20000 in
set_option maxHeartbeats 4000000 in
theorem t_Md_mayHolds {L : Nat} {xs : Nat → Int32} {b : Int32} {c : Int32} {D : Nat} {r : Int32} {s s' : vS} (h : f_Md_mayHolds b c s = some (r, s')) (hD : 5 ≤ D) : s_Ek (s_rows 3 L xs) D s_e271.1 0 (lv_args 0 [.ref 151, .int b, .int c]) [] (v_mk s) (v_Q (some (.int r)) s') := by
  unfold f_Md_mayHolds at h
  show s_Ek (s_rows 3 L xs) D s_e271.1 0 [(0, .ref 151), (1, .int b), (2, .int c)] [] (v_mk s) _
  refine s_ek_bk 2 (P := 3) (ls' := [(0, .ref 151), (1, .int b), (2, .int c)]) (st' := [.int 30, .ref 151]) (M' := v_mk s) rfl ?_
  obtain ⟨r1, s1, e1, h⟩ := v_bd h
  refine v_cV (ν := s_e263.1) (w := 2105) (a := 151) (as' := [.int 30]) (r := []) (o := none) (by omega) rfl rfl rfl (v_mk_kd (k := 11) (rfl : v_kd 151 = 11) (by decide)) rfl (t_Md_ran e1 (by omega)) ?_
  show s_Ek (s_rows 3 L xs) D s_e271.1 6 [(0, .ref 151), (1, .int b), (2, .int c)] [] (v_mk s1) _
  refine s_ek_bk 3 (P := 9) (ls' := [(0, .ref 151), (1, .int b), (2, .int c)]) (st' := [.int c, .int b, .ref 151]) (M' := v_mk s1) rfl ?_
  obtain ⟨r2, s2, e2, h⟩ := v_bd h
  refine v_cV (ν := s_e270.1) (w := 2162) (a := 151) (as' := [.int b, .int c]) (r := []) (o := some (.int r2)) (by omega) rfl rfl rfl (v_mk_kd (k := 11) (rfl : v_kd 151 = 11) (by decide)) rfl (t_Md_plainHolds e2 (by omega)) ?_
  show s_Ek (s_rows 3 L xs) D s_e271.1 12 [(0, .ref 151), (1, .int b), (2, .int c)] [.int r2] (v_mk s2) _
  refine s_ek_bk 1 (P := 13) (ls' := [(0, .ref 151), (1, .int b), (2, .int c)]) (st' := [.int (-r2)]) (M' := v_mk s2) rfl ?_
  obtain ⟨rfl, rfl⟩ := v_so h
  exact v_ret (fun _ => rfl)
noncomputable def f_Md_plainBeats (b : Int32) (c : Int32) (s : vS) : Option (Int32 × vS) := (v_bi (f_Md_ran 11 s) (fun _ s1 => (some ((c ^^^ b), s1))))
set_option maxRecDepth 20000 in
set_option maxHeartbeats 4000000 in
theorem t_Md_plainBeats {L : Nat} {xs : Nat → Int32} {b : Int32} {c : Int32} {D : Nat} {r : Int32} {s s' : vS} (h : f_Md_plainBeats b c s = some (r, s')) (hD : 1 ≤ D) : s_Ek (s_rows 3 L xs) D s_e273.1 0 (lv_args 0 [.ref 151, .int b, .int c]) [] (v_mk s) (v_Q (some (.int r)) s') := by
  unfold f_Md_plainBeats at h
  show s_Ek (s_rows 3 L xs) D s_e273.1 0 [(0, .ref 151), (1, .int b), (2, .int c)] [] (v_mk s) _
  refine s_ek_bk 2 (P := 3) (ls' := [(0, .ref 151), (1, .int b), (2, .int c)]) (st' := [.int 11, .ref 151]) (M' := v_mk s) rfl ?_
  obtain ⟨r1, s1, e1, h⟩ := v_bd h
  refine v_cV (ν := s_e263.1) (w := 2105) (a := 151) (as' := [.int 11]) (r := []) (o := none) (by omega) rfl rfl rfl (v_mk_kd (k := 11) (rfl : v_kd 151 = 11) (by decide)) rfl (t_Md_ran e1 (by omega)) ?_
  show s_Ek (s_rows 3 L xs) D s_e273.1 6 [(0, .ref 151), (1, .int b), (2, .int c)] [] (v_mk s1) _
  refine s_ek_bk 3 (P := 9) (ls' := [(0, .ref 151), (1, .int b), (2, .int c)]) (st' := [.int (c ^^^ b)]) (M' := v_mk s1) rfl ?_
  obtain ⟨rfl, rfl⟩ := v_so h
  exact v_ret (fun _ => rfl)
noncomputable def f_Md_unlessBeats (b : Int32) (c : Int32) (s : vS) : Option (Int32 × vS) := (v_bi (f_Md_ran 40 s) (fun _ s1 => (v_bi (f_Md_plainBeats b c s1) (fun r2 s2 => (some ((r2 * (3 : Int32)), s2))))))
set_option maxRecDepth 20000 in
set_option maxHeartbeats 4000000 in
theorem t_Md_unlessBeats {L : Nat} {xs : Nat → Int32} {b : Int32} {c : Int32} {D : Nat} {r : Int32} {s s' : vS} (h : f_Md_unlessBeats b c s = some (r, s')) (hD : 2 ≤ D) : s_Ek (s_rows 3 L xs) D s_e274.1 0 (lv_args 0 [.ref 151, .int b, .int c]) [] (v_mk s) (v_Q (some (.int r)) s') := by
  unfold f_Md_unlessBeats at h
  show s_Ek (s_rows 3 L xs) D s_e274.1 0 [(0, .ref 151), (1, .int b), (2, .int c)] [] (v_mk s) _
  refine s_ek_bk 2 (P := 3) (ls' := [(0, .ref 151), (1, .int b), (2, .int c)]) (st' := [.int 40, .ref 151]) (M' := v_mk s) rfl ?_
  obtain ⟨r1, s1, e1, h⟩ := v_bd h
  refine v_cV (ν := s_e263.1) (w := 2105) (a := 151) (as' := [.int 40]) (r := []) (o := none) (by omega) rfl rfl rfl (v_mk_kd (k := 11) (rfl : v_kd 151 = 11) (by decide)) rfl (t_Md_ran e1 (by omega)) ?_
  show s_Ek (s_rows 3 L xs) D s_e274.1 6 [(0, .ref 151), (1, .int b), (2, .int c)] [] (v_mk s1) _
  refine s_ek_bk 3 (P := 9) (ls' := [(0, .ref 151), (1, .int b), (2, .int c)]) (st' := [.int c, .int b, .ref 151]) (M' := v_mk s1) rfl ?_
  obtain ⟨r2, s2, e2, h⟩ := v_bd h
  refine v_cV (ν := s_e273.1) (w := 2186) (a := 151) (as' := [.int b, .int c]) (r := []) (o := some (.int r2)) (by omega) rfl rfl rfl (v_mk_kd (k := 11) (rfl : v_kd 151 = 11) (by decide)) rfl (t_Md_plainBeats e2 (by omega)) ?_
  show s_Ek (s_rows 3 L xs) D s_e274.1 12 [(0, .ref 151), (1, .int b), (2, .int c)] [.int r2] (v_mk s2) _
  refine s_ek_bk 2 (P := 14) (ls' := [(0, .ref 151), (1, .int b), (2, .int c)]) (st' := [.int (r2 * (3 : Int32))]) (M' := v_mk s2) rfl ?_
  obtain ⟨rfl, rfl⟩ := v_so h
  exact v_ret (fun _ => rfl)
noncomputable def f_Md_beating (b : Int32) (c : Int32) (s : vS) : Option (Int32 × vS) := (if v_in b 50 then (if (s.1 179 (Int32.toNatClampNeg b)).toInt = 5 then (v_bi (f_Md_ran 60 s) (fun _ s3 => (v_bi (f_Md_unlessBeats b c s3) (fun r4 s4 => (v_bi (f_Md_saying b 2 s4) (fun r5 s5 => (some ((r4 - r5), s5)))))))) else (if v_in b 50 then (if (s.1 179 (Int32.toNatClampNeg b)).toInt = 3 then (v_bi (f_Md_unlessBeats b c s) (fun r8 s8 => (some (r8, s8)))) else (v_bi (f_Md_plainBeats b c s) (fun r9 s9 => (some (r9, s9))))) else none)) else none)
set_option maxRecDepth 20000 in
set_option maxHeartbeats 4000000 in
theorem t_Md_beating {L : Nat} {xs : Nat → Int32} {b : Int32} {c : Int32} {D : Nat} {r : Int32} {s s' : vS} (h : f_Md_beating b c s = some (r, s')) (hD : 4 ≤ D) : s_Ek (s_rows 3 L xs) D s_e275.1 0 (lv_args 0 [.ref 151, .int b, .int c]) [] (v_mk s) (v_Q (some (.int r)) s') := by
  unfold f_Md_beating at h
  show s_Ek (s_rows 3 L xs) D s_e275.1 0 [(0, .ref 151), (1, .int b), (2, .int c)] [] (v_mk s) _
  refine s_ek_bk 1 (P := 1) (ls' := [(0, .ref 151), (1, .int b), (2, .int c)]) (st' := [.ref 151]) (M' := v_mk s) rfl ?_
  refine v_gf rfl (v_gr (rfl : v_kd 151 = 11) (rfl : v_sl 151 43 = .ref 179) ⟨rfl, rfl, by decide⟩) ?_
  refine s_ek_bk 1 (P := 5) (ls' := [(0, .ref 151), (1, .int b), (2, .int c)]) (st' := [.int b, .ref 179]) (M' := v_mk s) rfl ?_
  obtain ⟨c1, h⟩ := v_ck h
  refine v_ia (i := b) rfl (v_ai (rfl : v_kd 179 = 13) rfl (by decide) v_all13 (v_cn (rfl : v_ln 179 = 50) c1)) ?_
  refine s_ek_bk 1 (P := 7) (ls' := [(0, .ref 151), (1, .int b), (2, .int c)]) (st' := [.int 5, .int (s.1 179 (Int32.toNatClampNeg b))]) (M' := v_mk s) rfl ?_
  rcases v_if h with ⟨c2, h⟩ | ⟨c2, h⟩
  · refine v_i2f (T := 32) rfl rfl (fun q => q c2) ?_
    refine s_ek_bk 2 (P := 13) (ls' := [(0, .ref 151), (1, .int b), (2, .int c)]) (st' := [.int 60, .ref 151]) (M' := v_mk s) rfl ?_
    obtain ⟨r3, s3, e3, h⟩ := v_bd h
    refine v_cV (ν := s_e263.1) (w := 2105) (a := 151) (as' := [.int 60]) (r := []) (o := none) (by omega) rfl rfl rfl (v_mk_kd (k := 11) (rfl : v_kd 151 = 11) (by decide)) rfl (t_Md_ran e3 (by omega)) ?_
    show s_Ek (s_rows 3 L xs) D s_e275.1 16 [(0, .ref 151), (1, .int b), (2, .int c)] [] (v_mk s3) _
    refine s_ek_bk 3 (P := 19) (ls' := [(0, .ref 151), (1, .int b), (2, .int c)]) (st' := [.int c, .int b, .ref 151]) (M' := v_mk s3) rfl ?_
    obtain ⟨r4, s4, e4, h⟩ := v_bd h
    refine v_cV (ν := s_e274.1) (w := 2194) (a := 151) (as' := [.int b, .int c]) (r := []) (o := some (.int r4)) (by omega) rfl rfl rfl (v_mk_kd (k := 11) (rfl : v_kd 151 = 11) (by decide)) rfl (t_Md_unlessBeats e4 (by omega)) ?_
    show s_Ek (s_rows 3 L xs) D s_e275.1 22 [(0, .ref 151), (1, .int b), (2, .int c)] [.int r4] (v_mk s4) _
    refine s_ek_bk 5 (P := 27) (ls' := [(3, .int r4), (0, .ref 151), (1, .int b), (2, .int c)]) (st' := [.int 2, .int b, .ref 151, .int r4]) (M' := v_mk s4) rfl ?_
    obtain ⟨r5, s5, e5, h⟩ := v_bd h
    refine v_cV (ν := s_e269.1) (w := 2154) (a := 151) (as' := [.int b, .int 2]) (r := [.int r4]) (o := some (.int r5)) (by omega) rfl rfl rfl (v_mk_kd (k := 11) (rfl : v_kd 151 = 11) (by decide)) rfl (t_Md_saying e5 (by omega)) ?_
    show s_Ek (s_rows 3 L xs) D s_e275.1 30 [(3, .int r4), (0, .ref 151), (1, .int b), (2, .int c)] [.int r5, .int r4] (v_mk s5) _
    refine s_ek_bk 1 (P := 31) (ls' := [(3, .int r4), (0, .ref 151), (1, .int b), (2, .int c)]) (st' := [.int (r4 - r5)]) (M' := v_mk s5) rfl ?_
    obtain ⟨rfl, rfl⟩ := v_so h
    exact v_ret (fun _ => rfl)
  · refine v_i2t (T := 32) rfl rfl c2 ?_
    refine s_ek_bk 1 (P := 33) (ls' := [(0, .ref 151), (1, .int b), (2, .int c)]) (st' := [.ref 151]) (M' := v_mk s) rfl ?_
    refine v_gf rfl (v_gr (rfl : v_kd 151 = 11) (rfl : v_sl 151 43 = .ref 179) ⟨rfl, rfl, by decide⟩) ?_
    refine s_ek_bk 1 (P := 37) (ls' := [(0, .ref 151), (1, .int b), (2, .int c)]) (st' := [.int b, .ref 179]) (M' := v_mk s) rfl ?_
    obtain ⟨c6, h⟩ := v_ck h
    refine v_ia (i := b) rfl (v_ai (rfl : v_kd 179 = 13) rfl (by decide) v_all13 (v_cn (rfl : v_ln 179 = 50) c6)) ?_
    refine s_ek_bk 1 (P := 39) (ls' := [(0, .ref 151), (1, .int b), (2, .int c)]) (st' := [.int 3, .int (s.1 179 (Int32.toNatClampNeg b))]) (M' := v_mk s) rfl ?_
    rcases v_if h with ⟨c7, h⟩ | ⟨c7, h⟩
    · refine v_i2f (T := 51) rfl rfl (fun q => q c7) ?_
      refine s_ek_bk 3 (P := 45) (ls' := [(0, .ref 151), (1, .int b), (2, .int c)]) (st' := [.int c, .int b, .ref 151]) (M' := v_mk s) rfl ?_
      obtain ⟨r8, s8, e8, h⟩ := v_bd h
      refine v_cV (ν := s_e274.1) (w := 2194) (a := 151) (as' := [.int b, .int c]) (r := []) (o := some (.int r8)) (by omega) rfl rfl rfl (v_mk_kd (k := 11) (rfl : v_kd 151 = 11) (by decide)) rfl (t_Md_unlessBeats e8 (by omega)) ?_
      show s_Ek (s_rows 3 L xs) D s_e275.1 48 [(0, .ref 151), (1, .int b), (2, .int c)] [.int r8] (v_mk s8) _
      refine s_ek_bk 1 (P := 57) (ls' := [(0, .ref 151), (1, .int b), (2, .int c)]) (st' := [.int r8]) (M' := v_mk s8) rfl ?_
      obtain ⟨rfl, rfl⟩ := v_so h
      exact v_ret (fun _ => rfl)
    · refine v_i2t (T := 51) rfl rfl c7 ?_
      refine s_ek_bk 3 (P := 54) (ls' := [(0, .ref 151), (1, .int b), (2, .int c)]) (st' := [.int c, .int b, .ref 151]) (M' := v_mk s) rfl ?_
      obtain ⟨r9, s9, e9, h⟩ := v_bd h
      refine v_cV (ν := s_e273.1) (w := 2186) (a := 151) (as' := [.int b, .int c]) (r := []) (o := some (.int r9)) (by omega) rfl rfl rfl (v_mk_kd (k := 11) (rfl : v_kd 151 = 11) (by decide)) rfl (t_Md_plainBeats e9 (by omega)) ?_
      show s_Ek (s_rows 3 L xs) D s_e275.1 57 [(0, .ref 151), (1, .int b), (2, .int c)] [.int r9] (v_mk s9) _
      obtain ⟨rfl, rfl⟩ := v_so h
      exact v_ret (fun _ => rfl)
noncomputable def f_Md_holding (b : Int32) (c : Int32) (s : vS) : Option (Int32 × vS) := (if v_in b 50 then (v_bi (f_Md_isUnder (s.1 179 (Int32.toNatClampNeg b)) 3 s) (fun r2 s2 => (if r2.toInt = 0 then (if v_in b 50 then (if (s2.1 179 (Int32.toNatClampNeg b)).toInt = 7 then (v_bi (f_Md_ran 80 s2) (fun _ s6 => (v_bi (f_Md_plainHolds b c s6) (fun r7 s7 => (v_bi (f_Md_beating b 2 s7) (fun r8 s8 => (some ((r7 + r8), s8)))))))) else (if v_in b 50 then (if (s2.1 179 (Int32.toNatClampNeg b)).toInt = 2 then (v_bi (f_Md_mayHolds b c s2) (fun r11 s11 => (some (r11, s11)))) else (v_bi (f_Md_plainHolds b c s2) (fun r12 s12 => (some (r12, s12))))) else none)) else none) else (v_bi (f_Md_ran 41 s2) (fun _ s13 => (v_bi (f_Md_mayHolds b (c + (1 : Int32)) s13) (fun r14 s14 => (some (r14, s14))))))))) else none)
set_option maxRecDepth 20000 in
set_option maxHeartbeats 4000000 in
theorem t_Md_holding {L : Nat} {xs : Nat → Int32} {b : Int32} {c : Int32} {D : Nat} {r : Int32} {s s' : vS} (h : f_Md_holding b c s = some (r, s')) (hD : 6 ≤ D) : s_Ek (s_rows 3 L xs) D s_e272.1 0 (lv_args 0 [.ref 151, .int b, .int c]) [] (v_mk s) (v_Q (some (.int r)) s') := by
  unfold f_Md_holding at h
  show s_Ek (s_rows 3 L xs) D s_e272.1 0 [(0, .ref 151), (1, .int b), (2, .int c)] [] (v_mk s) _
  refine s_ek_bk 1 (P := 1) (ls' := [(0, .ref 151), (1, .int b), (2, .int c)]) (st' := [.ref 151]) (M' := v_mk s) rfl ?_
  refine v_gf rfl (v_gr (rfl : v_kd 151 = 11) (rfl : v_sl 151 43 = .ref 179) ⟨rfl, rfl, by decide⟩) ?_
  refine s_ek_bk 1 (P := 5) (ls' := [(0, .ref 151), (1, .int b), (2, .int c)]) (st' := [.int b, .ref 179]) (M' := v_mk s) rfl ?_
  obtain ⟨c1, h⟩ := v_ck h
  refine v_ia (i := b) rfl (v_ai (rfl : v_kd 179 = 13) rfl (by decide) v_all13 (v_cn (rfl : v_ln 179 = 50) c1)) ?_
  refine s_ek_bk 1 (P := 7) (ls' := [(0, .ref 151), (1, .int b), (2, .int c)]) (st' := [.int 3, .int (s.1 179 (Int32.toNatClampNeg b))]) (M' := v_mk s) rfl ?_
  obtain ⟨r2, s2, e2, h⟩ := v_bd h
  refine v_cS (ν := s_e266.1) (w := 2130) (as := [.int (s.1 179 (Int32.toNatClampNeg b)), .int 3]) (r := []) (o := some (.int r2)) (by omega) rfl rfl rfl rfl (t_Md_isUnder e2 (by omega)) ?_
  show s_Ek (s_rows 3 L xs) D s_e272.1 10 [(0, .ref 151), (1, .int b), (2, .int c)] [.int r2] (v_mk s2) _
  rcases v_if h with ⟨c3, h⟩ | ⟨c3, h⟩
  · refine v_i1t (T := 28) rfl rfl c3 ?_
    refine s_ek_bk 1 (P := 29) (ls' := [(0, .ref 151), (1, .int b), (2, .int c)]) (st' := [.ref 151]) (M' := v_mk s2) rfl ?_
    refine v_gf rfl (v_gr (rfl : v_kd 151 = 11) (rfl : v_sl 151 43 = .ref 179) ⟨rfl, rfl, by decide⟩) ?_
    refine s_ek_bk 1 (P := 33) (ls' := [(0, .ref 151), (1, .int b), (2, .int c)]) (st' := [.int b, .ref 179]) (M' := v_mk s2) rfl ?_
    obtain ⟨c4, h⟩ := v_ck h
    refine v_ia (i := b) rfl (v_ai (rfl : v_kd 179 = 13) rfl (by decide) v_all13 (v_cn (rfl : v_ln 179 = 50) c4)) ?_
    refine s_ek_bk 1 (P := 36) (ls' := [(0, .ref 151), (1, .int b), (2, .int c)]) (st' := [.int 7, .int (s2.1 179 (Int32.toNatClampNeg b))]) (M' := v_mk s2) rfl ?_
    rcases v_if h with ⟨c5, h⟩ | ⟨c5, h⟩
    · refine v_i2f (T := 61) rfl rfl (fun q => q c5) ?_
      refine s_ek_bk 2 (P := 42) (ls' := [(0, .ref 151), (1, .int b), (2, .int c)]) (st' := [.int 80, .ref 151]) (M' := v_mk s2) rfl ?_
      obtain ⟨r6, s6, e6, h⟩ := v_bd h
      refine v_cV (ν := s_e263.1) (w := 2105) (a := 151) (as' := [.int 80]) (r := []) (o := none) (by omega) rfl rfl rfl (v_mk_kd (k := 11) (rfl : v_kd 151 = 11) (by decide)) rfl (t_Md_ran e6 (by omega)) ?_
      show s_Ek (s_rows 3 L xs) D s_e272.1 45 [(0, .ref 151), (1, .int b), (2, .int c)] [] (v_mk s6) _
      refine s_ek_bk 3 (P := 48) (ls' := [(0, .ref 151), (1, .int b), (2, .int c)]) (st' := [.int c, .int b, .ref 151]) (M' := v_mk s6) rfl ?_
      obtain ⟨r7, s7, e7, h⟩ := v_bd h
      refine v_cV (ν := s_e270.1) (w := 2162) (a := 151) (as' := [.int b, .int c]) (r := []) (o := some (.int r7)) (by omega) rfl rfl rfl (v_mk_kd (k := 11) (rfl : v_kd 151 = 11) (by decide)) rfl (t_Md_plainHolds e7 (by omega)) ?_
      show s_Ek (s_rows 3 L xs) D s_e272.1 51 [(0, .ref 151), (1, .int b), (2, .int c)] [.int r7] (v_mk s7) _
      refine s_ek_bk 5 (P := 56) (ls' := [(3, .int r7), (0, .ref 151), (1, .int b), (2, .int c)]) (st' := [.int 2, .int b, .ref 151, .int r7]) (M' := v_mk s7) rfl ?_
      obtain ⟨r8, s8, e8, h⟩ := v_bd h
      refine v_cV (ν := s_e275.1) (w := 2202) (a := 151) (as' := [.int b, .int 2]) (r := [.int r7]) (o := some (.int r8)) (by omega) rfl rfl rfl (v_mk_kd (k := 11) (rfl : v_kd 151 = 11) (by decide)) rfl (t_Md_beating e8 (by omega)) ?_
      show s_Ek (s_rows 3 L xs) D s_e272.1 59 [(3, .int r7), (0, .ref 151), (1, .int b), (2, .int c)] [.int r8, .int r7] (v_mk s8) _
      refine s_ek_bk 1 (P := 60) (ls' := [(3, .int r7), (0, .ref 151), (1, .int b), (2, .int c)]) (st' := [.int (r7 + r8)]) (M' := v_mk s8) rfl ?_
      obtain ⟨rfl, rfl⟩ := v_so h
      exact v_ret (fun _ => rfl)
    · refine v_i2t (T := 61) rfl rfl c5 ?_
      refine s_ek_bk 1 (P := 62) (ls' := [(0, .ref 151), (1, .int b), (2, .int c)]) (st' := [.ref 151]) (M' := v_mk s2) rfl ?_
      refine v_gf rfl (v_gr (rfl : v_kd 151 = 11) (rfl : v_sl 151 43 = .ref 179) ⟨rfl, rfl, by decide⟩) ?_
      refine s_ek_bk 1 (P := 66) (ls' := [(0, .ref 151), (1, .int b), (2, .int c)]) (st' := [.int b, .ref 179]) (M' := v_mk s2) rfl ?_
      obtain ⟨c9, h⟩ := v_ck h
      refine v_ia (i := b) rfl (v_ai (rfl : v_kd 179 = 13) rfl (by decide) v_all13 (v_cn (rfl : v_ln 179 = 50) c9)) ?_
      refine s_ek_bk 1 (P := 68) (ls' := [(0, .ref 151), (1, .int b), (2, .int c)]) (st' := [.int 2, .int (s2.1 179 (Int32.toNatClampNeg b))]) (M' := v_mk s2) rfl ?_
      rcases v_if h with ⟨c10, h⟩ | ⟨c10, h⟩
      · refine v_i2f (T := 80) rfl rfl (fun q => q c10) ?_
        refine s_ek_bk 3 (P := 74) (ls' := [(0, .ref 151), (1, .int b), (2, .int c)]) (st' := [.int c, .int b, .ref 151]) (M' := v_mk s2) rfl ?_
        obtain ⟨r11, s11, e11, h⟩ := v_bd h
        refine v_cV (ν := s_e271.1) (w := 2170) (a := 151) (as' := [.int b, .int c]) (r := []) (o := some (.int r11)) (by omega) rfl rfl rfl (v_mk_kd (k := 11) (rfl : v_kd 151 = 11) (by decide)) rfl (t_Md_mayHolds e11 (by omega)) ?_
        show s_Ek (s_rows 3 L xs) D s_e272.1 77 [(0, .ref 151), (1, .int b), (2, .int c)] [.int r11] (v_mk s11) _
        refine s_ek_bk 1 (P := 86) (ls' := [(0, .ref 151), (1, .int b), (2, .int c)]) (st' := [.int r11]) (M' := v_mk s11) rfl ?_
        obtain ⟨rfl, rfl⟩ := v_so h
        exact v_ret (fun _ => rfl)
      · refine v_i2t (T := 80) rfl rfl c10 ?_
        refine s_ek_bk 3 (P := 83) (ls' := [(0, .ref 151), (1, .int b), (2, .int c)]) (st' := [.int c, .int b, .ref 151]) (M' := v_mk s2) rfl ?_
        obtain ⟨r12, s12, e12, h⟩ := v_bd h
        refine v_cV (ν := s_e270.1) (w := 2162) (a := 151) (as' := [.int b, .int c]) (r := []) (o := some (.int r12)) (by omega) rfl rfl rfl (v_mk_kd (k := 11) (rfl : v_kd 151 = 11) (by decide)) rfl (t_Md_plainHolds e12 (by omega)) ?_
        show s_Ek (s_rows 3 L xs) D s_e272.1 86 [(0, .ref 151), (1, .int b), (2, .int c)] [.int r12] (v_mk s12) _
        obtain ⟨rfl, rfl⟩ := v_so h
        exact v_ret (fun _ => rfl)
  · refine v_i1f (T := 28) rfl rfl c3 ?_
    refine s_ek_bk 2 (P := 16) (ls' := [(0, .ref 151), (1, .int b), (2, .int c)]) (st' := [.int 41, .ref 151]) (M' := v_mk s2) rfl ?_
    obtain ⟨r13, s13, e13, h⟩ := v_bd h
    refine v_cV (ν := s_e263.1) (w := 2105) (a := 151) (as' := [.int 41]) (r := []) (o := none) (by omega) rfl rfl rfl (v_mk_kd (k := 11) (rfl : v_kd 151 = 11) (by decide)) rfl (t_Md_ran e13 (by omega)) ?_
    show s_Ek (s_rows 3 L xs) D s_e272.1 19 [(0, .ref 151), (1, .int b), (2, .int c)] [] (v_mk s13) _
    refine s_ek_bk 5 (P := 24) (ls' := [(0, .ref 151), (1, .int b), (2, .int c)]) (st' := [.int (c + (1 : Int32)), .int b, .ref 151]) (M' := v_mk s13) rfl ?_
    obtain ⟨r14, s14, e14, h⟩ := v_bd h
    refine v_cV (ν := s_e271.1) (w := 2170) (a := 151) (as' := [.int b, .int (c + (1 : Int32))]) (r := []) (o := some (.int r14)) (by omega) rfl rfl rfl (v_mk_kd (k := 11) (rfl : v_kd 151 = 11) (by decide)) rfl (t_Md_mayHolds e14 (by omega)) ?_
    show s_Ek (s_rows 3 L xs) D s_e272.1 27 [(0, .ref 151), (1, .int b), (2, .int c)] [.int r14] (v_mk s14) _
    obtain ⟨rfl, rfl⟩ := v_so h
    exact v_ret (fun _ => rfl)
noncomputable def f_Md_plainTells (b : Int32) (c : Int32) (s : vS) : Option (Int32 × vS) := (v_bi (f_Md_ran 2 s) (fun _ s1 => (v_bi (f_Md_holding b c s1) (fun r2 s2 => (v_bi (f_Md_beating b 1 s2) (fun r3 s3 => (some ((r2 - r3), s3))))))))
set_option maxRecDepth 20000 in
set_option maxHeartbeats 4000000 in
theorem t_Md_plainTells {L : Nat} {xs : Nat → Int32} {b : Int32} {c : Int32} {D : Nat} {r : Int32} {s s' : vS} (h : f_Md_plainTells b c s = some (r, s')) (hD : 7 ≤ D) : s_Ek (s_rows 3 L xs) D s_e276.1 0 (lv_args 0 [.ref 151, .int b, .int c]) [] (v_mk s) (v_Q (some (.int r)) s') := by
  unfold f_Md_plainTells at h
  show s_Ek (s_rows 3 L xs) D s_e276.1 0 [(0, .ref 151), (1, .int b), (2, .int c)] [] (v_mk s) _
  refine s_ek_bk 2 (P := 2) (ls' := [(0, .ref 151), (1, .int b), (2, .int c)]) (st' := [.int 2, .ref 151]) (M' := v_mk s) rfl ?_
  obtain ⟨r1, s1, e1, h⟩ := v_bd h
  refine v_cV (ν := s_e263.1) (w := 2105) (a := 151) (as' := [.int 2]) (r := []) (o := none) (by omega) rfl rfl rfl (v_mk_kd (k := 11) (rfl : v_kd 151 = 11) (by decide)) rfl (t_Md_ran e1 (by omega)) ?_
  show s_Ek (s_rows 3 L xs) D s_e276.1 5 [(0, .ref 151), (1, .int b), (2, .int c)] [] (v_mk s1) _
  refine s_ek_bk 3 (P := 8) (ls' := [(0, .ref 151), (1, .int b), (2, .int c)]) (st' := [.int c, .int b, .ref 151]) (M' := v_mk s1) rfl ?_
  obtain ⟨r2, s2, e2, h⟩ := v_bd h
  refine v_cV (ν := s_e272.1) (w := 2178) (a := 151) (as' := [.int b, .int c]) (r := []) (o := some (.int r2)) (by omega) rfl rfl rfl (v_mk_kd (k := 11) (rfl : v_kd 151 = 11) (by decide)) rfl (t_Md_holding e2 (by omega)) ?_
  show s_Ek (s_rows 3 L xs) D s_e276.1 11 [(0, .ref 151), (1, .int b), (2, .int c)] [.int r2] (v_mk s2) _
  refine s_ek_bk 5 (P := 16) (ls' := [(3, .int r2), (0, .ref 151), (1, .int b), (2, .int c)]) (st' := [.int 1, .int b, .ref 151, .int r2]) (M' := v_mk s2) rfl ?_
  obtain ⟨r3, s3, e3, h⟩ := v_bd h
  refine v_cV (ν := s_e275.1) (w := 2202) (a := 151) (as' := [.int b, .int 1]) (r := [.int r2]) (o := some (.int r3)) (by omega) rfl rfl rfl (v_mk_kd (k := 11) (rfl : v_kd 151 = 11) (by decide)) rfl (t_Md_beating e3 (by omega)) ?_
  show s_Ek (s_rows 3 L xs) D s_e276.1 19 [(3, .int r2), (0, .ref 151), (1, .int b), (2, .int c)] [.int r3, .int r2] (v_mk s3) _
  refine s_ek_bk 1 (P := 20) (ls' := [(3, .int r2), (0, .ref 151), (1, .int b), (2, .int c)]) (st' := [.int (r2 - r3)]) (M' := v_mk s3) rfl ?_
  obtain ⟨rfl, rfl⟩ := v_so h
  exact v_ret (fun _ => rfl)
noncomputable def f_Md_telling (b : Int32) (c : Int32) (s : vS) : Option (Int32 × vS) := (if v_in b 50 then (if (s.1 179 (Int32.toNatClampNeg b)).toInt = 4 then (v_bi (f_Md_ran 50 s) (fun _ s3 => (v_bi (f_Md_plainTells b c s3) (fun r4 s4 => (some ((r4 ^^^ (5 : Int32)), s4)))))) else (if v_in b 50 then (if (s.1 179 (Int32.toNatClampNeg b)).toInt = 5 then (v_bi (f_Md_ran 61 s) (fun _ s7 => (v_bi (f_Md_plainTells b c s7) (fun r8 s8 => (some ((r8 + (1 : Int32)), s8)))))) else (v_bi (f_Md_plainTells b c s) (fun r9 s9 => (some (r9, s9))))) else none)) else none)
set_option maxRecDepth 20000 in
set_option maxHeartbeats 4000000 in
theorem t_Md_telling {L : Nat} {xs : Nat → Int32} {b : Int32} {c : Int32} {D : Nat} {r : Int32} {s s' : vS} (h : f_Md_telling b c s = some (r, s')) (hD : 8 ≤ D) : s_Ek (s_rows 3 L xs) D s_e277.1 0 (lv_args 0 [.ref 151, .int b, .int c]) [] (v_mk s) (v_Q (some (.int r)) s') := by
  unfold f_Md_telling at h
  show s_Ek (s_rows 3 L xs) D s_e277.1 0 [(0, .ref 151), (1, .int b), (2, .int c)] [] (v_mk s) _
  refine s_ek_bk 1 (P := 1) (ls' := [(0, .ref 151), (1, .int b), (2, .int c)]) (st' := [.ref 151]) (M' := v_mk s) rfl ?_
  refine v_gf rfl (v_gr (rfl : v_kd 151 = 11) (rfl : v_sl 151 43 = .ref 179) ⟨rfl, rfl, by decide⟩) ?_
  refine s_ek_bk 1 (P := 5) (ls' := [(0, .ref 151), (1, .int b), (2, .int c)]) (st' := [.int b, .ref 179]) (M' := v_mk s) rfl ?_
  obtain ⟨c1, h⟩ := v_ck h
  refine v_ia (i := b) rfl (v_ai (rfl : v_kd 179 = 13) rfl (by decide) v_all13 (v_cn (rfl : v_ln 179 = 50) c1)) ?_
  refine s_ek_bk 1 (P := 7) (ls' := [(0, .ref 151), (1, .int b), (2, .int c)]) (st' := [.int 4, .int (s.1 179 (Int32.toNatClampNeg b))]) (M' := v_mk s) rfl ?_
  rcases v_if h with ⟨c2, h⟩ | ⟨c2, h⟩
  · refine v_i2f (T := 25) rfl rfl (fun q => q c2) ?_
    refine s_ek_bk 2 (P := 13) (ls' := [(0, .ref 151), (1, .int b), (2, .int c)]) (st' := [.int 50, .ref 151]) (M' := v_mk s) rfl ?_
    obtain ⟨r3, s3, e3, h⟩ := v_bd h
    refine v_cV (ν := s_e263.1) (w := 2105) (a := 151) (as' := [.int 50]) (r := []) (o := none) (by omega) rfl rfl rfl (v_mk_kd (k := 11) (rfl : v_kd 151 = 11) (by decide)) rfl (t_Md_ran e3 (by omega)) ?_
    show s_Ek (s_rows 3 L xs) D s_e277.1 16 [(0, .ref 151), (1, .int b), (2, .int c)] [] (v_mk s3) _
    refine s_ek_bk 3 (P := 19) (ls' := [(0, .ref 151), (1, .int b), (2, .int c)]) (st' := [.int c, .int b, .ref 151]) (M' := v_mk s3) rfl ?_
    obtain ⟨r4, s4, e4, h⟩ := v_bd h
    refine v_cV (ν := s_e276.1) (w := 2210) (a := 151) (as' := [.int b, .int c]) (r := []) (o := some (.int r4)) (by omega) rfl rfl rfl (v_mk_kd (k := 11) (rfl : v_kd 151 = 11) (by decide)) rfl (t_Md_plainTells e4 (by omega)) ?_
    show s_Ek (s_rows 3 L xs) D s_e277.1 22 [(0, .ref 151), (1, .int b), (2, .int c)] [.int r4] (v_mk s4) _
    refine s_ek_bk 2 (P := 24) (ls' := [(0, .ref 151), (1, .int b), (2, .int c)]) (st' := [.int (r4 ^^^ (5 : Int32))]) (M' := v_mk s4) rfl ?_
    obtain ⟨rfl, rfl⟩ := v_so h
    exact v_ret (fun _ => rfl)
  · refine v_i2t (T := 25) rfl rfl c2 ?_
    refine s_ek_bk 1 (P := 26) (ls' := [(0, .ref 151), (1, .int b), (2, .int c)]) (st' := [.ref 151]) (M' := v_mk s) rfl ?_
    refine v_gf rfl (v_gr (rfl : v_kd 151 = 11) (rfl : v_sl 151 43 = .ref 179) ⟨rfl, rfl, by decide⟩) ?_
    refine s_ek_bk 1 (P := 30) (ls' := [(0, .ref 151), (1, .int b), (2, .int c)]) (st' := [.int b, .ref 179]) (M' := v_mk s) rfl ?_
    obtain ⟨c5, h⟩ := v_ck h
    refine v_ia (i := b) rfl (v_ai (rfl : v_kd 179 = 13) rfl (by decide) v_all13 (v_cn (rfl : v_ln 179 = 50) c5)) ?_
    refine s_ek_bk 1 (P := 32) (ls' := [(0, .ref 151), (1, .int b), (2, .int c)]) (st' := [.int 5, .int (s.1 179 (Int32.toNatClampNeg b))]) (M' := v_mk s) rfl ?_
    rcases v_if h with ⟨c6, h⟩ | ⟨c6, h⟩
    · refine v_i2f (T := 50) rfl rfl (fun q => q c6) ?_
      refine s_ek_bk 2 (P := 38) (ls' := [(0, .ref 151), (1, .int b), (2, .int c)]) (st' := [.int 61, .ref 151]) (M' := v_mk s) rfl ?_
      obtain ⟨r7, s7, e7, h⟩ := v_bd h
      refine v_cV (ν := s_e263.1) (w := 2105) (a := 151) (as' := [.int 61]) (r := []) (o := none) (by omega) rfl rfl rfl (v_mk_kd (k := 11) (rfl : v_kd 151 = 11) (by decide)) rfl (t_Md_ran e7 (by omega)) ?_
      show s_Ek (s_rows 3 L xs) D s_e277.1 41 [(0, .ref 151), (1, .int b), (2, .int c)] [] (v_mk s7) _
      refine s_ek_bk 3 (P := 44) (ls' := [(0, .ref 151), (1, .int b), (2, .int c)]) (st' := [.int c, .int b, .ref 151]) (M' := v_mk s7) rfl ?_
      obtain ⟨r8, s8, e8, h⟩ := v_bd h
      refine v_cV (ν := s_e276.1) (w := 2210) (a := 151) (as' := [.int b, .int c]) (r := []) (o := some (.int r8)) (by omega) rfl rfl rfl (v_mk_kd (k := 11) (rfl : v_kd 151 = 11) (by decide)) rfl (t_Md_plainTells e8 (by omega)) ?_
      show s_Ek (s_rows 3 L xs) D s_e277.1 47 [(0, .ref 151), (1, .int b), (2, .int c)] [.int r8] (v_mk s8) _
      refine s_ek_bk 2 (P := 49) (ls' := [(0, .ref 151), (1, .int b), (2, .int c)]) (st' := [.int (r8 + (1 : Int32))]) (M' := v_mk s8) rfl ?_
      obtain ⟨rfl, rfl⟩ := v_so h
      exact v_ret (fun _ => rfl)
    · refine v_i2t (T := 50) rfl rfl c6 ?_
      refine s_ek_bk 3 (P := 53) (ls' := [(0, .ref 151), (1, .int b), (2, .int c)]) (st' := [.int c, .int b, .ref 151]) (M' := v_mk s) rfl ?_
      obtain ⟨r9, s9, e9, h⟩ := v_bd h
      refine v_cV (ν := s_e276.1) (w := 2210) (a := 151) (as' := [.int b, .int c]) (r := []) (o := some (.int r9)) (by omega) rfl rfl rfl (v_mk_kd (k := 11) (rfl : v_kd 151 = 11) (by decide)) rfl (t_Md_plainTells e9 (by omega)) ?_
      show s_Ek (s_rows 3 L xs) D s_e277.1 56 [(0, .ref 151), (1, .int b), (2, .int c)] [.int r9] (v_mk s9) _
      obtain ⟨rfl, rfl⟩ := v_so h
      exact v_ret (fun _ => rfl)
noncomputable def f_Md_act (b : Int32) (c : Int32) (d : Int32) (s : vS) : Option (Int32 × vS) := (v_let (v_w1 s 151 44 0) (fun s1 => (v_bi (f_Md_isBody b s1) (fun r2 s2 => (if r2.toInt = 0 then (some (0, s2)) else (v_bi (f_Md_in c 0 3 s2) (fun r4 s4 => (if r4.toInt = 0 then (some (0, s4)) else (if c.toInt = 0 then (v_bi (f_Md_saying b d s4) (fun r7 s7 => (some (r7, s7)))) else (if c.toInt = 1 then (v_bi (f_Md_holding b d s4) (fun r9 s9 => (some (r9, s9)))) else (if c.toInt = 2 then (v_bi (f_Md_beating b d s4) (fun r11 s11 => (some (r11, s11)))) else (v_bi (f_Md_telling b d s4) (fun r12 s12 => (some (r12, s12)))))))))))))))
set_option maxRecDepth 20000 in
set_option maxHeartbeats 4000000 in
theorem t_Md_act {L : Nat} {xs : Nat → Int32} {b : Int32} {c : Int32} {d : Int32} {D : Nat} {r : Int32} {s s' : vS} (h : f_Md_act b c d s = some (r, s')) (hD : 9 ≤ D) : s_Ek (s_rows 3 L xs) D s_e278.1 0 (lv_args 0 [.ref 151, .int b, .int c, .int d]) [] (v_mk s) (v_Q (some (.int r)) s') := by
  unfold f_Md_act at h
  show s_Ek (s_rows 3 L xs) D s_e278.1 0 [(0, .ref 151), (1, .int b), (2, .int c), (3, .int d)] [] (v_mk s) _
  refine s_ek_bk 2 (P := 2) (ls' := [(0, .ref 151), (1, .int b), (2, .int c), (3, .int d)]) (st' := [.int 0, .ref 151]) (M' := v_mk s) rfl ?_
  obtain ⟨s1, es1, h⟩ := v_ld h
  refine v_pf (M' := v_mk s1) rfl (by rw [es1]; exact v_pi (rfl : v_kd 151 = 11) rfl ⟨rfl, rfl, by decide⟩ rfl) ?_
  refine s_ek_bk 2 (P := 7) (ls' := [(0, .ref 151), (1, .int b), (2, .int c), (3, .int d)]) (st' := [.int b, .ref 151]) (M' := v_mk s1) rfl ?_
  obtain ⟨r2, s2, e2, h⟩ := v_bd h
  refine v_cV (ν := s_e262.1) (w := 2097) (a := 151) (as' := [.int b]) (r := []) (o := some (.int r2)) (by omega) rfl rfl rfl (v_mk_kd (k := 11) (rfl : v_kd 151 = 11) (by decide)) rfl (t_Md_isBody e2 (by omega)) ?_
  show s_Ek (s_rows 3 L xs) D s_e278.1 10 [(0, .ref 151), (1, .int b), (2, .int c), (3, .int d)] [.int r2] (v_mk s2) _
  rcases v_if h with ⟨c3, h⟩ | ⟨c3, h⟩
  · refine v_i1t (T := 22) rfl rfl c3 ?_
    refine s_ek_bk 1 (P := 23) (ls' := [(0, .ref 151), (1, .int b), (2, .int c), (3, .int d)]) (st' := [.int 0]) (M' := v_mk s2) rfl ?_
    obtain ⟨rfl, rfl⟩ := v_so h
    exact v_ret (fun _ => rfl)
  · refine v_i1f (T := 22) rfl rfl c3 ?_
    refine s_ek_bk 3 (P := 16) (ls' := [(0, .ref 151), (1, .int b), (2, .int c), (3, .int d)]) (st' := [.int 3, .int 0, .int c]) (M' := v_mk s2) rfl ?_
    obtain ⟨r4, s4, e4, h⟩ := v_bd h
    refine v_cS (ν := s_e181.1) (w := 1451) (as := [.int c, .int 0, .int 3]) (r := []) (o := some (.int r4)) (by omega) rfl rfl rfl rfl (t_Md_in e4 (by omega)) ?_
    show s_Ek (s_rows 3 L xs) D s_e278.1 19 [(0, .ref 151), (1, .int b), (2, .int c), (3, .int d)] [.int r4] (v_mk s4) _
    rcases v_if h with ⟨c5, h⟩ | ⟨c5, h⟩
    · refine v_i1f (T := 24) rfl rfl (fun q => q c5) ?_
      refine s_ek_bk 1 (P := 23) (ls' := [(0, .ref 151), (1, .int b), (2, .int c), (3, .int d)]) (st' := [.int 0]) (M' := v_mk s4) rfl ?_
      obtain ⟨rfl, rfl⟩ := v_so h
      exact v_ret (fun _ => rfl)
    · refine v_i1t (T := 24) rfl rfl c5 ?_
      refine s_ek_bk 1 (P := 25) (ls' := [(0, .ref 151), (1, .int b), (2, .int c), (3, .int d)]) (st' := [.int c]) (M' := v_mk s4) rfl ?_
      rcases v_if h with ⟨c6, h⟩ | ⟨c6, h⟩
      · refine v_i1f (T := 37) rfl rfl (fun q => q c6) ?_
        refine s_ek_bk 3 (P := 31) (ls' := [(0, .ref 151), (1, .int b), (2, .int c), (3, .int d)]) (st' := [.int d, .int b, .ref 151]) (M' := v_mk s4) rfl ?_
        obtain ⟨r7, s7, e7, h⟩ := v_bd h
        refine v_cV (ν := s_e269.1) (w := 2154) (a := 151) (as' := [.int b, .int d]) (r := []) (o := some (.int r7)) (by omega) rfl rfl rfl (v_mk_kd (k := 11) (rfl : v_kd 151 = 11) (by decide)) rfl (t_Md_saying e7 (by omega)) ?_
        show s_Ek (s_rows 3 L xs) D s_e278.1 34 [(0, .ref 151), (1, .int b), (2, .int c), (3, .int d)] [.int r7] (v_mk s7) _
        refine s_ek_bk 1 (P := 71) (ls' := [(0, .ref 151), (1, .int b), (2, .int c), (3, .int d)]) (st' := [.int r7]) (M' := v_mk s7) rfl ?_
        obtain ⟨rfl, rfl⟩ := v_so h
        exact v_ret (fun _ => rfl)
      · refine v_i1t (T := 37) rfl rfl c6 ?_
        refine s_ek_bk 2 (P := 39) (ls' := [(0, .ref 151), (1, .int b), (2, .int c), (3, .int d)]) (st' := [.int 1, .int c]) (M' := v_mk s4) rfl ?_
        rcases v_if h with ⟨c8, h⟩ | ⟨c8, h⟩
        · refine v_i2f (T := 51) rfl rfl (fun q => q c8) ?_
          refine s_ek_bk 3 (P := 45) (ls' := [(0, .ref 151), (1, .int b), (2, .int c), (3, .int d)]) (st' := [.int d, .int b, .ref 151]) (M' := v_mk s4) rfl ?_
          obtain ⟨r9, s9, e9, h⟩ := v_bd h
          refine v_cV (ν := s_e272.1) (w := 2178) (a := 151) (as' := [.int b, .int d]) (r := []) (o := some (.int r9)) (by omega) rfl rfl rfl (v_mk_kd (k := 11) (rfl : v_kd 151 = 11) (by decide)) rfl (t_Md_holding e9 (by omega)) ?_
          show s_Ek (s_rows 3 L xs) D s_e278.1 48 [(0, .ref 151), (1, .int b), (2, .int c), (3, .int d)] [.int r9] (v_mk s9) _
          refine s_ek_bk 1 (P := 71) (ls' := [(0, .ref 151), (1, .int b), (2, .int c), (3, .int d)]) (st' := [.int r9]) (M' := v_mk s9) rfl ?_
          obtain ⟨rfl, rfl⟩ := v_so h
          exact v_ret (fun _ => rfl)
        · refine v_i2t (T := 51) rfl rfl c8 ?_
          refine s_ek_bk 2 (P := 53) (ls' := [(0, .ref 151), (1, .int b), (2, .int c), (3, .int d)]) (st' := [.int 2, .int c]) (M' := v_mk s4) rfl ?_
          rcases v_if h with ⟨c10, h⟩ | ⟨c10, h⟩
          · refine v_i2f (T := 65) rfl rfl (fun q => q c10) ?_
            refine s_ek_bk 3 (P := 59) (ls' := [(0, .ref 151), (1, .int b), (2, .int c), (3, .int d)]) (st' := [.int d, .int b, .ref 151]) (M' := v_mk s4) rfl ?_
            obtain ⟨r11, s11, e11, h⟩ := v_bd h
            refine v_cV (ν := s_e275.1) (w := 2202) (a := 151) (as' := [.int b, .int d]) (r := []) (o := some (.int r11)) (by omega) rfl rfl rfl (v_mk_kd (k := 11) (rfl : v_kd 151 = 11) (by decide)) rfl (t_Md_beating e11 (by omega)) ?_
            show s_Ek (s_rows 3 L xs) D s_e278.1 62 [(0, .ref 151), (1, .int b), (2, .int c), (3, .int d)] [.int r11] (v_mk s11) _
            refine s_ek_bk 1 (P := 71) (ls' := [(0, .ref 151), (1, .int b), (2, .int c), (3, .int d)]) (st' := [.int r11]) (M' := v_mk s11) rfl ?_
            obtain ⟨rfl, rfl⟩ := v_so h
            exact v_ret (fun _ => rfl)
          · refine v_i2t (T := 65) rfl rfl c10 ?_
            refine s_ek_bk 3 (P := 68) (ls' := [(0, .ref 151), (1, .int b), (2, .int c), (3, .int d)]) (st' := [.int d, .int b, .ref 151]) (M' := v_mk s4) rfl ?_
            obtain ⟨r12, s12, e12, h⟩ := v_bd h
            refine v_cV (ν := s_e277.1) (w := 2218) (a := 151) (as' := [.int b, .int d]) (r := []) (o := some (.int r12)) (by omega) rfl rfl rfl (v_mk_kd (k := 11) (rfl : v_kd 151 = 11) (by decide)) rfl (t_Md_telling e12 (by omega)) ?_
            show s_Ek (s_rows 3 L xs) D s_e278.1 71 [(0, .ref 151), (1, .int b), (2, .int c), (3, .int d)] [.int r12] (v_mk s12) _
            obtain ⟨rfl, rfl⟩ := v_so h
            exact v_ret (fun _ => rfl)
noncomputable def f_Md_countStanding (s : vS) : Option (Int32 × vS) := (v_bi (f_Md_findStands 0 (-1) s) (fun _ s1 => (v_bi (f_Md_standing s1) (fun r2 s2 => (some (r2, s2))))))
set_option maxRecDepth 20000 in
set_option maxHeartbeats 4000000 in
theorem t_Md_countStanding {L : Nat} {xs : Nat → Int32} {D : Nat} {r : Int32} {s s' : vS} (h : f_Md_countStanding s = some (r, s')) (hD : 3 ≤ D) : s_Ek (s_rows 3 L xs) D s_e279.1 0 (lv_args 0 [.ref 151]) [] (v_mk s) (v_Q (some (.int r)) s') := by
  unfold f_Md_countStanding at h
  show s_Ek (s_rows 3 L xs) D s_e279.1 0 [(0, .ref 151)] [] (v_mk s) _
  refine s_ek_bk 3 (P := 3) (ls' := [(0, .ref 151)]) (st' := [.int (-1), .int 0, .ref 151]) (M' := v_mk s) rfl ?_
  obtain ⟨r1, s1, e1, h⟩ := v_bd h
  refine v_cV (ν := s_e219.1) (w := 1754) (a := 151) (as' := [.int 0, .int (-1)]) (r := []) (o := none) (by omega) rfl rfl rfl (v_mk_kd (k := 11) (rfl : v_kd 151 = 11) (by decide)) rfl (t_Md_findStands e1 (by omega)) ?_
  show s_Ek (s_rows 3 L xs) D s_e279.1 6 [(0, .ref 151)] [] (v_mk s1) _
  refine s_ek_bk 1 (P := 7) (ls' := [(0, .ref 151)]) (st' := [.ref 151]) (M' := v_mk s1) rfl ?_
  obtain ⟨r2, s2, e2, h⟩ := v_bd h
  refine v_cV (ν := s_e227.1) (w := 1816) (a := 151) (as' := []) (r := []) (o := some (.int r2)) (by omega) rfl rfl rfl (v_mk_kd (k := 11) (rfl : v_kd 151 = 11) (by decide)) rfl (t_Md_standing e2 (by omega)) ?_
  show s_Ek (s_rows 3 L xs) D s_e279.1 10 [(0, .ref 151)] [.int r2] (v_mk s2) _
  obtain ⟨rfl, rfl⟩ := v_so h
  exact v_ret (fun _ => rfl)
noncomputable def f_Md_count (b : Int32) (s : vS) : Option (Int32 × vS) := (if b.toInt < 0 ∨ 6 < b.toInt then (some ((-1), s)) else (if b.toInt = 0 then (some ((s.1 151 14), s)) else (if b.toInt = 1 then (v_bi (f_Md_thereMany s) (fun r4 s4 => (some (r4, s4)))) else (if b.toInt = 2 then (v_bi (f_Md_countStanding s) (fun r6 s6 => (some (r6, s6)))) else (if b.toInt = 3 then (some ((s.1 151 2), s)) else (if b.toInt = 4 then (some ((s.1 151 23), s)) else (if b.toInt = 5 then (some ((s.1 151 42), s)) else (some ((s.1 151 44), s)))))))))
set_option maxRecDepth 20000 in
set_option maxHeartbeats 4000000 in
theorem t_Md_count {L : Nat} {xs : Nat → Int32} {b : Int32} {D : Nat} {r : Int32} {s s' : vS} (h : f_Md_count b s = some (r, s')) (hD : 4 ≤ D) : s_Ek (s_rows 3 L xs) D s_e280.1 0 (lv_args 0 [.ref 151, .int b]) [] (v_mk s) (v_Q (some (.int r)) s') := by
  unfold f_Md_count at h
  show s_Ek (s_rows 3 L xs) D s_e280.1 0 [(0, .ref 151), (1, .int b)] [] (v_mk s) _
  refine s_ek_bk 1 (P := 1) (ls' := [(0, .ref 151), (1, .int b)]) (st' := [.int b]) (M' := v_mk s) rfl ?_
  rcases v_if h with ⟨c1, h⟩ | ⟨c1, h⟩
  · refine v_tso (T := 79) rfl rfl c1 ?_
    refine s_ek_bk 1 (P := 80) (ls' := [(0, .ref 151), (1, .int b)]) (st' := [.int (-1)]) (M' := v_mk s) rfl ?_
    obtain ⟨rfl, rfl⟩ := v_so h
    exact v_ret (fun _ => rfl)
  · rcases v_if h with ⟨c2, h⟩ | ⟨c2, h⟩
    · refine v_tsi (T := 44) (c := 0) rfl c2 rfl ?_
      refine s_ek_bk 1 (P := 45) (ls' := [(0, .ref 151), (1, .int b)]) (st' := [.ref 151]) (M' := v_mk s) rfl ?_
      refine v_gf rfl (v_gi (rfl : v_kd 151 = 11) rfl ⟨rfl, rfl, by decide⟩) ?_
      obtain ⟨rfl, rfl⟩ := v_so h
      exact v_ret (fun _ => rfl)
    · rcases v_if h with ⟨c3, h⟩ | ⟨c3, h⟩
      · refine v_tsi (T := 49) (c := 1) rfl c3 rfl ?_
        refine s_ek_bk 1 (P := 50) (ls' := [(0, .ref 151), (1, .int b)]) (st' := [.ref 151]) (M' := v_mk s) rfl ?_
        obtain ⟨r4, s4, e4, h⟩ := v_bd h
        refine v_cV (ν := s_e228.1) (w := 1824) (a := 151) (as' := []) (r := []) (o := some (.int r4)) (by omega) rfl rfl rfl (v_mk_kd (k := 11) (rfl : v_kd 151 = 11) (by decide)) rfl (t_Md_thereMany e4 (by omega)) ?_
        show s_Ek (s_rows 3 L xs) D s_e280.1 53 [(0, .ref 151), (1, .int b)] [.int r4] (v_mk s4) _
        obtain ⟨rfl, rfl⟩ := v_so h
        exact v_ret (fun _ => rfl)
      · rcases v_if h with ⟨c5, h⟩ | ⟨c5, h⟩
        · refine v_tsi (T := 54) (c := 2) rfl c5 rfl ?_
          refine s_ek_bk 1 (P := 55) (ls' := [(0, .ref 151), (1, .int b)]) (st' := [.ref 151]) (M' := v_mk s) rfl ?_
          obtain ⟨r6, s6, e6, h⟩ := v_bd h
          refine v_cV (ν := s_e279.1) (w := 2232) (a := 151) (as' := []) (r := []) (o := some (.int r6)) (by omega) rfl rfl rfl (v_mk_kd (k := 11) (rfl : v_kd 151 = 11) (by decide)) rfl (t_Md_countStanding e6 (by omega)) ?_
          show s_Ek (s_rows 3 L xs) D s_e280.1 58 [(0, .ref 151), (1, .int b)] [.int r6] (v_mk s6) _
          obtain ⟨rfl, rfl⟩ := v_so h
          exact v_ret (fun _ => rfl)
        · rcases v_if h with ⟨c7, h⟩ | ⟨c7, h⟩
          · refine v_tsi (T := 59) (c := 3) rfl c7 rfl ?_
            refine s_ek_bk 1 (P := 60) (ls' := [(0, .ref 151), (1, .int b)]) (st' := [.ref 151]) (M' := v_mk s) rfl ?_
            refine v_gf rfl (v_gi (rfl : v_kd 151 = 11) rfl ⟨rfl, rfl, by decide⟩) ?_
            obtain ⟨rfl, rfl⟩ := v_so h
            exact v_ret (fun _ => rfl)
          · rcases v_if h with ⟨c8, h⟩ | ⟨c8, h⟩
            · refine v_tsi (T := 64) (c := 4) rfl c8 rfl ?_
              refine s_ek_bk 1 (P := 65) (ls' := [(0, .ref 151), (1, .int b)]) (st' := [.ref 151]) (M' := v_mk s) rfl ?_
              refine v_gf rfl (v_gi (rfl : v_kd 151 = 11) rfl ⟨rfl, rfl, by decide⟩) ?_
              obtain ⟨rfl, rfl⟩ := v_so h
              exact v_ret (fun _ => rfl)
            · rcases v_if h with ⟨c9, h⟩ | ⟨c9, h⟩
              · refine v_tsi (T := 69) (c := 5) rfl c9 rfl ?_
                refine s_ek_bk 1 (P := 70) (ls' := [(0, .ref 151), (1, .int b)]) (st' := [.ref 151]) (M' := v_mk s) rfl ?_
                refine v_gf rfl (v_gi (rfl : v_kd 151 = 11) rfl ⟨rfl, rfl, by decide⟩) ?_
                obtain ⟨rfl, rfl⟩ := v_so h
                exact v_ret (fun _ => rfl)
              · refine v_tsi (T := 74) (c := 6) rfl (by omega) rfl ?_
                refine s_ek_bk 1 (P := 75) (ls' := [(0, .ref 151), (1, .int b)]) (st' := [.ref 151]) (M' := v_mk s) rfl ?_
                refine v_gf rfl (v_gi (rfl : v_kd 151 = 11) rfl ⟨rfl, rfl, by decide⟩) ?_
                obtain ⟨rfl, rfl⟩ := v_so h
                exact v_ret (fun _ => rfl)
noncomputable def f_Md_keep (b : Int32) (c : Int32) (s : vS) : Option (Int32 × vS) := (v_bi (f_Md_isShelf b s) (fun r1 s1 => (if r1.toInt = 0 then (some ((-1), s1)) else (if c.toInt = (-1) then (if v_in b 6 then (v_let (v_w1 s1 181 (Int32.toNatClampNeg b) c) (fun s5 => (some (1, s5)))) else none) else (v_bi (f_Md_isBody c s1) (fun r6 s6 => (if r6.toInt = 0 then (some ((-1), s6)) else (if v_in b 6 then (v_let (v_w1 s6 181 (Int32.toNatClampNeg b) c) (fun s9 => (some (1, s9)))) else none))))))))
set_option maxRecDepth 20000 in
set_option maxHeartbeats 4000000 in
theorem t_Md_keep {L : Nat} {xs : Nat → Int32} {b : Int32} {c : Int32} {D : Nat} {r : Int32} {s s' : vS} (h : f_Md_keep b c s = some (r, s')) (hD : 2 ≤ D) : s_Ek (s_rows 3 L xs) D s_e282.1 0 (lv_args 0 [.ref 151, .int b, .int c]) [] (v_mk s) (v_Q (some (.int r)) s') := by
  unfold f_Md_keep at h
  show s_Ek (s_rows 3 L xs) D s_e282.1 0 [(0, .ref 151), (1, .int b), (2, .int c)] [] (v_mk s) _
  refine s_ek_bk 1 (P := 1) (ls' := [(0, .ref 151), (1, .int b), (2, .int c)]) (st' := [.int b]) (M' := v_mk s) rfl ?_
  obtain ⟨r1, s1, e1, h⟩ := v_bd h
  refine v_cS (ν := s_e281.1) (w := 2249) (as := [.int b]) (r := []) (o := some (.int r1)) (by omega) rfl rfl rfl rfl (t_Md_isShelf e1 (by omega)) ?_
  show s_Ek (s_rows 3 L xs) D s_e282.1 4 [(0, .ref 151), (1, .int b), (2, .int c)] [.int r1] (v_mk s1) _
  rcases v_if h with ⟨c2, h⟩ | ⟨c2, h⟩
  · refine v_i1t (T := 20) rfl rfl c2 ?_
    refine s_ek_bk 1 (P := 21) (ls' := [(0, .ref 151), (1, .int b), (2, .int c)]) (st' := [.int (-1)]) (M' := v_mk s1) rfl ?_
    obtain ⟨rfl, rfl⟩ := v_so h
    exact v_ret (fun _ => rfl)
  · refine v_i1f (T := 20) rfl rfl c2 ?_
    refine s_ek_bk 2 (P := 9) (ls' := [(0, .ref 151), (1, .int b), (2, .int c)]) (st' := [.int (-1), .int c]) (M' := v_mk s1) rfl ?_
    rcases v_if h with ⟨c3, h⟩ | ⟨c3, h⟩
    · refine v_i2t (T := 22) rfl rfl c3 ?_
      refine s_ek_bk 1 (P := 23) (ls' := [(0, .ref 151), (1, .int b), (2, .int c)]) (st' := [.ref 151]) (M' := v_mk s1) rfl ?_
      refine v_gf rfl (v_gr (rfl : v_kd 151 = 11) (rfl : v_sl 151 46 = .ref 181) ⟨rfl, rfl, by decide⟩) ?_
      refine s_ek_bk 2 (P := 28) (ls' := [(0, .ref 151), (1, .int b), (2, .int c)]) (st' := [.int c, .int b, .ref 181]) (M' := v_mk s1) rfl ?_
      obtain ⟨c4, h⟩ := v_ck h
      obtain ⟨s5, es5, h⟩ := v_ld h
      refine v_ist (M' := v_mk s5) (i := b) rfl (by rw [es5]; exact v_pai (rfl : v_kd 181 = 13) rfl (by decide) v_all13 (v_cn (rfl : v_ln 181 = 6) c4)) ?_
      refine s_ek_bk 1 (P := 30) (ls' := [(0, .ref 151), (1, .int b), (2, .int c)]) (st' := [.int 1]) (M' := v_mk s5) rfl ?_
      obtain ⟨rfl, rfl⟩ := v_so h
      exact v_ret (fun _ => rfl)
    · refine v_i2f (T := 22) rfl rfl c3 ?_
      refine s_ek_bk 2 (P := 14) (ls' := [(0, .ref 151), (1, .int b), (2, .int c)]) (st' := [.int c, .ref 151]) (M' := v_mk s1) rfl ?_
      obtain ⟨r6, s6, e6, h⟩ := v_bd h
      refine v_cV (ν := s_e262.1) (w := 2097) (a := 151) (as' := [.int c]) (r := []) (o := some (.int r6)) (by omega) rfl rfl rfl (v_mk_kd (k := 11) (rfl : v_kd 151 = 11) (by decide)) rfl (t_Md_isBody e6 (by omega)) ?_
      show s_Ek (s_rows 3 L xs) D s_e282.1 17 [(0, .ref 151), (1, .int b), (2, .int c)] [.int r6] (v_mk s6) _
      rcases v_if h with ⟨c7, h⟩ | ⟨c7, h⟩
      · refine v_i1f (T := 22) rfl rfl (fun q => q c7) ?_
        refine s_ek_bk 1 (P := 21) (ls' := [(0, .ref 151), (1, .int b), (2, .int c)]) (st' := [.int (-1)]) (M' := v_mk s6) rfl ?_
        obtain ⟨rfl, rfl⟩ := v_so h
        exact v_ret (fun _ => rfl)
      · refine v_i1t (T := 22) rfl rfl c7 ?_
        refine s_ek_bk 1 (P := 23) (ls' := [(0, .ref 151), (1, .int b), (2, .int c)]) (st' := [.ref 151]) (M' := v_mk s6) rfl ?_
        refine v_gf rfl (v_gr (rfl : v_kd 151 = 11) (rfl : v_sl 151 46 = .ref 181) ⟨rfl, rfl, by decide⟩) ?_
        refine s_ek_bk 2 (P := 28) (ls' := [(0, .ref 151), (1, .int b), (2, .int c)]) (st' := [.int c, .int b, .ref 181]) (M' := v_mk s6) rfl ?_
        obtain ⟨c8, h⟩ := v_ck h
        obtain ⟨s9, es9, h⟩ := v_ld h
        refine v_ist (M' := v_mk s9) (i := b) rfl (by rw [es9]; exact v_pai (rfl : v_kd 181 = 13) rfl (by decide) v_all13 (v_cn (rfl : v_ln 181 = 6) c8)) ?_
        refine s_ek_bk 1 (P := 30) (ls' := [(0, .ref 151), (1, .int b), (2, .int c)]) (st' := [.int 1]) (M' := v_mk s9) rfl ?_
        obtain ⟨rfl, rfl⟩ := v_so h
        exact v_ret (fun _ => rfl)
noncomputable def f_Md_row_L54b (p1 : Int32) (k80 : vS → Option (Int32 × vS)) (again : Int32 → vS → Option (Int32 × vS)) (v4 : Int32) (s : vS) : Option (Int32 × vS) := (if (((60 : Int32) * p1) + (60 : Int32)).toInt ≤ v4.toInt then (k80 s) else (if v_in v4 360 then (v_let (v_w2 s 183 (Int32.toNatClampNeg v4) 0) (fun s113 => (again (v4 + 1) s113))) else none))
noncomputable def f_Md_row_L54 (p1 : Int32) (k80 : vS → Option (Int32 × vS)) (n : Nat) : Int32 → vS → Option (Int32 × vS) := Nat.rec (motive := fun _ => Int32 → vS → Option (Int32 × vS)) (fun _ _ => none) (fun _ again => f_Md_row_L54b p1 k80 again) n
noncomputable def f_Md_row (b : Int32) (c : Int32) (d : Int32) (s : vS) : Option (Int32 × vS) := (v_bi (f_Md_isShelf b s) (fun r1 s1 => (if r1.toInt = 0 then (some ((-1), s1)) else (v_bi (f_Md_in c 0 4 s1) (fun r3 s3 => (if r3.toInt = 0 then (some ((-1), s3)) else (if d.toInt ≤ 60 then (if 0 ≤ d.toInt then (if v_in b 6 then (v_let (v_w1 s3 181 (Int32.toNatClampNeg b) (((-2) : Int32) - c)) (fun s8 => (if v_in b 6 then (v_let (v_w1 s8 182 (Int32.toNatClampNeg b) d) (fun s10 => (f_Md_row_L54 b (fun s11 => (some (1, s11))) 4096 ((60 : Int32) * b) s10))) else none))) else none) else (some ((-14), s3))) else (some ((-1), s3)))))))))
set_option maxRecDepth 20000 in
set_option maxHeartbeats 4000000 in
theorem t_Md_row_L54 {L : Nat} {xs : Nat → Int32} {p1 : Int32} {k80 : vS → Option (Int32 × vS)} {D : Nat} (hD : 2 ≤ D) {r : Int32} {s' : vS} (hk80 : ∀ (s : vS), k80 s = some (r, s') → s_Ek (s_rows 3 L xs) D s_e283.1 80 [] [] (v_mk s) (v_Q (some (.int r)) s')) : ∀ (n : Nat) (v4 : Int32) (s : vS), f_Md_row_L54 p1 k80 n v4 s = some (r, s') → s_Ek (s_rows 3 L xs) D s_e283.1 54 [(0, .ref 151), (1, .int p1), (4, .int v4)] [] (v_mk s) (v_Q (some (.int r)) s') := by
  intro n
  induction n with
  | zero => intro v4 s h; exact nomatch (show (none : Option (Int32 × vS)) = some (r, s') from h)
  | succ n ih =>
    intro v4 s h
    replace h : f_Md_row_L54b p1 k80 (f_Md_row_L54 p1 k80 n) v4 s = some (r, s') := h
    unfold f_Md_row_L54b at h
    refine s_ek_bk 6 (P := 63) (ls' := [(0, .ref 151), (1, .int p1), (4, .int v4)]) (st' := [.int (((60 : Int32) * p1) + (60 : Int32)), .int v4]) (M' := v_mk s) rfl ?_
    rcases v_if h with ⟨c111, h⟩ | ⟨c111, h⟩
    · refine v_i2t (T := 80) rfl rfl c111 ?_
      refine v_ls (ls' := []) trivial (show ([] : List Nat).Nodup from by decide) ?_
      exact hk80 _ h
    · refine v_i2f (T := 80) rfl rfl c111 ?_
      refine s_ek_bk 1 (P := 67) (ls' := [(0, .ref 151), (1, .int p1), (4, .int v4)]) (st' := [.ref 151]) (M' := v_mk s) rfl ?_
      refine v_gf rfl (v_gr (rfl : v_kd 151 = 11) (rfl : v_sl 151 48 = .ref 183) ⟨rfl, rfl, by decide⟩) ?_
      refine s_ek_bk 2 (P := 73) (ls' := [(0, .ref 151), (1, .int p1), (4, .int v4)]) (st' := [.long 0, .int v4, .ref 183]) (M' := v_mk s) rfl ?_
      obtain ⟨c112, h⟩ := v_ck h
      obtain ⟨s113, es113, h⟩ := v_ld h
      refine v_lst (M' := v_mk s113) (i := v4) rfl (by rw [es113]; exact v_pal (rfl : v_kd 183 = 14) rfl (by decide) v_all14 (v_cn (rfl : v_ln 183 = 360) c112)) ?_
      refine s_ek_bk 2 (P := 54) (ls' := [(4, .int (v4 + 1)), (0, .ref 151), (1, .int p1)]) (st' := []) (M' := v_mk s113) rfl ?_
      refine v_ls (ls' := [(0, .ref 151), (1, .int p1), (4, .int (v4 + 1))]) ⟨rfl, rfl, rfl, trivial⟩ (show ([0, 1, 4] : List Nat).Nodup from by decide) ?_
      exact ih _ _ h
set_option maxRecDepth 20000 in
set_option maxHeartbeats 4000000 in
theorem t_Md_row {L : Nat} {xs : Nat → Int32} {b : Int32} {c : Int32} {d : Int32} {D : Nat} {r : Int32} {s s' : vS} (h : f_Md_row b c d s = some (r, s')) (hD : 2 ≤ D) : s_Ek (s_rows 3 L xs) D s_e283.1 0 (lv_args 0 [.ref 151, .int b, .int c, .int d]) [] (v_mk s) (v_Q (some (.int r)) s') := by
  unfold f_Md_row at h
  show s_Ek (s_rows 3 L xs) D s_e283.1 0 [(0, .ref 151), (1, .int b), (2, .int c), (3, .int d)] [] (v_mk s) _
  refine s_ek_bk 1 (P := 1) (ls' := [(0, .ref 151), (1, .int b), (2, .int c), (3, .int d)]) (st' := [.int b]) (M' := v_mk s) rfl ?_
  obtain ⟨r1, s1, e1, h⟩ := v_bd h
  refine v_cS (ν := s_e281.1) (w := 2249) (as := [.int b]) (r := []) (o := some (.int r1)) (by omega) rfl rfl rfl rfl (t_Md_isShelf e1 (by omega)) ?_
  show s_Ek (s_rows 3 L xs) D s_e283.1 4 [(0, .ref 151), (1, .int b), (2, .int c), (3, .int d)] [.int r1] (v_mk s1) _
  rcases v_if h with ⟨c2, h⟩ | ⟨c2, h⟩
  · refine v_i1t (T := 22) rfl rfl c2 ?_
    refine s_ek_bk 1 (P := 23) (ls' := [(0, .ref 151), (1, .int b), (2, .int c), (3, .int d)]) (st' := [.int (-1)]) (M' := v_mk s1) rfl ?_
    obtain ⟨rfl, rfl⟩ := v_so h
    exact v_ret (fun _ => rfl)
  · refine v_i1f (T := 22) rfl rfl c2 ?_
    refine s_ek_bk 3 (P := 10) (ls' := [(0, .ref 151), (1, .int b), (2, .int c), (3, .int d)]) (st' := [.int 4, .int 0, .int c]) (M' := v_mk s1) rfl ?_
    obtain ⟨r3, s3, e3, h⟩ := v_bd h
    refine v_cS (ν := s_e181.1) (w := 1451) (as := [.int c, .int 0, .int 4]) (r := []) (o := some (.int r3)) (by omega) rfl rfl rfl rfl (t_Md_in e3 (by omega)) ?_
    show s_Ek (s_rows 3 L xs) D s_e283.1 13 [(0, .ref 151), (1, .int b), (2, .int c), (3, .int d)] [.int r3] (v_mk s3) _
    rcases v_if h with ⟨c4, h⟩ | ⟨c4, h⟩
    · refine v_i1t (T := 22) rfl rfl c4 ?_
      refine s_ek_bk 1 (P := 23) (ls' := [(0, .ref 151), (1, .int b), (2, .int c), (3, .int d)]) (st' := [.int (-1)]) (M' := v_mk s3) rfl ?_
      obtain ⟨rfl, rfl⟩ := v_so h
      exact v_ret (fun _ => rfl)
    · refine v_i1f (T := 22) rfl rfl c4 ?_
      refine s_ek_bk 2 (P := 19) (ls' := [(0, .ref 151), (1, .int b), (2, .int c), (3, .int d)]) (st' := [.int 60, .int d]) (M' := v_mk s3) rfl ?_
      rcases v_if h with ⟨c5, h⟩ | ⟨c5, h⟩
      · refine v_i2t (T := 24) rfl rfl c5 ?_
        refine s_ek_bk 1 (P := 25) (ls' := [(0, .ref 151), (1, .int b), (2, .int c), (3, .int d)]) (st' := [.int d]) (M' := v_mk s3) rfl ?_
        rcases v_if h with ⟨c6, h⟩ | ⟨c6, h⟩
        · refine v_i1t (T := 31) rfl rfl c6 ?_
          refine s_ek_bk 1 (P := 32) (ls' := [(0, .ref 151), (1, .int b), (2, .int c), (3, .int d)]) (st' := [.ref 151]) (M' := v_mk s3) rfl ?_
          refine v_gf rfl (v_gr (rfl : v_kd 151 = 11) (rfl : v_sl 151 46 = .ref 181) ⟨rfl, rfl, by decide⟩) ?_
          refine s_ek_bk 4 (P := 40) (ls' := [(0, .ref 151), (1, .int b), (2, .int c), (3, .int d)]) (st' := [.int (((-2) : Int32) - c), .int b, .ref 181]) (M' := v_mk s3) rfl ?_
          obtain ⟨c7, h⟩ := v_ck h
          obtain ⟨s8, es8, h⟩ := v_ld h
          refine v_ist (M' := v_mk s8) (i := b) rfl (by rw [es8]; exact v_pai (rfl : v_kd 181 = 13) rfl (by decide) v_all13 (v_cn (rfl : v_ln 181 = 6) c7)) ?_
          refine s_ek_bk 1 (P := 42) (ls' := [(0, .ref 151), (1, .int b), (2, .int c), (3, .int d)]) (st' := [.ref 151]) (M' := v_mk s8) rfl ?_
          refine v_gf rfl (v_gr (rfl : v_kd 151 = 11) (rfl : v_sl 151 47 = .ref 182) ⟨rfl, rfl, by decide⟩) ?_
          refine s_ek_bk 2 (P := 47) (ls' := [(0, .ref 151), (1, .int b), (2, .int c), (3, .int d)]) (st' := [.int d, .int b, .ref 182]) (M' := v_mk s8) rfl ?_
          obtain ⟨c9, h⟩ := v_ck h
          obtain ⟨s10, es10, h⟩ := v_ld h
          refine v_ist (M' := v_mk s10) (i := b) rfl (by rw [es10]; exact v_pai (rfl : v_kd 182 = 13) rfl (by decide) v_all13 (v_cn (rfl : v_ln 182 = 6) c9)) ?_
          refine s_ek_bk 4 (P := 54) (ls' := [(4, .int ((60 : Int32) * b)), (0, .ref 151), (1, .int b), (2, .int c), (3, .int d)]) (st' := []) (M' := v_mk s10) rfl ?_
          refine v_ls (ls' := [(0, .ref 151), (1, .int b), (4, .int ((60 : Int32) * b))]) ⟨rfl, rfl, rfl, trivial⟩ (show ([0, 1, 4] : List Nat).Nodup from by decide) ?_
          refine t_Md_row_L54 (by omega) (fun s11 h => ?_) 4096 _ _ h
          show s_Ek (s_rows 3 L xs) D s_e283.1 80 [] [] (v_mk s11) _
          refine s_ek_bk 1 (P := 81) (ls' := []) (st' := [.int 1]) (M' := v_mk s11) rfl ?_
          obtain ⟨rfl, rfl⟩ := v_so h
          exact v_ret (fun _ => rfl)
        · refine v_i1f (T := 31) rfl rfl c6 ?_
          refine s_ek_bk 1 (P := 30) (ls' := [(0, .ref 151), (1, .int b), (2, .int c), (3, .int d)]) (st' := [.int (-14)]) (M' := v_mk s3) rfl ?_
          obtain ⟨rfl, rfl⟩ := v_so h
          exact v_ret (fun _ => rfl)
      · refine v_i2f (T := 24) rfl rfl c5 ?_
        refine s_ek_bk 1 (P := 23) (ls' := [(0, .ref 151), (1, .int b), (2, .int c), (3, .int d)]) (st' := [.int (-1)]) (M' := v_mk s3) rfl ?_
        obtain ⟨rfl, rfl⟩ := v_so h
        exact v_ret (fun _ => rfl)
noncomputable def f_Md_whyNoPlace (b : Int32) (c : Int32) (s : vS) : Option (Int32 × vS) := (v_bi (f_Md_isShelf b s) (fun r1 s1 => (if r1.toInt = 0 then (some ((-1), s1)) else (if v_in b 6 then (if (s1.1 181 (Int32.toNatClampNeg b)).toInt = (-1) then (some ((-11), s1)) else (if v_in b 6 then (if (s1.1 181 (Int32.toNatClampNeg b)).toInt < 0 then (if v_in b 6 then (v_bi (f_Md_in c 0 ((s1.1 182 (Int32.toNatClampNeg b)) - (1 : Int32)) s1) (fun r8 s8 => (if r8.toInt = 0 then (some ((-13), s8)) else (some (0, s8))))) else none) else (some ((-12), s1))) else none)) else none))))
set_option maxRecDepth 20000 in
set_option maxHeartbeats 4000000 in
theorem t_Md_whyNoPlace {L : Nat} {xs : Nat → Int32} {b : Int32} {c : Int32} {D : Nat} {r : Int32} {s s' : vS} (h : f_Md_whyNoPlace b c s = some (r, s')) (hD : 2 ≤ D) : s_Ek (s_rows 3 L xs) D s_e284.1 0 (lv_args 0 [.ref 151, .int b, .int c]) [] (v_mk s) (v_Q (some (.int r)) s') := by
  unfold f_Md_whyNoPlace at h
  show s_Ek (s_rows 3 L xs) D s_e284.1 0 [(0, .ref 151), (1, .int b), (2, .int c)] [] (v_mk s) _
  refine s_ek_bk 1 (P := 1) (ls' := [(0, .ref 151), (1, .int b), (2, .int c)]) (st' := [.int b]) (M' := v_mk s) rfl ?_
  obtain ⟨r1, s1, e1, h⟩ := v_bd h
  refine v_cS (ν := s_e281.1) (w := 2249) (as := [.int b]) (r := []) (o := some (.int r1)) (by omega) rfl rfl rfl rfl (t_Md_isShelf e1 (by omega)) ?_
  show s_Ek (s_rows 3 L xs) D s_e284.1 4 [(0, .ref 151), (1, .int b), (2, .int c)] [.int r1] (v_mk s1) _
  rcases v_if h with ⟨c2, h⟩ | ⟨c2, h⟩
  · refine v_i1f (T := 9) rfl rfl (fun q => q c2) ?_
    refine s_ek_bk 1 (P := 8) (ls' := [(0, .ref 151), (1, .int b), (2, .int c)]) (st' := [.int (-1)]) (M' := v_mk s1) rfl ?_
    obtain ⟨rfl, rfl⟩ := v_so h
    exact v_ret (fun _ => rfl)
  · refine v_i1t (T := 9) rfl rfl c2 ?_
    refine s_ek_bk 1 (P := 10) (ls' := [(0, .ref 151), (1, .int b), (2, .int c)]) (st' := [.ref 151]) (M' := v_mk s1) rfl ?_
    refine v_gf rfl (v_gr (rfl : v_kd 151 = 11) (rfl : v_sl 151 46 = .ref 181) ⟨rfl, rfl, by decide⟩) ?_
    refine s_ek_bk 1 (P := 14) (ls' := [(0, .ref 151), (1, .int b), (2, .int c)]) (st' := [.int b, .ref 181]) (M' := v_mk s1) rfl ?_
    obtain ⟨c3, h⟩ := v_ck h
    refine v_ia (i := b) rfl (v_ai (rfl : v_kd 181 = 13) rfl (by decide) v_all13 (v_cn (rfl : v_ln 181 = 6) c3)) ?_
    refine s_ek_bk 1 (P := 16) (ls' := [(0, .ref 151), (1, .int b), (2, .int c)]) (st' := [.int (-1), .int (s1.1 181 (Int32.toNatClampNeg b))]) (M' := v_mk s1) rfl ?_
    rcases v_if h with ⟨c4, h⟩ | ⟨c4, h⟩
    · refine v_i2f (T := 22) rfl rfl (fun q => q c4) ?_
      refine s_ek_bk 1 (P := 21) (ls' := [(0, .ref 151), (1, .int b), (2, .int c)]) (st' := [.int (-11)]) (M' := v_mk s1) rfl ?_
      obtain ⟨rfl, rfl⟩ := v_so h
      exact v_ret (fun _ => rfl)
    · refine v_i2t (T := 22) rfl rfl c4 ?_
      refine s_ek_bk 1 (P := 23) (ls' := [(0, .ref 151), (1, .int b), (2, .int c)]) (st' := [.ref 151]) (M' := v_mk s1) rfl ?_
      refine v_gf rfl (v_gr (rfl : v_kd 151 = 11) (rfl : v_sl 151 46 = .ref 181) ⟨rfl, rfl, by decide⟩) ?_
      refine s_ek_bk 1 (P := 27) (ls' := [(0, .ref 151), (1, .int b), (2, .int c)]) (st' := [.int b, .ref 181]) (M' := v_mk s1) rfl ?_
      obtain ⟨c5, h⟩ := v_ck h
      refine v_ia (i := b) rfl (v_ai (rfl : v_kd 181 = 13) rfl (by decide) v_all13 (v_cn (rfl : v_ln 181 = 6) c5)) ?_
      rcases v_if h with ⟨c6, h⟩ | ⟨c6, h⟩
      · refine v_i1t (T := 34) rfl rfl c6 ?_
        refine s_ek_bk 3 (P := 37) (ls' := [(0, .ref 151), (1, .int b), (2, .int c)]) (st' := [.ref 151, .int 0, .int c]) (M' := v_mk s1) rfl ?_
        refine v_gf rfl (v_gr (rfl : v_kd 151 = 11) (rfl : v_sl 151 47 = .ref 182) ⟨rfl, rfl, by decide⟩) ?_
        refine s_ek_bk 1 (P := 41) (ls' := [(0, .ref 151), (1, .int b), (2, .int c)]) (st' := [.int b, .ref 182, .int 0, .int c]) (M' := v_mk s1) rfl ?_
        obtain ⟨c7, h⟩ := v_ck h
        refine v_ia (i := b) rfl (v_ai (rfl : v_kd 182 = 13) rfl (by decide) v_all13 (v_cn (rfl : v_ln 182 = 6) c7)) ?_
        refine s_ek_bk 2 (P := 44) (ls' := [(0, .ref 151), (1, .int b), (2, .int c)]) (st' := [.int ((s1.1 182 (Int32.toNatClampNeg b)) - (1 : Int32)), .int 0, .int c]) (M' := v_mk s1) rfl ?_
        obtain ⟨r8, s8, e8, h⟩ := v_bd h
        refine v_cS (ν := s_e181.1) (w := 1451) (as := [.int c, .int 0, .int ((s1.1 182 (Int32.toNatClampNeg b)) - (1 : Int32))]) (r := []) (o := some (.int r8)) (by omega) rfl rfl rfl rfl (t_Md_in e8 (by omega)) ?_
        show s_Ek (s_rows 3 L xs) D s_e284.1 47 [(0, .ref 151), (1, .int b), (2, .int c)] [.int r8] (v_mk s8) _
        rcases v_if h with ⟨c9, h⟩ | ⟨c9, h⟩
        · refine v_i1t (T := 54) rfl rfl c9 ?_
          refine s_ek_bk 1 (P := 56) (ls' := [(0, .ref 151), (1, .int b), (2, .int c)]) (st' := [.int (-13)]) (M' := v_mk s8) rfl ?_
          obtain ⟨rfl, rfl⟩ := v_so h
          exact v_ret (fun _ => rfl)
        · refine v_i1f (T := 54) rfl rfl c9 ?_
          refine s_ek_bk 2 (P := 56) (ls' := [(0, .ref 151), (1, .int b), (2, .int c)]) (st' := [.int 0]) (M' := v_mk s8) rfl ?_
          obtain ⟨rfl, rfl⟩ := v_so h
          exact v_ret (fun _ => rfl)
      · refine v_i1f (T := 34) rfl rfl c6 ?_
        refine s_ek_bk 1 (P := 33) (ls' := [(0, .ref 151), (1, .int b), (2, .int c)]) (st' := [.int (-12)]) (M' := v_mk s1) rfl ?_
        obtain ⟨rfl, rfl⟩ := v_so h
        exact v_ret (fun _ => rfl)
noncomputable def f_Md_put (b : Int32) (c : Int32) (d : Int64) (s : vS) : Option (Int32 × vS) := (v_bi (f_Md_whyNoPlace b c s) (fun r1 s1 => (if 0 ≤ r1.toInt then (if v_in b 6 then (if (((-2) : Int32) - (s1.1 181 (Int32.toNatClampNeg b))).toInt = 0 then (if v_in (((60 : Int32) * b) + c) 360 then (v_let (v_w2 s1 183 (Int32.toNatClampNeg (((60 : Int32) * b) + c)) (Int32.toInt64 (Int8.toInt32 (Int32.toInt8 (Int64.toInt32 d))))) (fun s6 => (some (1, s6)))) else none) else (if (((-2) : Int32) - (s1.1 181 (Int32.toNatClampNeg b))).toInt = 1 then (if v_in (((60 : Int32) * b) + c) 360 then (v_let (v_w2 s1 183 (Int32.toNatClampNeg (((60 : Int32) * b) + c)) (Int32.toInt64 (Int16.toInt32 (Int32.toInt16 (Int64.toInt32 d))))) (fun s9 => (some (1, s9)))) else none) else (if (((-2) : Int32) - (s1.1 181 (Int32.toNatClampNeg b))).toInt = 2 then (if v_in (((60 : Int32) * b) + c) 360 then (v_let (v_w2 s1 183 (Int32.toNatClampNeg (((60 : Int32) * b) + c)) (Int32.toInt64 (Int64.toInt32 d))) (fun s12 => (some (1, s12)))) else none) else (if (((-2) : Int32) - (s1.1 181 (Int32.toNatClampNeg b))).toInt = 3 then (if v_in (((60 : Int32) * b) + c) 360 then (v_let (v_w2 s1 183 (Int32.toNatClampNeg (((60 : Int32) * b) + c)) d) (fun s15 => (some (1, s15)))) else none) else (if (lg_cmp d (0 : Int64)).toInt = 0 then (if v_in (((60 : Int32) * b) + c) 360 then (v_let (v_w2 s1 183 (Int32.toNatClampNeg (((60 : Int32) * b) + c)) 0) (fun s18 => (some (1, s18)))) else none) else (if v_in (((60 : Int32) * b) + c) 360 then (v_let (v_w2 s1 183 (Int32.toNatClampNeg (((60 : Int32) * b) + c)) 1) (fun s20 => (some (1, s20)))) else none)))))) else none) else (some (r1, s1)))))
set_option maxRecDepth 20000 in
set_option maxHeartbeats 4000000 in
theorem t_Md_put {L : Nat} {xs : Nat → Int32} {b : Int32} {c : Int32} {d : Int64} {D : Nat} {r : Int32} {s s' : vS} (h : f_Md_put b c d s = some (r, s')) (hD : 3 ≤ D) : s_Ek (s_rows 3 L xs) D s_e285.1 0 (lv_args 0 [.ref 151, .int b, .int c, .long d]) [] (v_mk s) (v_Q (some (.int r)) s') := by
  unfold f_Md_put at h
  show s_Ek (s_rows 3 L xs) D s_e285.1 0 [(0, .ref 151), (1, .int b), (2, .int c), (3, .long d)] [] (v_mk s) _
  refine s_ek_bk 3 (P := 3) (ls' := [(0, .ref 151), (1, .int b), (2, .int c), (3, .long d)]) (st' := [.int c, .int b, .ref 151]) (M' := v_mk s) rfl ?_
  obtain ⟨r1, s1, e1, h⟩ := v_bd h
  refine v_cV (ν := s_e284.1) (w := 2274) (a := 151) (as' := [.int b, .int c]) (r := []) (o := some (.int r1)) (by omega) rfl rfl rfl (v_mk_kd (k := 11) (rfl : v_kd 151 = 11) (by decide)) rfl (t_Md_whyNoPlace e1 (by omega)) ?_
  show s_Ek (s_rows 3 L xs) D s_e285.1 6 [(0, .ref 151), (1, .int b), (2, .int c), (3, .long d)] [.int r1] (v_mk s1) _
  refine s_ek_bk 2 (P := 10) (ls' := [(5, .int r1), (0, .ref 151), (1, .int b), (2, .int c), (3, .long d)]) (st' := [.int r1]) (M' := v_mk s1) rfl ?_
  rcases v_if h with ⟨c2, h⟩ | ⟨c2, h⟩
  · refine v_i1t (T := 16) rfl rfl c2 ?_
    refine s_ek_bk 2 (P := 19) (ls' := [(5, .int r1), (0, .ref 151), (1, .int b), (2, .int c), (3, .long d)]) (st' := [.ref 151, .int (-2)]) (M' := v_mk s1) rfl ?_
    refine v_gf rfl (v_gr (rfl : v_kd 151 = 11) (rfl : v_sl 151 46 = .ref 181) ⟨rfl, rfl, by decide⟩) ?_
    refine s_ek_bk 1 (P := 23) (ls' := [(5, .int r1), (0, .ref 151), (1, .int b), (2, .int c), (3, .long d)]) (st' := [.int b, .ref 181, .int (-2)]) (M' := v_mk s1) rfl ?_
    obtain ⟨c3, h⟩ := v_ck h
    refine v_ia (i := b) rfl (v_ai (rfl : v_kd 181 = 13) rfl (by decide) v_all13 (v_cn (rfl : v_ln 181 = 6) c3)) ?_
    refine s_ek_bk 3 (P := 28) (ls' := [(6, .int (((-2) : Int32) - (s1.1 181 (Int32.toNatClampNeg b)))), (5, .int r1), (0, .ref 151), (1, .int b), (2, .int c), (3, .long d)]) (st' := [.ref 151]) (M' := v_mk s1) rfl ?_
    refine v_gf rfl (v_gr (rfl : v_kd 151 = 11) (rfl : v_sl 151 48 = .ref 183) ⟨rfl, rfl, by decide⟩) ?_
    refine s_ek_bk 6 (P := 39) (ls' := [(6, .int (((-2) : Int32) - (s1.1 181 (Int32.toNatClampNeg b)))), (5, .int r1), (0, .ref 151), (1, .int b), (2, .int c), (3, .long d)]) (st' := [.int (((-2) : Int32) - (s1.1 181 (Int32.toNatClampNeg b))), .int (((60 : Int32) * b) + c), .ref 183]) (M' := v_mk s1) rfl ?_
    rcases v_if h with ⟨c4, h⟩ | ⟨c4, h⟩
    · refine v_i1f (T := 49) rfl rfl (fun q => q c4) ?_
      refine s_ek_bk 5 (P := 95) (ls' := [(6, .int (((-2) : Int32) - (s1.1 181 (Int32.toNatClampNeg b)))), (5, .int r1), (0, .ref 151), (1, .int b), (2, .int c), (3, .long d)]) (st' := [.long (Int32.toInt64 (Int8.toInt32 (Int32.toInt8 (Int64.toInt32 d)))), .int (((60 : Int32) * b) + c), .ref 183]) (M' := v_mk s1) rfl ?_
      obtain ⟨c5, h⟩ := v_ck h
      obtain ⟨s6, es6, h⟩ := v_ld h
      refine v_lst (M' := v_mk s6) (i := (((60 : Int32) * b) + c)) rfl (by rw [es6]; exact v_pal (rfl : v_kd 183 = 14) rfl (by decide) v_all14 (v_cn (rfl : v_ln 183 = 360) c5)) ?_
      refine s_ek_bk 1 (P := 97) (ls' := [(6, .int (((-2) : Int32) - (s1.1 181 (Int32.toNatClampNeg b)))), (5, .int r1), (0, .ref 151), (1, .int b), (2, .int c), (3, .long d)]) (st' := [.int 1]) (M' := v_mk s6) rfl ?_
      obtain ⟨rfl, rfl⟩ := v_so h
      exact v_ret (fun _ => rfl)
    · refine v_i1t (T := 49) rfl rfl c4 ?_
      refine s_ek_bk 2 (P := 52) (ls' := [(6, .int (((-2) : Int32) - (s1.1 181 (Int32.toNatClampNeg b)))), (5, .int r1), (0, .ref 151), (1, .int b), (2, .int c), (3, .long d)]) (st' := [.int 1, .int (((-2) : Int32) - (s1.1 181 (Int32.toNatClampNeg b))), .int (((60 : Int32) * b) + c), .ref 183]) (M' := v_mk s1) rfl ?_
      rcases v_if h with ⟨c7, h⟩ | ⟨c7, h⟩
      · refine v_i2f (T := 62) rfl rfl (fun q => q c7) ?_
        refine s_ek_bk 5 (P := 95) (ls' := [(6, .int (((-2) : Int32) - (s1.1 181 (Int32.toNatClampNeg b)))), (5, .int r1), (0, .ref 151), (1, .int b), (2, .int c), (3, .long d)]) (st' := [.long (Int32.toInt64 (Int16.toInt32 (Int32.toInt16 (Int64.toInt32 d)))), .int (((60 : Int32) * b) + c), .ref 183]) (M' := v_mk s1) rfl ?_
        obtain ⟨c8, h⟩ := v_ck h
        obtain ⟨s9, es9, h⟩ := v_ld h
        refine v_lst (M' := v_mk s9) (i := (((60 : Int32) * b) + c)) rfl (by rw [es9]; exact v_pal (rfl : v_kd 183 = 14) rfl (by decide) v_all14 (v_cn (rfl : v_ln 183 = 360) c8)) ?_
        refine s_ek_bk 1 (P := 97) (ls' := [(6, .int (((-2) : Int32) - (s1.1 181 (Int32.toNatClampNeg b)))), (5, .int r1), (0, .ref 151), (1, .int b), (2, .int c), (3, .long d)]) (st' := [.int 1]) (M' := v_mk s9) rfl ?_
        obtain ⟨rfl, rfl⟩ := v_so h
        exact v_ret (fun _ => rfl)
      · refine v_i2t (T := 62) rfl rfl c7 ?_
        refine s_ek_bk 2 (P := 65) (ls' := [(6, .int (((-2) : Int32) - (s1.1 181 (Int32.toNatClampNeg b)))), (5, .int r1), (0, .ref 151), (1, .int b), (2, .int c), (3, .long d)]) (st' := [.int 2, .int (((-2) : Int32) - (s1.1 181 (Int32.toNatClampNeg b))), .int (((60 : Int32) * b) + c), .ref 183]) (M' := v_mk s1) rfl ?_
        rcases v_if h with ⟨c10, h⟩ | ⟨c10, h⟩
        · refine v_i2f (T := 74) rfl rfl (fun q => q c10) ?_
          refine s_ek_bk 4 (P := 95) (ls' := [(6, .int (((-2) : Int32) - (s1.1 181 (Int32.toNatClampNeg b)))), (5, .int r1), (0, .ref 151), (1, .int b), (2, .int c), (3, .long d)]) (st' := [.long (Int32.toInt64 (Int64.toInt32 d)), .int (((60 : Int32) * b) + c), .ref 183]) (M' := v_mk s1) rfl ?_
          obtain ⟨c11, h⟩ := v_ck h
          obtain ⟨s12, es12, h⟩ := v_ld h
          refine v_lst (M' := v_mk s12) (i := (((60 : Int32) * b) + c)) rfl (by rw [es12]; exact v_pal (rfl : v_kd 183 = 14) rfl (by decide) v_all14 (v_cn (rfl : v_ln 183 = 360) c11)) ?_
          refine s_ek_bk 1 (P := 97) (ls' := [(6, .int (((-2) : Int32) - (s1.1 181 (Int32.toNatClampNeg b)))), (5, .int r1), (0, .ref 151), (1, .int b), (2, .int c), (3, .long d)]) (st' := [.int 1]) (M' := v_mk s12) rfl ?_
          obtain ⟨rfl, rfl⟩ := v_so h
          exact v_ret (fun _ => rfl)
        · refine v_i2t (T := 74) rfl rfl c10 ?_
          refine s_ek_bk 2 (P := 77) (ls' := [(6, .int (((-2) : Int32) - (s1.1 181 (Int32.toNatClampNeg b)))), (5, .int r1), (0, .ref 151), (1, .int b), (2, .int c), (3, .long d)]) (st' := [.int 3, .int (((-2) : Int32) - (s1.1 181 (Int32.toNatClampNeg b))), .int (((60 : Int32) * b) + c), .ref 183]) (M' := v_mk s1) rfl ?_
          rcases v_if h with ⟨c13, h⟩ | ⟨c13, h⟩
          · refine v_i2f (T := 84) rfl rfl (fun q => q c13) ?_
            refine s_ek_bk 2 (P := 95) (ls' := [(6, .int (((-2) : Int32) - (s1.1 181 (Int32.toNatClampNeg b)))), (5, .int r1), (0, .ref 151), (1, .int b), (2, .int c), (3, .long d)]) (st' := [.long d, .int (((60 : Int32) * b) + c), .ref 183]) (M' := v_mk s1) rfl ?_
            obtain ⟨c14, h⟩ := v_ck h
            obtain ⟨s15, es15, h⟩ := v_ld h
            refine v_lst (M' := v_mk s15) (i := (((60 : Int32) * b) + c)) rfl (by rw [es15]; exact v_pal (rfl : v_kd 183 = 14) rfl (by decide) v_all14 (v_cn (rfl : v_ln 183 = 360) c14)) ?_
            refine s_ek_bk 1 (P := 97) (ls' := [(6, .int (((-2) : Int32) - (s1.1 181 (Int32.toNatClampNeg b)))), (5, .int r1), (0, .ref 151), (1, .int b), (2, .int c), (3, .long d)]) (st' := [.int 1]) (M' := v_mk s15) rfl ?_
            obtain ⟨rfl, rfl⟩ := v_so h
            exact v_ret (fun _ => rfl)
          · refine v_i2t (T := 84) rfl rfl c13 ?_
            refine s_ek_bk 3 (P := 87) (ls' := [(6, .int (((-2) : Int32) - (s1.1 181 (Int32.toNatClampNeg b)))), (5, .int r1), (0, .ref 151), (1, .int b), (2, .int c), (3, .long d)]) (st' := [.int (lg_cmp d (0 : Int64)), .int (((60 : Int32) * b) + c), .ref 183]) (M' := v_mk s1) rfl ?_
            rcases v_if h with ⟨c16, h⟩ | ⟨c16, h⟩
            · refine v_i1t (T := 94) rfl rfl c16 ?_
              refine s_ek_bk 1 (P := 95) (ls' := [(6, .int (((-2) : Int32) - (s1.1 181 (Int32.toNatClampNeg b)))), (5, .int r1), (0, .ref 151), (1, .int b), (2, .int c), (3, .long d)]) (st' := [.long 0, .int (((60 : Int32) * b) + c), .ref 183]) (M' := v_mk s1) rfl ?_
              obtain ⟨c17, h⟩ := v_ck h
              obtain ⟨s18, es18, h⟩ := v_ld h
              refine v_lst (M' := v_mk s18) (i := (((60 : Int32) * b) + c)) rfl (by rw [es18]; exact v_pal (rfl : v_kd 183 = 14) rfl (by decide) v_all14 (v_cn (rfl : v_ln 183 = 360) c17)) ?_
              refine s_ek_bk 1 (P := 97) (ls' := [(6, .int (((-2) : Int32) - (s1.1 181 (Int32.toNatClampNeg b)))), (5, .int r1), (0, .ref 151), (1, .int b), (2, .int c), (3, .long d)]) (st' := [.int 1]) (M' := v_mk s18) rfl ?_
              obtain ⟨rfl, rfl⟩ := v_so h
              exact v_ret (fun _ => rfl)
            · refine v_i1f (T := 94) rfl rfl c16 ?_
              refine s_ek_bk 2 (P := 95) (ls' := [(6, .int (((-2) : Int32) - (s1.1 181 (Int32.toNatClampNeg b)))), (5, .int r1), (0, .ref 151), (1, .int b), (2, .int c), (3, .long d)]) (st' := [.long 1, .int (((60 : Int32) * b) + c), .ref 183]) (M' := v_mk s1) rfl ?_
              obtain ⟨c19, h⟩ := v_ck h
              obtain ⟨s20, es20, h⟩ := v_ld h
              refine v_lst (M' := v_mk s20) (i := (((60 : Int32) * b) + c)) rfl (by rw [es20]; exact v_pal (rfl : v_kd 183 = 14) rfl (by decide) v_all14 (v_cn (rfl : v_ln 183 = 360) c19)) ?_
              refine s_ek_bk 1 (P := 97) (ls' := [(6, .int (((-2) : Int32) - (s1.1 181 (Int32.toNatClampNeg b)))), (5, .int r1), (0, .ref 151), (1, .int b), (2, .int c), (3, .long d)]) (st' := [.int 1]) (M' := v_mk s20) rfl ?_
              obtain ⟨rfl, rfl⟩ := v_so h
              exact v_ret (fun _ => rfl)
  · refine v_i1f (T := 16) rfl rfl c2 ?_
    refine s_ek_bk 1 (P := 15) (ls' := [(5, .int r1), (0, .ref 151), (1, .int b), (2, .int c), (3, .long d)]) (st' := [.int r1]) (M' := v_mk s1) rfl ?_
    obtain ⟨rfl, rfl⟩ := v_so h
    exact v_ret (fun _ => rfl)
