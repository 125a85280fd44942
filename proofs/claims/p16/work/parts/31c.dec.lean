/-! functions over the store, and the runs that they stand for: Tx_joined Tx_work Tx_value Ws_to Ws_from Ws_meaning Lw_hear Ct_hear Ct_isStanding Lw_hardness Lw_goesAhead -/
noncomputable def f_Tx_joined (b : Int32) (c : Int32) (d : Int32) (s : vS) : Option (Int32 × vS) := (if b.toInt = 37 then (if d.toInt = 0 then (some (0, s)) else (if ¬ d = 0 then (some ((c - c / d * d), s)) else none)) else (if b.toInt = 38 then (if c.toInt = 0 then (v_bi (f_Tx_bit 0 s) (fun r6 s6 => (some (r6, s6)))) else (if d.toInt = 0 then (v_bi (f_Tx_bit 0 s) (fun r8 s8 => (some (r8, s8)))) else (v_bi (f_Tx_bit 1 s) (fun r9 s9 => (some (r9, s9)))))) else (if b.toInt = 42 then (some ((c * d), s)) else (if b.toInt = 43 then (some ((c + d), s)) else (if b.toInt = 45 then (some ((c - d), s)) else (if b.toInt = 47 then (if d.toInt = 0 then (some (0, s)) else (if ¬ d = 0 then (some ((c / d), s)) else none)) else (if b.toInt = 60 then (if d.toInt ≤ c.toInt then (v_bi (f_Tx_bit 0 s) (fun r18 s18 => (some (r18, s18)))) else (v_bi (f_Tx_bit 1 s) (fun r19 s19 => (some (r19, s19))))) else (if b.toInt = 61 then (if c.toInt = d.toInt then (v_bi (f_Tx_bit 1 s) (fun r22 s22 => (some (r22, s22)))) else (v_bi (f_Tx_bit 0 s) (fun r23 s23 => (some (r23, s23))))) else (if b.toInt = 62 then (if c.toInt ≤ d.toInt then (v_bi (f_Tx_bit 0 s) (fun r26 s26 => (some (r26, s26)))) else (v_bi (f_Tx_bit 1 s) (fun r27 s27 => (some (r27, s27))))) else (if b.toInt = 124 then (if c.toInt = 0 then (if d.toInt = 0 then (v_bi (f_Tx_bit 0 s) (fun r31 s31 => (some (r31, s31)))) else (v_bi (f_Tx_bit 1 s) (fun r32 s32 => (some (r32, s32))))) else (v_bi (f_Tx_bit 1 s) (fun r33 s33 => (some (r33, s33))))) else (some (0, s))))))))))))
set_option maxRecDepth 20000 in
set_option maxHeartbeats 4000000 in
theorem t_Tx_joined {L : Nat} {xs : Nat → Int32} {b : Int32} {c : Int32} {d : Int32} {D : Nat} {r : Int32} {s s' : vS} (h : f_Tx_joined b c d s = some (r, s')) (hD : 1 ≤ D) : s_Ek (s_rows 3 L xs) D s_e110.1 0 (lv_args 0 [.int b, .int c, .int d]) [] (v_mk s) (v_Q (some (.int r)) s') := by
  unfold f_Tx_joined at h
  show s_Ek (s_rows 3 L xs) D s_e110.1 0 [(0, .int b), (1, .int c), (2, .int d)] [] (v_mk s) _
  refine s_ek_bk 1 (P := 1) (ls' := [(0, .int b), (1, .int c), (2, .int d)]) (st' := [.int b]) (M' := v_mk s) rfl ?_
  rcases v_if h with ⟨c1, h⟩ | ⟨c1, h⟩
  · refine v_lki (T := 192) (c := 37) rfl c1 rfl rfl ?_
    refine s_ek_bk 1 (P := 193) (ls' := [(0, .int b), (1, .int c), (2, .int d)]) (st' := [.int d]) (M' := v_mk s) rfl ?_
    rcases v_if h with ⟨c2, h⟩ | ⟨c2, h⟩
    · refine v_i1f (T := 200) rfl rfl (fun q => q c2) ?_
      refine s_ek_bk 2 (P := 203) (ls' := [(0, .int b), (1, .int c), (2, .int d)]) (st' := [.int 0]) (M' := v_mk s) rfl ?_
      obtain ⟨rfl, rfl⟩ := v_so h
      exact v_ret (fun _ => rfl)
    · refine v_i1t (T := 200) rfl rfl c2 ?_
      refine s_ek_bk 2 (P := 202) (ls' := [(0, .int b), (1, .int c), (2, .int d)]) (st' := [.int d, .int c]) (M' := v_mk s) rfl ?_
      obtain ⟨c3, h⟩ := v_ck h
      refine v_rem rfl c3 ?_
      obtain ⟨rfl, rfl⟩ := v_so h
      exact v_ret (fun _ => rfl)
  · rcases v_if h with ⟨c4, h⟩ | ⟨c4, h⟩
    · refine v_lki (T := 109) (c := 38) rfl c4 rfl rfl ?_
      refine s_ek_bk 1 (P := 110) (ls' := [(0, .int b), (1, .int c), (2, .int d)]) (st' := [.int c]) (M' := v_mk s) rfl ?_
      rcases v_if h with ⟨c5, h⟩ | ⟨c5, h⟩
      · refine v_i1t (T := 121) rfl rfl c5 ?_
        refine s_ek_bk 1 (P := 122) (ls' := [(0, .int b), (1, .int c), (2, .int d)]) (st' := [.int 0]) (M' := v_mk s) rfl ?_
        obtain ⟨r6, s6, e6, h⟩ := v_bd h
        refine v_cS (ν := s_e111.1) (w := 889) (as := [.int 0]) (r := []) (o := some (.int r6)) (by omega) rfl rfl rfl rfl (t_Tx_bit e6 (by omega)) ?_
        show s_Ek (s_rows 3 L xs) D s_e110.1 125 [(0, .int b), (1, .int c), (2, .int d)] [.int r6] (v_mk s6) _
        obtain ⟨rfl, rfl⟩ := v_so h
        exact v_ret (fun _ => rfl)
      · refine v_i1f (T := 121) rfl rfl c5 ?_
        refine s_ek_bk 1 (P := 114) (ls' := [(0, .int b), (1, .int c), (2, .int d)]) (st' := [.int d]) (M' := v_mk s) rfl ?_
        rcases v_if h with ⟨c7, h⟩ | ⟨c7, h⟩
        · refine v_i1t (T := 121) rfl rfl c7 ?_
          refine s_ek_bk 1 (P := 122) (ls' := [(0, .int b), (1, .int c), (2, .int d)]) (st' := [.int 0]) (M' := v_mk s) rfl ?_
          obtain ⟨r8, s8, e8, h⟩ := v_bd h
          refine v_cS (ν := s_e111.1) (w := 889) (as := [.int 0]) (r := []) (o := some (.int r8)) (by omega) rfl rfl rfl rfl (t_Tx_bit e8 (by omega)) ?_
          show s_Ek (s_rows 3 L xs) D s_e110.1 125 [(0, .int b), (1, .int c), (2, .int d)] [.int r8] (v_mk s8) _
          obtain ⟨rfl, rfl⟩ := v_so h
          exact v_ret (fun _ => rfl)
        · refine v_i1f (T := 121) rfl rfl c7 ?_
          refine s_ek_bk 2 (P := 122) (ls' := [(0, .int b), (1, .int c), (2, .int d)]) (st' := [.int 1]) (M' := v_mk s) rfl ?_
          obtain ⟨r9, s9, e9, h⟩ := v_bd h
          refine v_cS (ν := s_e111.1) (w := 889) (as := [.int 1]) (r := []) (o := some (.int r9)) (by omega) rfl rfl rfl rfl (t_Tx_bit e9 (by omega)) ?_
          show s_Ek (s_rows 3 L xs) D s_e110.1 125 [(0, .int b), (1, .int c), (2, .int d)] [.int r9] (v_mk s9) _
          obtain ⟨rfl, rfl⟩ := v_so h
          exact v_ret (fun _ => rfl)
    · rcases v_if h with ⟨c10, h⟩ | ⟨c10, h⟩
      · refine v_lki (T := 176) (c := 42) rfl c10 rfl rfl ?_
        refine s_ek_bk 3 (P := 179) (ls' := [(0, .int b), (1, .int c), (2, .int d)]) (st' := [.int (c * d)]) (M' := v_mk s) rfl ?_
        obtain ⟨rfl, rfl⟩ := v_so h
        exact v_ret (fun _ => rfl)
      · rcases v_if h with ⟨c11, h⟩ | ⟨c11, h⟩
        · refine v_lki (T := 168) (c := 43) rfl c11 rfl rfl ?_
          refine s_ek_bk 3 (P := 171) (ls' := [(0, .int b), (1, .int c), (2, .int d)]) (st' := [.int (c + d)]) (M' := v_mk s) rfl ?_
          obtain ⟨rfl, rfl⟩ := v_so h
          exact v_ret (fun _ => rfl)
        · rcases v_if h with ⟨c12, h⟩ | ⟨c12, h⟩
          · refine v_lki (T := 172) (c := 45) rfl c12 rfl rfl ?_
            refine s_ek_bk 3 (P := 175) (ls' := [(0, .int b), (1, .int c), (2, .int d)]) (st' := [.int (c - d)]) (M' := v_mk s) rfl ?_
            obtain ⟨rfl, rfl⟩ := v_so h
            exact v_ret (fun _ => rfl)
          · rcases v_if h with ⟨c13, h⟩ | ⟨c13, h⟩
            · refine v_lki (T := 180) (c := 47) rfl c13 rfl rfl ?_
              refine s_ek_bk 1 (P := 181) (ls' := [(0, .int b), (1, .int c), (2, .int d)]) (st' := [.int d]) (M' := v_mk s) rfl ?_
              rcases v_if h with ⟨c14, h⟩ | ⟨c14, h⟩
              · refine v_i1f (T := 188) rfl rfl (fun q => q c14) ?_
                refine s_ek_bk 2 (P := 191) (ls' := [(0, .int b), (1, .int c), (2, .int d)]) (st' := [.int 0]) (M' := v_mk s) rfl ?_
                obtain ⟨rfl, rfl⟩ := v_so h
                exact v_ret (fun _ => rfl)
              · refine v_i1t (T := 188) rfl rfl c14 ?_
                refine s_ek_bk 2 (P := 190) (ls' := [(0, .int b), (1, .int c), (2, .int d)]) (st' := [.int d, .int c]) (M' := v_mk s) rfl ?_
                obtain ⟨c15, h⟩ := v_ck h
                refine v_div rfl c15 ?_
                obtain ⟨rfl, rfl⟩ := v_so h
                exact v_ret (fun _ => rfl)
            · rcases v_if h with ⟨c16, h⟩ | ⟨c16, h⟩
              · refine v_lki (T := 126) (c := 60) rfl c16 rfl rfl ?_
                refine s_ek_bk 2 (P := 128) (ls' := [(0, .int b), (1, .int c), (2, .int d)]) (st' := [.int d, .int c]) (M' := v_mk s) rfl ?_
                rcases v_if h with ⟨c17, h⟩ | ⟨c17, h⟩
                · refine v_i2t (T := 135) rfl rfl c17 ?_
                  refine s_ek_bk 1 (P := 136) (ls' := [(0, .int b), (1, .int c), (2, .int d)]) (st' := [.int 0]) (M' := v_mk s) rfl ?_
                  obtain ⟨r18, s18, e18, h⟩ := v_bd h
                  refine v_cS (ν := s_e111.1) (w := 889) (as := [.int 0]) (r := []) (o := some (.int r18)) (by omega) rfl rfl rfl rfl (t_Tx_bit e18 (by omega)) ?_
                  show s_Ek (s_rows 3 L xs) D s_e110.1 139 [(0, .int b), (1, .int c), (2, .int d)] [.int r18] (v_mk s18) _
                  obtain ⟨rfl, rfl⟩ := v_so h
                  exact v_ret (fun _ => rfl)
                · refine v_i2f (T := 135) rfl rfl c17 ?_
                  refine s_ek_bk 2 (P := 136) (ls' := [(0, .int b), (1, .int c), (2, .int d)]) (st' := [.int 1]) (M' := v_mk s) rfl ?_
                  obtain ⟨r19, s19, e19, h⟩ := v_bd h
                  refine v_cS (ν := s_e111.1) (w := 889) (as := [.int 1]) (r := []) (o := some (.int r19)) (by omega) rfl rfl rfl rfl (t_Tx_bit e19 (by omega)) ?_
                  show s_Ek (s_rows 3 L xs) D s_e110.1 139 [(0, .int b), (1, .int c), (2, .int d)] [.int r19] (v_mk s19) _
                  obtain ⟨rfl, rfl⟩ := v_so h
                  exact v_ret (fun _ => rfl)
              · rcases v_if h with ⟨c20, h⟩ | ⟨c20, h⟩
                · refine v_lki (T := 140) (c := 61) rfl c20 rfl rfl ?_
                  refine s_ek_bk 2 (P := 142) (ls' := [(0, .int b), (1, .int c), (2, .int d)]) (st' := [.int d, .int c]) (M' := v_mk s) rfl ?_
                  rcases v_if h with ⟨c21, h⟩ | ⟨c21, h⟩
                  · refine v_i2f (T := 149) rfl rfl (fun q => q c21) ?_
                    refine s_ek_bk 2 (P := 150) (ls' := [(0, .int b), (1, .int c), (2, .int d)]) (st' := [.int 1]) (M' := v_mk s) rfl ?_
                    obtain ⟨r22, s22, e22, h⟩ := v_bd h
                    refine v_cS (ν := s_e111.1) (w := 889) (as := [.int 1]) (r := []) (o := some (.int r22)) (by omega) rfl rfl rfl rfl (t_Tx_bit e22 (by omega)) ?_
                    show s_Ek (s_rows 3 L xs) D s_e110.1 153 [(0, .int b), (1, .int c), (2, .int d)] [.int r22] (v_mk s22) _
                    obtain ⟨rfl, rfl⟩ := v_so h
                    exact v_ret (fun _ => rfl)
                  · refine v_i2t (T := 149) rfl rfl c21 ?_
                    refine s_ek_bk 1 (P := 150) (ls' := [(0, .int b), (1, .int c), (2, .int d)]) (st' := [.int 0]) (M' := v_mk s) rfl ?_
                    obtain ⟨r23, s23, e23, h⟩ := v_bd h
                    refine v_cS (ν := s_e111.1) (w := 889) (as := [.int 0]) (r := []) (o := some (.int r23)) (by omega) rfl rfl rfl rfl (t_Tx_bit e23 (by omega)) ?_
                    show s_Ek (s_rows 3 L xs) D s_e110.1 153 [(0, .int b), (1, .int c), (2, .int d)] [.int r23] (v_mk s23) _
                    obtain ⟨rfl, rfl⟩ := v_so h
                    exact v_ret (fun _ => rfl)
                · rcases v_if h with ⟨c24, h⟩ | ⟨c24, h⟩
                  · refine v_lki (T := 154) (c := 62) rfl c24 rfl rfl ?_
                    refine s_ek_bk 2 (P := 156) (ls' := [(0, .int b), (1, .int c), (2, .int d)]) (st' := [.int d, .int c]) (M' := v_mk s) rfl ?_
                    rcases v_if h with ⟨c25, h⟩ | ⟨c25, h⟩
                    · refine v_i2t (T := 163) rfl rfl c25 ?_
                      refine s_ek_bk 1 (P := 164) (ls' := [(0, .int b), (1, .int c), (2, .int d)]) (st' := [.int 0]) (M' := v_mk s) rfl ?_
                      obtain ⟨r26, s26, e26, h⟩ := v_bd h
                      refine v_cS (ν := s_e111.1) (w := 889) (as := [.int 0]) (r := []) (o := some (.int r26)) (by omega) rfl rfl rfl rfl (t_Tx_bit e26 (by omega)) ?_
                      show s_Ek (s_rows 3 L xs) D s_e110.1 167 [(0, .int b), (1, .int c), (2, .int d)] [.int r26] (v_mk s26) _
                      obtain ⟨rfl, rfl⟩ := v_so h
                      exact v_ret (fun _ => rfl)
                    · refine v_i2f (T := 163) rfl rfl c25 ?_
                      refine s_ek_bk 2 (P := 164) (ls' := [(0, .int b), (1, .int c), (2, .int d)]) (st' := [.int 1]) (M' := v_mk s) rfl ?_
                      obtain ⟨r27, s27, e27, h⟩ := v_bd h
                      refine v_cS (ν := s_e111.1) (w := 889) (as := [.int 1]) (r := []) (o := some (.int r27)) (by omega) rfl rfl rfl rfl (t_Tx_bit e27 (by omega)) ?_
                      show s_Ek (s_rows 3 L xs) D s_e110.1 167 [(0, .int b), (1, .int c), (2, .int d)] [.int r27] (v_mk s27) _
                      obtain ⟨rfl, rfl⟩ := v_so h
                      exact v_ret (fun _ => rfl)
                  · rcases v_if h with ⟨c28, h⟩ | ⟨c28, h⟩
                    · refine v_lki (T := 92) (c := 124) rfl c28 rfl rfl ?_
                      refine s_ek_bk 1 (P := 93) (ls' := [(0, .int b), (1, .int c), (2, .int d)]) (st' := [.int c]) (M' := v_mk s) rfl ?_
                      rcases v_if h with ⟨c29, h⟩ | ⟨c29, h⟩
                      · refine v_i1f (T := 100) rfl rfl (fun q => q c29) ?_
                        refine s_ek_bk 1 (P := 97) (ls' := [(0, .int b), (1, .int c), (2, .int d)]) (st' := [.int d]) (M' := v_mk s) rfl ?_
                        rcases v_if h with ⟨c30, h⟩ | ⟨c30, h⟩
                        · refine v_i1t (T := 104) rfl rfl c30 ?_
                          refine s_ek_bk 1 (P := 105) (ls' := [(0, .int b), (1, .int c), (2, .int d)]) (st' := [.int 0]) (M' := v_mk s) rfl ?_
                          obtain ⟨r31, s31, e31, h⟩ := v_bd h
                          refine v_cS (ν := s_e111.1) (w := 889) (as := [.int 0]) (r := []) (o := some (.int r31)) (by omega) rfl rfl rfl rfl (t_Tx_bit e31 (by omega)) ?_
                          show s_Ek (s_rows 3 L xs) D s_e110.1 108 [(0, .int b), (1, .int c), (2, .int d)] [.int r31] (v_mk s31) _
                          obtain ⟨rfl, rfl⟩ := v_so h
                          exact v_ret (fun _ => rfl)
                        · refine v_i1f (T := 104) rfl rfl c30 ?_
                          refine s_ek_bk 2 (P := 105) (ls' := [(0, .int b), (1, .int c), (2, .int d)]) (st' := [.int 1]) (M' := v_mk s) rfl ?_
                          obtain ⟨r32, s32, e32, h⟩ := v_bd h
                          refine v_cS (ν := s_e111.1) (w := 889) (as := [.int 1]) (r := []) (o := some (.int r32)) (by omega) rfl rfl rfl rfl (t_Tx_bit e32 (by omega)) ?_
                          show s_Ek (s_rows 3 L xs) D s_e110.1 108 [(0, .int b), (1, .int c), (2, .int d)] [.int r32] (v_mk s32) _
                          obtain ⟨rfl, rfl⟩ := v_so h
                          exact v_ret (fun _ => rfl)
                      · refine v_i1t (T := 100) rfl rfl c29 ?_
                        refine s_ek_bk 2 (P := 105) (ls' := [(0, .int b), (1, .int c), (2, .int d)]) (st' := [.int 1]) (M' := v_mk s) rfl ?_
                        obtain ⟨r33, s33, e33, h⟩ := v_bd h
                        refine v_cS (ν := s_e111.1) (w := 889) (as := [.int 1]) (r := []) (o := some (.int r33)) (by omega) rfl rfl rfl rfl (t_Tx_bit e33 (by omega)) ?_
                        show s_Ek (s_rows 3 L xs) D s_e110.1 108 [(0, .int b), (1, .int c), (2, .int d)] [.int r33] (v_mk s33) _
                        obtain ⟨rfl, rfl⟩ := v_so h
                        exact v_ret (fun _ => rfl)
                    · refine v_lko (T := 204) rfl ⟨c1, c4, c10, c11, c12, c13, c16, c20, c24, c28, trivial⟩ rfl rfl ?_
                      refine s_ek_bk 1 (P := 205) (ls' := [(0, .int b), (1, .int c), (2, .int d)]) (st' := [.int 0]) (M' := v_mk s) rfl ?_
                      obtain ⟨rfl, rfl⟩ := v_so h
                      exact v_ret (fun _ => rfl)
noncomputable def f_Tx_work (a : Nat) (b : Int32) (c : Int32) (s : vS) : Option (Int32 × vS) := (if b.toInt = 33 then (if (c - (1 : Int32)).toInt < 0 then (some (c, s)) else (if c.toInt ≤ 61 then (if v_in (c - (1 : Int32)) 61 then (v_bi (f_Tx_alone b (s.1 (a + 2) (Int32.toNatClampNeg (c - (1 : Int32)))) s) (fun r5 s5 => (if v_in (c - (1 : Int32)) 61 then (v_let (v_w1 s5 (a + 2) (Int32.toNatClampNeg (c - (1 : Int32))) r5) (fun s7 => (some (((c - (1 : Int32)) + (1 : Int32)), s7)))) else none))) else none) else (some (c, s)))) else (if b.toInt = 95 then (if (c - (1 : Int32)).toInt < 0 then (some (c, s)) else (if c.toInt ≤ 61 then (if v_in (c - (1 : Int32)) 61 then (v_bi (f_Tx_alone b (s.1 (a + 2) (Int32.toNatClampNeg (c - (1 : Int32)))) s) (fun r12 s12 => (if v_in (c - (1 : Int32)) 61 then (v_let (v_w1 s12 (a + 2) (Int32.toNatClampNeg (c - (1 : Int32))) r12) (fun s14 => (some (((c - (1 : Int32)) + (1 : Int32)), s14)))) else none))) else none) else (some (c, s)))) else (if (c - (2 : Int32)).toInt < 0 then (some (c, s)) else (if c.toInt ≤ 61 then (if v_in (c - (2 : Int32)) 61 then (if v_in (c - (1 : Int32)) 61 then (v_bi (f_Tx_joined b (s.1 (a + 2) (Int32.toNatClampNeg (c - (2 : Int32)))) (s.1 (a + 2) (Int32.toNatClampNeg (c - (1 : Int32)))) s) (fun r19 s19 => (if v_in (c - (2 : Int32)) 61 then (v_let (v_w1 s19 (a + 2) (Int32.toNatClampNeg (c - (2 : Int32))) r19) (fun s21 => (some (((c - (2 : Int32)) + (1 : Int32)), s21)))) else none))) else none) else none) else (some (c, s))))))
set_option maxRecDepth 20000 in
set_option maxHeartbeats 4000000 in
theorem t_Tx_work {L : Nat} {xs : Nat → Int32} {a : Nat} {b : Int32} {c : Int32} (ha : v_kd a = 7) {D : Nat} {r : Int32} {s s' : vS} (h : f_Tx_work a b c s = some (r, s')) (hD : 2 ≤ D) : s_Ek (s_rows 3 L xs) D s_e108.1 0 (lv_args 0 [.ref a, .int b, .int c]) [] (v_mk s) (v_Q (some (.int r)) s') := by
  unfold f_Tx_work at h
  show s_Ek (s_rows 3 L xs) D s_e108.1 0 [(0, .ref a), (1, .int b), (2, .int c)] [] (v_mk s) _
  refine s_ek_bk 2 (P := 3) (ls' := [(0, .ref a), (1, .int b), (2, .int c)]) (st' := [.int 33, .int b]) (M' := v_mk s) rfl ?_
  rcases v_if h with ⟨c1, h⟩ | ⟨c1, h⟩
  · refine v_i2t (T := 12) rfl rfl c1 ?_
    refine s_ek_bk 8 (P := 25) (ls' := [(4, .int (c - (1 : Int32))), (3, .int 1), (0, .ref a), (1, .int b), (2, .int c)]) (st' := [.int (c - (1 : Int32))]) (M' := v_mk s) rfl ?_
    rcases v_if h with ⟨c2, h⟩ | ⟨c2, h⟩
    · refine v_i1t (T := 37) rfl rfl c2 ?_
      refine s_ek_bk 1 (P := 38) (ls' := [(4, .int (c - (1 : Int32))), (3, .int 1), (0, .ref a), (1, .int b), (2, .int c)]) (st' := [.int c]) (M' := v_mk s) rfl ?_
      obtain ⟨rfl, rfl⟩ := v_so h
      exact v_ret (fun _ => rfl)
    · refine v_i1f (T := 37) rfl rfl c2 ?_
      refine s_ek_bk 2 (P := 30) (ls' := [(4, .int (c - (1 : Int32))), (3, .int 1), (0, .ref a), (1, .int b), (2, .int c)]) (st' := [.ref a, .int c]) (M' := v_mk s) rfl ?_
      refine v_gf rfl (v_gr ha (v_rK v_r7_1 (by decide) ha).1 ⟨rfl, rfl, by decide⟩) ?_
      refine v_alen (x := 61) rfl (by rw [v_len (v_rK v_r7_1 (by decide) ha).2.1 (by decide), (v_rK v_r7_1 (by decide) ha).2.2]; rfl) ?_
      rcases v_if h with ⟨c3, h⟩ | ⟨c3, h⟩
      · refine v_i2t (T := 39) rfl rfl c3 ?_
        refine s_ek_bk 1 (P := 40) (ls' := [(4, .int (c - (1 : Int32))), (3, .int 1), (0, .ref a), (1, .int b), (2, .int c)]) (st' := [.ref a]) (M' := v_mk s) rfl ?_
        refine v_gf rfl (v_gr ha (v_rK v_r7_1 (by decide) ha).1 ⟨rfl, rfl, by decide⟩) ?_
        refine s_ek_bk 6 (P := 52) (ls' := [(4, .int (c - (1 : Int32))), (3, .int 1), (0, .ref a), (1, .int b), (2, .int c)]) (st' := [.ref a, .int b, .int (c - (1 : Int32)), .ref (a + 2)]) (M' := v_mk s) rfl ?_
        refine v_gf rfl (v_gr ha (v_rK v_r7_1 (by decide) ha).1 ⟨rfl, rfl, by decide⟩) ?_
        refine s_ek_bk 1 (P := 57) (ls' := [(4, .int (c - (1 : Int32))), (3, .int 1), (0, .ref a), (1, .int b), (2, .int c)]) (st' := [.int (c - (1 : Int32)), .ref (a + 2), .int b, .int (c - (1 : Int32)), .ref (a + 2)]) (M' := v_mk s) rfl ?_
        obtain ⟨c4, h⟩ := v_ck h
        refine v_ia (i := (c - (1 : Int32))) rfl (v_ai (v_rK v_r7_1 (by decide) ha).2.1 rfl (by decide) v_all13 (v_cn (v_rK v_r7_1 (by decide) ha).2.2 c4)) ?_
        obtain ⟨r5, s5, e5, h⟩ := v_bd h
        refine v_cS (ν := s_e109.1) (w := 874) (as := [.int b, .int (s.1 (a + 2) (Int32.toNatClampNeg (c - (1 : Int32))))]) (r := [.int (c - (1 : Int32)), .ref (a + 2)]) (o := some (.int r5)) (by omega) rfl rfl rfl rfl (t_Tx_alone e5 (by omega)) ?_
        show s_Ek (s_rows 3 L xs) D s_e108.1 61 [(4, .int (c - (1 : Int32))), (3, .int 1), (0, .ref a), (1, .int b), (2, .int c)] [.int r5, .int (c - (1 : Int32)), .ref (a + 2)] (v_mk s5) _
        refine s_ek_bk 1 (P := 83) (ls' := [(4, .int (c - (1 : Int32))), (3, .int 1), (0, .ref a), (1, .int b), (2, .int c)]) (st' := [.int r5, .int (c - (1 : Int32)), .ref (a + 2)]) (M' := v_mk s5) rfl ?_
        obtain ⟨c6, h⟩ := v_ck h
        obtain ⟨s7, es7, h⟩ := v_ld h
        refine v_ist (M' := v_mk s7) (i := (c - (1 : Int32))) rfl (by rw [es7]; exact v_pai (v_rK v_r7_1 (by decide) ha).2.1 rfl (by decide) v_all13 (v_cn (v_rK v_r7_1 (by decide) ha).2.2 c6)) ?_
        refine s_ek_bk 3 (P := 88) (ls' := [(4, .int (c - (1 : Int32))), (3, .int 1), (0, .ref a), (1, .int b), (2, .int c)]) (st' := [.int ((c - (1 : Int32)) + (1 : Int32))]) (M' := v_mk s7) rfl ?_
        obtain ⟨rfl, rfl⟩ := v_so h
        exact v_ret (fun _ => rfl)
      · refine v_i2f (T := 39) rfl rfl c3 ?_
        refine s_ek_bk 1 (P := 38) (ls' := [(4, .int (c - (1 : Int32))), (3, .int 1), (0, .ref a), (1, .int b), (2, .int c)]) (st' := [.int c]) (M' := v_mk s) rfl ?_
        obtain ⟨rfl, rfl⟩ := v_so h
        exact v_ret (fun _ => rfl)
  · refine v_i2f (T := 12) rfl rfl c1 ?_
    refine s_ek_bk 2 (P := 9) (ls' := [(0, .ref a), (1, .int b), (2, .int c)]) (st' := [.int 95, .int b]) (M' := v_mk s) rfl ?_
    rcases v_if h with ⟨c8, h⟩ | ⟨c8, h⟩
    · refine v_i2f (T := 16) rfl rfl (fun q => q c8) ?_
      refine s_ek_bk 8 (P := 25) (ls' := [(4, .int (c - (1 : Int32))), (3, .int 1), (0, .ref a), (1, .int b), (2, .int c)]) (st' := [.int (c - (1 : Int32))]) (M' := v_mk s) rfl ?_
      rcases v_if h with ⟨c9, h⟩ | ⟨c9, h⟩
      · refine v_i1t (T := 37) rfl rfl c9 ?_
        refine s_ek_bk 1 (P := 38) (ls' := [(4, .int (c - (1 : Int32))), (3, .int 1), (0, .ref a), (1, .int b), (2, .int c)]) (st' := [.int c]) (M' := v_mk s) rfl ?_
        obtain ⟨rfl, rfl⟩ := v_so h
        exact v_ret (fun _ => rfl)
      · refine v_i1f (T := 37) rfl rfl c9 ?_
        refine s_ek_bk 2 (P := 30) (ls' := [(4, .int (c - (1 : Int32))), (3, .int 1), (0, .ref a), (1, .int b), (2, .int c)]) (st' := [.ref a, .int c]) (M' := v_mk s) rfl ?_
        refine v_gf rfl (v_gr ha (v_rK v_r7_1 (by decide) ha).1 ⟨rfl, rfl, by decide⟩) ?_
        refine v_alen (x := 61) rfl (by rw [v_len (v_rK v_r7_1 (by decide) ha).2.1 (by decide), (v_rK v_r7_1 (by decide) ha).2.2]; rfl) ?_
        rcases v_if h with ⟨c10, h⟩ | ⟨c10, h⟩
        · refine v_i2t (T := 39) rfl rfl c10 ?_
          refine s_ek_bk 1 (P := 40) (ls' := [(4, .int (c - (1 : Int32))), (3, .int 1), (0, .ref a), (1, .int b), (2, .int c)]) (st' := [.ref a]) (M' := v_mk s) rfl ?_
          refine v_gf rfl (v_gr ha (v_rK v_r7_1 (by decide) ha).1 ⟨rfl, rfl, by decide⟩) ?_
          refine s_ek_bk 6 (P := 52) (ls' := [(4, .int (c - (1 : Int32))), (3, .int 1), (0, .ref a), (1, .int b), (2, .int c)]) (st' := [.ref a, .int b, .int (c - (1 : Int32)), .ref (a + 2)]) (M' := v_mk s) rfl ?_
          refine v_gf rfl (v_gr ha (v_rK v_r7_1 (by decide) ha).1 ⟨rfl, rfl, by decide⟩) ?_
          refine s_ek_bk 1 (P := 57) (ls' := [(4, .int (c - (1 : Int32))), (3, .int 1), (0, .ref a), (1, .int b), (2, .int c)]) (st' := [.int (c - (1 : Int32)), .ref (a + 2), .int b, .int (c - (1 : Int32)), .ref (a + 2)]) (M' := v_mk s) rfl ?_
          obtain ⟨c11, h⟩ := v_ck h
          refine v_ia (i := (c - (1 : Int32))) rfl (v_ai (v_rK v_r7_1 (by decide) ha).2.1 rfl (by decide) v_all13 (v_cn (v_rK v_r7_1 (by decide) ha).2.2 c11)) ?_
          obtain ⟨r12, s12, e12, h⟩ := v_bd h
          refine v_cS (ν := s_e109.1) (w := 874) (as := [.int b, .int (s.1 (a + 2) (Int32.toNatClampNeg (c - (1 : Int32))))]) (r := [.int (c - (1 : Int32)), .ref (a + 2)]) (o := some (.int r12)) (by omega) rfl rfl rfl rfl (t_Tx_alone e12 (by omega)) ?_
          show s_Ek (s_rows 3 L xs) D s_e108.1 61 [(4, .int (c - (1 : Int32))), (3, .int 1), (0, .ref a), (1, .int b), (2, .int c)] [.int r12, .int (c - (1 : Int32)), .ref (a + 2)] (v_mk s12) _
          refine s_ek_bk 1 (P := 83) (ls' := [(4, .int (c - (1 : Int32))), (3, .int 1), (0, .ref a), (1, .int b), (2, .int c)]) (st' := [.int r12, .int (c - (1 : Int32)), .ref (a + 2)]) (M' := v_mk s12) rfl ?_
          obtain ⟨c13, h⟩ := v_ck h
          obtain ⟨s14, es14, h⟩ := v_ld h
          refine v_ist (M' := v_mk s14) (i := (c - (1 : Int32))) rfl (by rw [es14]; exact v_pai (v_rK v_r7_1 (by decide) ha).2.1 rfl (by decide) v_all13 (v_cn (v_rK v_r7_1 (by decide) ha).2.2 c13)) ?_
          refine s_ek_bk 3 (P := 88) (ls' := [(4, .int (c - (1 : Int32))), (3, .int 1), (0, .ref a), (1, .int b), (2, .int c)]) (st' := [.int ((c - (1 : Int32)) + (1 : Int32))]) (M' := v_mk s14) rfl ?_
          obtain ⟨rfl, rfl⟩ := v_so h
          exact v_ret (fun _ => rfl)
        · refine v_i2f (T := 39) rfl rfl c10 ?_
          refine s_ek_bk 1 (P := 38) (ls' := [(4, .int (c - (1 : Int32))), (3, .int 1), (0, .ref a), (1, .int b), (2, .int c)]) (st' := [.int c]) (M' := v_mk s) rfl ?_
          obtain ⟨rfl, rfl⟩ := v_so h
          exact v_ret (fun _ => rfl)
    · refine v_i2t (T := 16) rfl rfl c8 ?_
      refine s_ek_bk 7 (P := 25) (ls' := [(4, .int (c - (2 : Int32))), (3, .int 2), (0, .ref a), (1, .int b), (2, .int c)]) (st' := [.int (c - (2 : Int32))]) (M' := v_mk s) rfl ?_
      rcases v_if h with ⟨c15, h⟩ | ⟨c15, h⟩
      · refine v_i1t (T := 37) rfl rfl c15 ?_
        refine s_ek_bk 1 (P := 38) (ls' := [(4, .int (c - (2 : Int32))), (3, .int 2), (0, .ref a), (1, .int b), (2, .int c)]) (st' := [.int c]) (M' := v_mk s) rfl ?_
        obtain ⟨rfl, rfl⟩ := v_so h
        exact v_ret (fun _ => rfl)
      · refine v_i1f (T := 37) rfl rfl c15 ?_
        refine s_ek_bk 2 (P := 30) (ls' := [(4, .int (c - (2 : Int32))), (3, .int 2), (0, .ref a), (1, .int b), (2, .int c)]) (st' := [.ref a, .int c]) (M' := v_mk s) rfl ?_
        refine v_gf rfl (v_gr ha (v_rK v_r7_1 (by decide) ha).1 ⟨rfl, rfl, by decide⟩) ?_
        refine v_alen (x := 61) rfl (by rw [v_len (v_rK v_r7_1 (by decide) ha).2.1 (by decide), (v_rK v_r7_1 (by decide) ha).2.2]; rfl) ?_
        rcases v_if h with ⟨c16, h⟩ | ⟨c16, h⟩
        · refine v_i2t (T := 39) rfl rfl c16 ?_
          refine s_ek_bk 1 (P := 40) (ls' := [(4, .int (c - (2 : Int32))), (3, .int 2), (0, .ref a), (1, .int b), (2, .int c)]) (st' := [.ref a]) (M' := v_mk s) rfl ?_
          refine v_gf rfl (v_gr ha (v_rK v_r7_1 (by decide) ha).1 ⟨rfl, rfl, by decide⟩) ?_
          refine s_ek_bk 6 (P := 66) (ls' := [(4, .int (c - (2 : Int32))), (3, .int 2), (0, .ref a), (1, .int b), (2, .int c)]) (st' := [.ref a, .int b, .int (c - (2 : Int32)), .ref (a + 2)]) (M' := v_mk s) rfl ?_
          refine v_gf rfl (v_gr ha (v_rK v_r7_1 (by decide) ha).1 ⟨rfl, rfl, by decide⟩) ?_
          refine s_ek_bk 1 (P := 71) (ls' := [(4, .int (c - (2 : Int32))), (3, .int 2), (0, .ref a), (1, .int b), (2, .int c)]) (st' := [.int (c - (2 : Int32)), .ref (a + 2), .int b, .int (c - (2 : Int32)), .ref (a + 2)]) (M' := v_mk s) rfl ?_
          obtain ⟨c17, h⟩ := v_ck h
          refine v_ia (i := (c - (2 : Int32))) rfl (v_ai (v_rK v_r7_1 (by decide) ha).2.1 rfl (by decide) v_all13 (v_cn (v_rK v_r7_1 (by decide) ha).2.2 c17)) ?_
          refine s_ek_bk 1 (P := 73) (ls' := [(4, .int (c - (2 : Int32))), (3, .int 2), (0, .ref a), (1, .int b), (2, .int c)]) (st' := [.ref a, .int (s.1 (a + 2) (Int32.toNatClampNeg (c - (2 : Int32)))), .int b, .int (c - (2 : Int32)), .ref (a + 2)]) (M' := v_mk s) rfl ?_
          refine v_gf rfl (v_gr ha (v_rK v_r7_1 (by decide) ha).1 ⟨rfl, rfl, by decide⟩) ?_
          refine s_ek_bk 3 (P := 79) (ls' := [(4, .int (c - (2 : Int32))), (3, .int 2), (0, .ref a), (1, .int b), (2, .int c)]) (st' := [.int (c - (1 : Int32)), .ref (a + 2), .int (s.1 (a + 2) (Int32.toNatClampNeg (c - (2 : Int32)))), .int b, .int (c - (2 : Int32)), .ref (a + 2)]) (M' := v_mk s) rfl ?_
          obtain ⟨c18, h⟩ := v_ck h
          refine v_ia (i := (c - (1 : Int32))) rfl (v_ai (v_rK v_r7_1 (by decide) ha).2.1 rfl (by decide) v_all13 (v_cn (v_rK v_r7_1 (by decide) ha).2.2 c18)) ?_
          obtain ⟨r19, s19, e19, h⟩ := v_bd h
          refine v_cS (ν := s_e110.1) (w := 883) (as := [.int b, .int (s.1 (a + 2) (Int32.toNatClampNeg (c - (2 : Int32)))), .int (s.1 (a + 2) (Int32.toNatClampNeg (c - (1 : Int32))))]) (r := [.int (c - (2 : Int32)), .ref (a + 2)]) (o := some (.int r19)) (by omega) rfl rfl rfl rfl (t_Tx_joined e19 (by omega)) ?_
          show s_Ek (s_rows 3 L xs) D s_e108.1 83 [(4, .int (c - (2 : Int32))), (3, .int 2), (0, .ref a), (1, .int b), (2, .int c)] [.int r19, .int (c - (2 : Int32)), .ref (a + 2)] (v_mk s19) _
          obtain ⟨c20, h⟩ := v_ck h
          obtain ⟨s21, es21, h⟩ := v_ld h
          refine v_ist (M' := v_mk s21) (i := (c - (2 : Int32))) rfl (by rw [es21]; exact v_pai (v_rK v_r7_1 (by decide) ha).2.1 rfl (by decide) v_all13 (v_cn (v_rK v_r7_1 (by decide) ha).2.2 c20)) ?_
          refine s_ek_bk 3 (P := 88) (ls' := [(4, .int (c - (2 : Int32))), (3, .int 2), (0, .ref a), (1, .int b), (2, .int c)]) (st' := [.int ((c - (2 : Int32)) + (1 : Int32))]) (M' := v_mk s21) rfl ?_
          obtain ⟨rfl, rfl⟩ := v_so h
          exact v_ret (fun _ => rfl)
        · refine v_i2f (T := 39) rfl rfl c16 ?_
          refine s_ek_bk 1 (P := 38) (ls' := [(4, .int (c - (2 : Int32))), (3, .int 2), (0, .ref a), (1, .int b), (2, .int c)]) (st' := [.int c]) (M' := v_mk s) rfl ?_
          obtain ⟨rfl, rfl⟩ := v_so h
          exact v_ret (fun _ => rfl)
noncomputable def f_Tx_value_L7b (p0 : Nat) (k38 : vS → Option (Int32 × vS)) (k82 : Int32 → vS → Option (Int32 × vS)) (k185 : vS → Option (Int32 × vS)) (again : Int32 → Int32 → Int32 → vS → Option (Int32 × vS)) (v2 : Int32) (v3 : Int32) (v4 : Int32) (s : vS) : Option (Int32 × vS) := (if 61 ≤ v4.toInt then (k185 s) else (if v3.toInt < 0 then (k38 s) else (if (s.1 p0 2).toInt ≤ v3.toInt then (k38 s) else (if v3.toInt < 61 then (if v_in v3 61 then (if (s.1 (p0 + 1) (Int32.toNatClampNeg v3)).toInt < 30000 then (if (s.1 (p0 + 1) (Int32.toNatClampNeg v3)).toInt < 20000 then (if v2.toInt < 0 then (again v2 (v3 + 1) (v4 + 1) s) else (if 61 ≤ v2.toInt then (again v2 (v3 + 1) (v4 + 1) s) else (if 10000 ≤ (s.1 (p0 + 1) (Int32.toNatClampNeg v3)).toInt then (v_bi (f_Tx_named ((s.1 (p0 + 1) (Int32.toNatClampNeg v3)) - (10000 : Int32)) s) (fun r111 s111 => (if v_in v2 61 then (v_let (v_w1 s111 (p0 + 2) (Int32.toNatClampNeg v2) r111) (fun s113 => (again (v2 + 1) (v3 + 1) (v4 + 1) s113))) else none))) else (if v_in v2 61 then (v_let (v_w1 s (p0 + 2) (Int32.toNatClampNeg v2) (s.1 (p0 + 1) (Int32.toNatClampNeg v3))) (fun s115 => (again (v2 + 1) (v3 + 1) (v4 + 1) s115))) else none)))) else (v_bi (f_Tx_work p0 ((s.1 (p0 + 1) (Int32.toNatClampNeg v3)) - (20000 : Int32)) v2 s) (fun r116 s116 => (again r116 (v3 + 1) (v4 + 1) s116)))) else (if (s.1 (p0 + 1) (Int32.toNatClampNeg v3)).toInt = 40000 then (k82 (v2 + (-1)) s) else (if (v2 + (-1)).toInt < 0 then (k82 (v2 + (-1)) s) else (if (v2 + (-1)).toInt < 61 then (if v_in (v2 + (-1)) 61 then (if (s.1 (p0 + 2) (Int32.toNatClampNeg (v2 + (-1)))).toInt = 0 then (again (v2 + (-1)) ((s.1 (p0 + 1) (Int32.toNatClampNeg v3)) - (30000 : Int32)) (v4 + 1) s) else (again (v2 + (-1)) (v3 + 1) (v4 + 1) s)) else none) else (k82 (v2 + (-1)) s))))) else none) else (k38 s)))))
noncomputable def f_Tx_value_L7 (p0 : Nat) (k38 : vS → Option (Int32 × vS)) (k82 : Int32 → vS → Option (Int32 × vS)) (k185 : vS → Option (Int32 × vS)) (n : Nat) : Int32 → Int32 → Int32 → vS → Option (Int32 × vS) := Nat.rec (motive := fun _ => Int32 → Int32 → Int32 → vS → Option (Int32 × vS)) (fun _ _ _ _ => none) (fun _ again => f_Tx_value_L7b p0 k38 k82 k185 again) n
noncomputable def f_Tx_value (a : Nat) (s : vS) : Option (Int32 × vS) := (f_Tx_value_L7 a (fun s1 => (some (0, s1))) (fun w2 s3 => (v_bi (f_Tx_valueAt a w2 s3) (fun r5 s5 => (some (r5, s5))))) (fun s4 => (some (0, s4))) 4096 0 0 0 s)
set_option maxRecDepth 20000 in
set_option maxHeartbeats 4000000 in
theorem t_Tx_value_L7 {L : Nat} {xs : Nat → Int32} {p0 : Nat} (hp0 : v_kd p0 = 7) {k38 : vS → Option (Int32 × vS)} {k82 : Int32 → vS → Option (Int32 × vS)} {k185 : vS → Option (Int32 × vS)} {D : Nat} (hD : 3 ≤ D) {r : Int32} {s' : vS} (hk38 : ∀ (s : vS), k38 s = some (r, s') → s_Ek (s_rows 3 L xs) D s_e105.1 38 [] [] (v_mk s) (v_Q (some (.int r)) s')) (hk82 : ∀ (v2 : Int32) (s : vS), k82 v2 s = some (r, s') → s_Ek (s_rows 3 L xs) D s_e105.1 82 [(0, .ref p0), (2, .int v2)] [] (v_mk s) (v_Q (some (.int r)) s')) (hk185 : ∀ (s : vS), k185 s = some (r, s') → s_Ek (s_rows 3 L xs) D s_e105.1 185 [] [] (v_mk s) (v_Q (some (.int r)) s')) : ∀ (n : Nat) (v2 : Int32) (v3 : Int32) (v4 : Int32) (s : vS), f_Tx_value_L7 p0 k38 k82 k185 n v2 v3 v4 s = some (r, s') → s_Ek (s_rows 3 L xs) D s_e105.1 7 [(0, .ref p0), (1, .ref 21), (2, .int v2), (3, .int v3), (4, .int v4)] [] (v_mk s) (v_Q (some (.int r)) s') := by
  intro n
  induction n with
  | zero => intro v2 v3 v4 s h; exact nomatch (show (none : Option (Int32 × vS)) = some (r, s') from h)
  | succ n ih =>
    intro v2 v3 v4 s h
    replace h : f_Tx_value_L7b p0 k38 k82 k185 (f_Tx_value_L7 p0 k38 k82 k185 n) v2 v3 v4 s = some (r, s') := h
    unfold f_Tx_value_L7b at h
    refine s_ek_bk 2 (P := 10) (ls' := [(0, .ref p0), (1, .ref 21), (2, .int v2), (3, .int v3), (4, .int v4)]) (st' := [.ref p0, .int v4]) (M' := v_mk s) rfl ?_
    refine v_gf rfl (v_gr hp0 (v_rK v_r7_0 (by decide) hp0).1 ⟨rfl, rfl, by decide⟩) ?_
    refine v_alen (x := 61) rfl (by rw [v_len (v_rK v_r7_0 (by decide) hp0).2.1 (by decide), (v_rK v_r7_0 (by decide) hp0).2.2]; rfl) ?_
    rcases v_if h with ⟨c101, h⟩ | ⟨c101, h⟩
    · refine v_i2t (T := 185) rfl rfl c101 ?_
      refine v_ls (ls' := []) trivial (show ([] : List Nat).Nodup from by decide) ?_
      exact hk185 _ h
    · refine v_i2f (T := 185) rfl rfl c101 ?_
      refine s_ek_bk 1 (P := 18) (ls' := [(0, .ref p0), (1, .ref 21), (2, .int v2), (3, .int v3), (4, .int v4)]) (st' := [.int v3]) (M' := v_mk s) rfl ?_
      rcases v_if h with ⟨c102, h⟩ | ⟨c102, h⟩
      · refine v_i1t (T := 38) rfl rfl c102 ?_
        refine v_ls (ls' := []) trivial (show ([] : List Nat).Nodup from by decide) ?_
        exact hk38 _ h
      · refine v_i1f (T := 38) rfl rfl c102 ?_
        refine s_ek_bk 2 (P := 23) (ls' := [(0, .ref p0), (1, .ref 21), (2, .int v2), (3, .int v3), (4, .int v4)]) (st' := [.ref p0, .int v3]) (M' := v_mk s) rfl ?_
        refine v_gf rfl (v_gi hp0 (v_tK (j := 2) v_is7 (by decide) hp0) ⟨rfl, rfl, by decide⟩) ?_
        rcases v_if h with ⟨c103, h⟩ | ⟨c103, h⟩
        · refine v_i2t (T := 38) rfl rfl c103 ?_
          refine v_ls (ls' := []) trivial (show ([] : List Nat).Nodup from by decide) ?_
          exact hk38 _ h
        · refine v_i2f (T := 38) rfl rfl c103 ?_
          refine s_ek_bk 2 (P := 31) (ls' := [(0, .ref p0), (1, .ref 21), (2, .int v2), (3, .int v3), (4, .int v4)]) (st' := [.ref p0, .int v3]) (M' := v_mk s) rfl ?_
          refine v_gf rfl (v_gr hp0 (v_rK v_r7_0 (by decide) hp0).1 ⟨rfl, rfl, by decide⟩) ?_
          refine v_alen (x := 61) rfl (by rw [v_len (v_rK v_r7_0 (by decide) hp0).2.1 (by decide), (v_rK v_r7_0 (by decide) hp0).2.2]; rfl) ?_
          rcases v_if h with ⟨c104, h⟩ | ⟨c104, h⟩
          · refine v_i2t (T := 40) rfl rfl c104 ?_
            refine s_ek_bk 1 (P := 41) (ls' := [(0, .ref p0), (1, .ref 21), (2, .int v2), (3, .int v3), (4, .int v4)]) (st' := [.ref p0]) (M' := v_mk s) rfl ?_
            refine v_gf rfl (v_gr hp0 (v_rK v_r7_0 (by decide) hp0).1 ⟨rfl, rfl, by decide⟩) ?_
            refine s_ek_bk 1 (P := 45) (ls' := [(0, .ref p0), (1, .ref 21), (2, .int v2), (3, .int v3), (4, .int v4)]) (st' := [.int v3, .ref (p0 + 1)]) (M' := v_mk s) rfl ?_
            obtain ⟨c105, h⟩ := v_ck h
            refine v_ia (i := v3) rfl (v_ai (v_rK v_r7_0 (by decide) hp0).2.1 rfl (by decide) v_all13 (v_cn (v_rK v_r7_0 (by decide) hp0).2.2 c105)) ?_
            refine s_ek_bk 4 (P := 56) (ls' := [(3, .int (v3 + 1)), (5, .int (s.1 (p0 + 1) (Int32.toNatClampNeg v3))), (0, .ref p0), (1, .ref 21), (2, .int v2), (4, .int v4)]) (st' := [.int 30000, .int (s.1 (p0 + 1) (Int32.toNatClampNeg v3))]) (M' := v_mk s) rfl ?_
            rcases v_if h with ⟨c106, h⟩ | ⟨c106, h⟩
            · refine v_i2t (T := 111) rfl rfl c106 ?_
              refine s_ek_bk 2 (P := 116) (ls' := [(3, .int (v3 + 1)), (5, .int (s.1 (p0 + 1) (Int32.toNatClampNeg v3))), (0, .ref p0), (1, .ref 21), (2, .int v2), (4, .int v4)]) (st' := [.int 20000, .int (s.1 (p0 + 1) (Int32.toNatClampNeg v3))]) (M' := v_mk s) rfl ?_
              rcases v_if h with ⟨c107, h⟩ | ⟨c107, h⟩
              · refine v_i2t (T := 134) rfl rfl c107 ?_
                refine s_ek_bk 1 (P := 135) (ls' := [(3, .int (v3 + 1)), (5, .int (s.1 (p0 + 1) (Int32.toNatClampNeg v3))), (0, .ref p0), (1, .ref 21), (2, .int v2), (4, .int v4)]) (st' := [.int v2]) (M' := v_mk s) rfl ?_
                rcases v_if h with ⟨c108, h⟩ | ⟨c108, h⟩
                · refine v_i1t (T := 179) rfl rfl c108 ?_
                  refine s_ek_bk 2 (P := 7) (ls' := [(4, .int (v4 + 1)), (3, .int (v3 + 1)), (5, .int (s.1 (p0 + 1) (Int32.toNatClampNeg v3))), (0, .ref p0), (1, .ref 21), (2, .int v2)]) (st' := []) (M' := v_mk s) rfl ?_
                  refine v_ls (ls' := [(0, .ref p0), (1, .ref 21), (2, .int v2), (3, .int (v3 + 1)), (4, .int (v4 + 1))]) ⟨rfl, rfl, rfl, rfl, rfl, trivial⟩ (show ([0, 1, 2, 3, 4] : List Nat).Nodup from by decide) ?_
                  exact ih _ _ _ _ h
                · refine v_i1f (T := 179) rfl rfl c108 ?_
                  refine s_ek_bk 2 (P := 140) (ls' := [(3, .int (v3 + 1)), (5, .int (s.1 (p0 + 1) (Int32.toNatClampNeg v3))), (0, .ref p0), (1, .ref 21), (2, .int v2), (4, .int v4)]) (st' := [.ref p0, .int v2]) (M' := v_mk s) rfl ?_
                  refine v_gf rfl (v_gr hp0 (v_rK v_r7_1 (by decide) hp0).1 ⟨rfl, rfl, by decide⟩) ?_
                  refine v_alen (x := 61) rfl (by rw [v_len (v_rK v_r7_1 (by decide) hp0).2.1 (by decide), (v_rK v_r7_1 (by decide) hp0).2.2]; rfl) ?_
                  rcases v_if h with ⟨c109, h⟩ | ⟨c109, h⟩
                  · refine v_i2t (T := 179) rfl rfl c109 ?_
                    refine s_ek_bk 2 (P := 7) (ls' := [(4, .int (v4 + 1)), (3, .int (v3 + 1)), (5, .int (s.1 (p0 + 1) (Int32.toNatClampNeg v3))), (0, .ref p0), (1, .ref 21), (2, .int v2)]) (st' := []) (M' := v_mk s) rfl ?_
                    refine v_ls (ls' := [(0, .ref p0), (1, .ref 21), (2, .int v2), (3, .int (v3 + 1)), (4, .int (v4 + 1))]) ⟨rfl, rfl, rfl, rfl, rfl, trivial⟩ (show ([0, 1, 2, 3, 4] : List Nat).Nodup from by decide) ?_
                    exact ih _ _ _ _ h
                  · refine v_i2f (T := 179) rfl rfl c109 ?_
                    refine s_ek_bk 1 (P := 148) (ls' := [(3, .int (v3 + 1)), (5, .int (s.1 (p0 + 1) (Int32.toNatClampNeg v3))), (0, .ref p0), (1, .ref 21), (2, .int v2), (4, .int v4)]) (st' := [.ref p0]) (M' := v_mk s) rfl ?_
                    refine v_gf rfl (v_gr hp0 (v_rK v_r7_1 (by decide) hp0).1 ⟨rfl, rfl, by decide⟩) ?_
                    refine s_ek_bk 3 (P := 157) (ls' := [(3, .int (v3 + 1)), (5, .int (s.1 (p0 + 1) (Int32.toNatClampNeg v3))), (0, .ref p0), (1, .ref 21), (2, .int v2), (4, .int v4)]) (st' := [.int 10000, .int (s.1 (p0 + 1) (Int32.toNatClampNeg v3)), .int v2, .ref (p0 + 2)]) (M' := v_mk s) rfl ?_
                    rcases v_if h with ⟨c110, h⟩ | ⟨c110, h⟩
                    · refine v_i2t (T := 165) rfl rfl c110 ?_
                      refine s_ek_bk 4 (P := 172) (ls' := [(3, .int (v3 + 1)), (5, .int (s.1 (p0 + 1) (Int32.toNatClampNeg v3))), (0, .ref p0), (1, .ref 21), (2, .int v2), (4, .int v4)]) (st' := [.ref 21, .int ((s.1 (p0 + 1) (Int32.toNatClampNeg v3)) - (10000 : Int32)), .int v2, .ref (p0 + 2)]) (M' := v_mk s) rfl ?_
                      obtain ⟨r111, s111, e111, h⟩ := v_bd h
                      refine v_cS (ν := s_e107.1) (w := 858) (as := [.int ((s.1 (p0 + 1) (Int32.toNatClampNeg v3)) - (10000 : Int32)), .ref 21]) (r := [.int v2, .ref (p0 + 2)]) (o := some (.int r111)) (by omega) rfl rfl rfl rfl (t_Tx_named e111 (by omega)) ?_
                      show s_Ek (s_rows 3 L xs) D s_e105.1 175 [(3, .int (v3 + 1)), (5, .int (s.1 (p0 + 1) (Int32.toNatClampNeg v3))), (0, .ref p0), (1, .ref 21), (2, .int v2), (4, .int v4)] [.int r111, .int v2, .ref (p0 + 2)] (v_mk s111) _
                      obtain ⟨c112, h⟩ := v_ck h
                      obtain ⟨s113, es113, h⟩ := v_ld h
                      refine v_ist (M' := v_mk s113) (i := v2) rfl (by rw [es113]; exact v_pai (v_rK v_r7_1 (by decide) hp0).2.1 rfl (by decide) v_all13 (v_cn (v_rK v_r7_1 (by decide) hp0).2.2 c112)) ?_
                      refine s_ek_bk 3 (P := 7) (ls' := [(4, .int (v4 + 1)), (2, .int (v2 + 1)), (3, .int (v3 + 1)), (5, .int (s.1 (p0 + 1) (Int32.toNatClampNeg v3))), (0, .ref p0), (1, .ref 21)]) (st' := []) (M' := v_mk s113) rfl ?_
                      refine v_ls (ls' := [(0, .ref p0), (1, .ref 21), (2, .int (v2 + 1)), (3, .int (v3 + 1)), (4, .int (v4 + 1))]) ⟨rfl, rfl, rfl, rfl, rfl, trivial⟩ (show ([0, 1, 2, 3, 4] : List Nat).Nodup from by decide) ?_
                      exact ih _ _ _ _ h
                    · refine v_i2f (T := 165) rfl rfl c110 ?_
                      refine s_ek_bk 2 (P := 175) (ls' := [(3, .int (v3 + 1)), (5, .int (s.1 (p0 + 1) (Int32.toNatClampNeg v3))), (0, .ref p0), (1, .ref 21), (2, .int v2), (4, .int v4)]) (st' := [.int (s.1 (p0 + 1) (Int32.toNatClampNeg v3)), .int v2, .ref (p0 + 2)]) (M' := v_mk s) rfl ?_
                      obtain ⟨c114, h⟩ := v_ck h
                      obtain ⟨s115, es115, h⟩ := v_ld h
                      refine v_ist (M' := v_mk s115) (i := v2) rfl (by rw [es115]; exact v_pai (v_rK v_r7_1 (by decide) hp0).2.1 rfl (by decide) v_all13 (v_cn (v_rK v_r7_1 (by decide) hp0).2.2 c114)) ?_
                      refine s_ek_bk 3 (P := 7) (ls' := [(4, .int (v4 + 1)), (2, .int (v2 + 1)), (3, .int (v3 + 1)), (5, .int (s.1 (p0 + 1) (Int32.toNatClampNeg v3))), (0, .ref p0), (1, .ref 21)]) (st' := []) (M' := v_mk s115) rfl ?_
                      refine v_ls (ls' := [(0, .ref p0), (1, .ref 21), (2, .int (v2 + 1)), (3, .int (v3 + 1)), (4, .int (v4 + 1))]) ⟨rfl, rfl, rfl, rfl, rfl, trivial⟩ (show ([0, 1, 2, 3, 4] : List Nat).Nodup from by decide) ?_
                      exact ih _ _ _ _ h
              · refine v_i2f (T := 134) rfl rfl c107 ?_
                refine s_ek_bk 5 (P := 127) (ls' := [(3, .int (v3 + 1)), (5, .int (s.1 (p0 + 1) (Int32.toNatClampNeg v3))), (0, .ref p0), (1, .ref 21), (2, .int v2), (4, .int v4)]) (st' := [.int v2, .int ((s.1 (p0 + 1) (Int32.toNatClampNeg v3)) - (20000 : Int32)), .ref p0]) (M' := v_mk s) rfl ?_
                obtain ⟨r116, s116, e116, h⟩ := v_bd h
                refine v_cV (ν := s_e108.1) (w := 866) (a := p0) (as' := [.int ((s.1 (p0 + 1) (Int32.toNatClampNeg v3)) - (20000 : Int32)), .int v2]) (r := []) (o := some (.int r116)) (by omega) rfl rfl rfl (v_mk_kd (k := 7) hp0 (by decide)) rfl (t_Tx_work hp0 e116 (by omega)) ?_
                show s_Ek (s_rows 3 L xs) D s_e105.1 130 [(3, .int (v3 + 1)), (5, .int (s.1 (p0 + 1) (Int32.toNatClampNeg v3))), (0, .ref p0), (1, .ref 21), (2, .int v2), (4, .int v4)] [.int r116] (v_mk s116) _
                refine s_ek_bk 4 (P := 7) (ls' := [(4, .int (v4 + 1)), (2, .int r116), (3, .int (v3 + 1)), (5, .int (s.1 (p0 + 1) (Int32.toNatClampNeg v3))), (0, .ref p0), (1, .ref 21)]) (st' := []) (M' := v_mk s116) rfl ?_
                refine v_ls (ls' := [(0, .ref p0), (1, .ref 21), (2, .int r116), (3, .int (v3 + 1)), (4, .int (v4 + 1))]) ⟨rfl, rfl, rfl, rfl, rfl, trivial⟩ (show ([0, 1, 2, 3, 4] : List Nat).Nodup from by decide) ?_
                exact ih _ _ _ _ h
            · refine v_i2f (T := 111) rfl rfl c106 ?_
              refine s_ek_bk 3 (P := 66) (ls' := [(2, .int (v2 + (-1))), (3, .int (v3 + 1)), (5, .int (s.1 (p0 + 1) (Int32.toNatClampNeg v3))), (0, .ref p0), (1, .ref 21), (4, .int v4)]) (st' := [.int 40000, .int (s.1 (p0 + 1) (Int32.toNatClampNeg v3))]) (M' := v_mk s) rfl ?_
              rcases v_if h with ⟨c117, h⟩ | ⟨c117, h⟩
              · refine v_i2t (T := 82) rfl rfl c117 ?_
                refine v_ls (ls' := [(0, .ref p0), (2, .int (v2 + (-1)))]) ⟨rfl, rfl, trivial⟩ (show ([0, 2] : List Nat).Nodup from by decide) ?_
                exact hk82 _ _ h
              · refine v_i2f (T := 82) rfl rfl c117 ?_
                refine s_ek_bk 1 (P := 70) (ls' := [(2, .int (v2 + (-1))), (3, .int (v3 + 1)), (5, .int (s.1 (p0 + 1) (Int32.toNatClampNeg v3))), (0, .ref p0), (1, .ref 21), (4, .int v4)]) (st' := [.int (v2 + (-1))]) (M' := v_mk s) rfl ?_
                rcases v_if h with ⟨c118, h⟩ | ⟨c118, h⟩
                · refine v_i1t (T := 82) rfl rfl c118 ?_
                  refine v_ls (ls' := [(0, .ref p0), (2, .int (v2 + (-1)))]) ⟨rfl, rfl, trivial⟩ (show ([0, 2] : List Nat).Nodup from by decide) ?_
                  exact hk82 _ _ h
                · refine v_i1f (T := 82) rfl rfl c118 ?_
                  refine s_ek_bk 2 (P := 75) (ls' := [(2, .int (v2 + (-1))), (3, .int (v3 + 1)), (5, .int (s.1 (p0 + 1) (Int32.toNatClampNeg v3))), (0, .ref p0), (1, .ref 21), (4, .int v4)]) (st' := [.ref p0, .int (v2 + (-1))]) (M' := v_mk s) rfl ?_
                  refine v_gf rfl (v_gr hp0 (v_rK v_r7_1 (by decide) hp0).1 ⟨rfl, rfl, by decide⟩) ?_
                  refine v_alen (x := 61) rfl (by rw [v_len (v_rK v_r7_1 (by decide) hp0).2.1 (by decide), (v_rK v_r7_1 (by decide) hp0).2.2]; rfl) ?_
                  rcases v_if h with ⟨c119, h⟩ | ⟨c119, h⟩
                  · refine v_i2t (T := 88) rfl rfl c119 ?_
                    refine s_ek_bk 1 (P := 89) (ls' := [(2, .int (v2 + (-1))), (3, .int (v3 + 1)), (5, .int (s.1 (p0 + 1) (Int32.toNatClampNeg v3))), (0, .ref p0), (1, .ref 21), (4, .int v4)]) (st' := [.ref p0]) (M' := v_mk s) rfl ?_
                    refine v_gf rfl (v_gr hp0 (v_rK v_r7_1 (by decide) hp0).1 ⟨rfl, rfl, by decide⟩) ?_
                    refine s_ek_bk 1 (P := 93) (ls' := [(2, .int (v2 + (-1))), (3, .int (v3 + 1)), (5, .int (s.1 (p0 + 1) (Int32.toNatClampNeg v3))), (0, .ref p0), (1, .ref 21), (4, .int v4)]) (st' := [.int (v2 + (-1)), .ref (p0 + 2)]) (M' := v_mk s) rfl ?_
                    obtain ⟨c120, h⟩ := v_ck h
                    refine v_ia (i := (v2 + (-1))) rfl (v_ai (v_rK v_r7_1 (by decide) hp0).2.1 rfl (by decide) v_all13 (v_cn (v_rK v_r7_1 (by decide) hp0).2.2 c120)) ?_
                    rcases v_if h with ⟨c121, h⟩ | ⟨c121, h⟩
                    · refine v_i1f (T := 106) rfl rfl (fun q => q c121) ?_
                      refine s_ek_bk 8 (P := 7) (ls' := [(4, .int (v4 + 1)), (3, .int ((s.1 (p0 + 1) (Int32.toNatClampNeg v3)) - (30000 : Int32))), (2, .int (v2 + (-1))), (5, .int (s.1 (p0 + 1) (Int32.toNatClampNeg v3))), (0, .ref p0), (1, .ref 21)]) (st' := []) (M' := v_mk s) rfl ?_
                      refine v_ls (ls' := [(0, .ref p0), (1, .ref 21), (2, .int (v2 + (-1))), (3, .int ((s.1 (p0 + 1) (Int32.toNatClampNeg v3)) - (30000 : Int32))), (4, .int (v4 + 1))]) ⟨rfl, rfl, rfl, rfl, rfl, trivial⟩ (show ([0, 1, 2, 3, 4] : List Nat).Nodup from by decide) ?_
                      exact ih _ _ _ _ h
                    · refine v_i1t (T := 106) rfl rfl c121 ?_
                      refine s_ek_bk 5 (P := 7) (ls' := [(4, .int (v4 + 1)), (3, .int (v3 + 1)), (2, .int (v2 + (-1))), (5, .int (s.1 (p0 + 1) (Int32.toNatClampNeg v3))), (0, .ref p0), (1, .ref 21)]) (st' := []) (M' := v_mk s) rfl ?_
                      refine v_ls (ls' := [(0, .ref p0), (1, .ref 21), (2, .int (v2 + (-1))), (3, .int (v3 + 1)), (4, .int (v4 + 1))]) ⟨rfl, rfl, rfl, rfl, rfl, trivial⟩ (show ([0, 1, 2, 3, 4] : List Nat).Nodup from by decide) ?_
                      exact ih _ _ _ _ h
                  · refine v_i2f (T := 88) rfl rfl c119 ?_
                    refine v_ls (ls' := [(0, .ref p0), (2, .int (v2 + (-1)))]) ⟨rfl, rfl, trivial⟩ (show ([0, 2] : List Nat).Nodup from by decide) ?_
                    exact hk82 _ _ h
          · refine v_i2f (T := 40) rfl rfl c104 ?_
            refine v_ls (ls' := []) trivial (show ([] : List Nat).Nodup from by decide) ?_
            exact hk38 _ h
set_option maxRecDepth 20000 in
set_option maxHeartbeats 4000000 in
theorem t_Tx_value {L : Nat} {xs : Nat → Int32} {a : Nat} (ha : v_kd a = 7) {D : Nat} {r : Int32} {s s' : vS} (h : f_Tx_value a s = some (r, s')) (hD : 3 ≤ D) : s_Ek (s_rows 3 L xs) D s_e105.1 0 (lv_args 0 [.ref a, .ref 21]) [] (v_mk s) (v_Q (some (.int r)) s') := by
  unfold f_Tx_value at h
  show s_Ek (s_rows 3 L xs) D s_e105.1 0 [(0, .ref a), (1, .ref 21)] [] (v_mk s) _
  refine s_ek_bk 6 (P := 7) (ls' := [(4, .int 0), (3, .int 0), (2, .int 0), (0, .ref a), (1, .ref 21)]) (st' := []) (M' := v_mk s) rfl ?_
  refine v_ls (ls' := [(0, .ref a), (1, .ref 21), (2, .int 0), (3, .int 0), (4, .int 0)]) ⟨rfl, rfl, rfl, rfl, rfl, trivial⟩ (show ([0, 1, 2, 3, 4] : List Nat).Nodup from by decide) ?_
  refine t_Tx_value_L7 ha (by omega) (fun s1 h => ?_) (fun w2 s3 h => ?_) (fun s4 h => ?_) 4096 _ _ _ _ h
  · show s_Ek (s_rows 3 L xs) D s_e105.1 38 [] [] (v_mk s1) _
    refine s_ek_bk 1 (P := 39) (ls' := []) (st' := [.int 0]) (M' := v_mk s1) rfl ?_
    obtain ⟨rfl, rfl⟩ := v_so h
    exact v_ret (fun _ => rfl)
  · show s_Ek (s_rows 3 L xs) D s_e105.1 82 [(0, .ref a), (2, .int w2)] [] (v_mk s3) _
    refine s_ek_bk 2 (P := 84) (ls' := [(0, .ref a), (2, .int w2)]) (st' := [.int w2, .ref a]) (M' := v_mk s3) rfl ?_
    obtain ⟨r5, s5, e5, h⟩ := v_bd h
    refine v_cV (ν := s_e106.1) (w := 849) (a := a) (as' := [.int w2]) (r := []) (o := some (.int r5)) (by omega) rfl rfl rfl (v_mk_kd (k := 7) ha (by decide)) rfl (t_Tx_valueAt ha e5 (by omega)) ?_
    show s_Ek (s_rows 3 L xs) D s_e105.1 87 [(0, .ref a), (2, .int w2)] [.int r5] (v_mk s5) _
    obtain ⟨rfl, rfl⟩ := v_so h
    exact v_ret (fun _ => rfl)
  · show s_Ek (s_rows 3 L xs) D s_e105.1 185 [] [] (v_mk s4) _
    refine s_ek_bk 1 (P := 186) (ls' := []) (st' := [.int 0]) (M' := v_mk s4) rfl ?_
    obtain ⟨rfl, rfl⟩ := v_so h
    exact v_ret (fun _ => rfl)
noncomputable def f_Ws_to (b : Int32) (s : vS) : Option (Int32 × vS) := (if b.toInt < 0 then (some ((-1), s)) else (if 3 ≤ b.toInt then (some ((-1), s)) else (if v_in b 3 then (some ((s.1 10 (Int32.toNatClampNeg b)), s)) else none)))
set_option maxRecDepth 20000 in
set_option maxHeartbeats 4000000 in
theorem t_Ws_to {L : Nat} {xs : Nat → Int32} {b : Int32} {D : Nat} {r : Int32} {s s' : vS} (h : f_Ws_to b s = some (r, s')) (hD : 0 ≤ D) : s_Ek (s_rows 3 L xs) D s_e128.1 0 (lv_args 0 [.ref 9, .int b]) [] (v_mk s) (v_Q (some (.int r)) s') := by
  unfold f_Ws_to at h
  show s_Ek (s_rows 3 L xs) D s_e128.1 0 [(0, .ref 9), (1, .int b)] [] (v_mk s) _
  refine s_ek_bk 1 (P := 1) (ls' := [(0, .ref 9), (1, .int b)]) (st' := [.int b]) (M' := v_mk s) rfl ?_
  rcases v_if h with ⟨c1, h⟩ | ⟨c1, h⟩
  · refine v_i1t (T := 18) rfl rfl c1 ?_
    refine s_ek_bk 1 (P := 19) (ls' := [(0, .ref 9), (1, .int b)]) (st' := [.int (-1)]) (M' := v_mk s) rfl ?_
    obtain ⟨rfl, rfl⟩ := v_so h
    exact v_ret (fun _ => rfl)
  · refine v_i1f (T := 18) rfl rfl c1 ?_
    refine s_ek_bk 2 (P := 6) (ls' := [(0, .ref 9), (1, .int b)]) (st' := [.int 3, .int b]) (M' := v_mk s) rfl ?_
    rcases v_if h with ⟨c2, h⟩ | ⟨c2, h⟩
    · refine v_i2t (T := 18) rfl rfl c2 ?_
      refine s_ek_bk 1 (P := 19) (ls' := [(0, .ref 9), (1, .int b)]) (st' := [.int (-1)]) (M' := v_mk s) rfl ?_
      obtain ⟨rfl, rfl⟩ := v_so h
      exact v_ret (fun _ => rfl)
    · refine v_i2f (T := 18) rfl rfl c2 ?_
      refine s_ek_bk 1 (P := 10) (ls' := [(0, .ref 9), (1, .int b)]) (st' := [.ref 9]) (M' := v_mk s) rfl ?_
      refine v_gf rfl (v_gr (rfl : v_kd 9 = 9) (rfl : v_sl 9 0 = .ref 10) ⟨rfl, rfl, by decide⟩) ?_
      refine s_ek_bk 1 (P := 14) (ls' := [(0, .ref 9), (1, .int b)]) (st' := [.int b, .ref 10]) (M' := v_mk s) rfl ?_
      obtain ⟨c3, h⟩ := v_ck h
      refine v_ia (i := b) rfl (v_ai (rfl : v_kd 10 = 13) rfl (by decide) v_all13 (v_cn (rfl : v_ln 10 = 3) c3)) ?_
      refine s_ek_bk 1 (P := 19) (ls' := [(0, .ref 9), (1, .int b)]) (st' := [.int (s.1 10 (Int32.toNatClampNeg b))]) (M' := v_mk s) rfl ?_
      obtain ⟨rfl, rfl⟩ := v_so h
      exact v_ret (fun _ => rfl)
noncomputable def f_Ws_from (b : Int32) (s : vS) : Option (Int32 × vS) := (if b.toInt < 0 then (some (0, s)) else (if 3 ≤ b.toInt then (some (0, s)) else (if v_in b 3 then (some ((s.1 11 (Int32.toNatClampNeg b)), s)) else none)))
set_option maxRecDepth 20000 in
set_option maxHeartbeats 4000000 in
theorem t_Ws_from {L : Nat} {xs : Nat → Int32} {b : Int32} {D : Nat} {r : Int32} {s s' : vS} (h : f_Ws_from b s = some (r, s')) (hD : 0 ≤ D) : s_Ek (s_rows 3 L xs) D s_e129.1 0 (lv_args 0 [.ref 9, .int b]) [] (v_mk s) (v_Q (some (.int r)) s') := by
  unfold f_Ws_from at h
  show s_Ek (s_rows 3 L xs) D s_e129.1 0 [(0, .ref 9), (1, .int b)] [] (v_mk s) _
  refine s_ek_bk 1 (P := 1) (ls' := [(0, .ref 9), (1, .int b)]) (st' := [.int b]) (M' := v_mk s) rfl ?_
  rcases v_if h with ⟨c1, h⟩ | ⟨c1, h⟩
  · refine v_i1t (T := 18) rfl rfl c1 ?_
    refine s_ek_bk 1 (P := 19) (ls' := [(0, .ref 9), (1, .int b)]) (st' := [.int 0]) (M' := v_mk s) rfl ?_
    obtain ⟨rfl, rfl⟩ := v_so h
    exact v_ret (fun _ => rfl)
  · refine v_i1f (T := 18) rfl rfl c1 ?_
    refine s_ek_bk 2 (P := 6) (ls' := [(0, .ref 9), (1, .int b)]) (st' := [.int 3, .int b]) (M' := v_mk s) rfl ?_
    rcases v_if h with ⟨c2, h⟩ | ⟨c2, h⟩
    · refine v_i2t (T := 18) rfl rfl c2 ?_
      refine s_ek_bk 1 (P := 19) (ls' := [(0, .ref 9), (1, .int b)]) (st' := [.int 0]) (M' := v_mk s) rfl ?_
      obtain ⟨rfl, rfl⟩ := v_so h
      exact v_ret (fun _ => rfl)
    · refine v_i2f (T := 18) rfl rfl c2 ?_
      refine s_ek_bk 1 (P := 10) (ls' := [(0, .ref 9), (1, .int b)]) (st' := [.ref 9]) (M' := v_mk s) rfl ?_
      refine v_gf rfl (v_gr (rfl : v_kd 9 = 9) (rfl : v_sl 9 1 = .ref 11) ⟨rfl, rfl, by decide⟩) ?_
      refine s_ek_bk 1 (P := 14) (ls' := [(0, .ref 9), (1, .int b)]) (st' := [.int b, .ref 11]) (M' := v_mk s) rfl ?_
      obtain ⟨c3, h⟩ := v_ck h
      refine v_ia (i := b) rfl (v_ai (rfl : v_kd 11 = 13) rfl (by decide) v_all13 (v_cn (rfl : v_ln 11 = 3) c3)) ?_
      refine s_ek_bk 1 (P := 19) (ls' := [(0, .ref 9), (1, .int b)]) (st' := [.int (s.1 11 (Int32.toNatClampNeg b))]) (M' := v_mk s) rfl ?_
      obtain ⟨rfl, rfl⟩ := v_so h
      exact v_ret (fun _ => rfl)
noncomputable def f_Ws_meaning (b : Int32) (c : Int32) (s : vS) : Option (Int32 × vS) := (v_bi (f_Ws_to b s) (fun r1 s1 => (if r1.toInt < 0 then (some (b, s1)) else (v_bi (f_Ws_from b s1) (fun r3 s3 => (if r3.toInt ≤ c.toInt then (v_bi (f_Ws_to b s3) (fun r5 s5 => (some (r5, s5)))) else (some (b, s3))))))))
set_option maxRecDepth 20000 in
set_option maxHeartbeats 4000000 in
theorem t_Ws_meaning {L : Nat} {xs : Nat → Int32} {b : Int32} {c : Int32} {D : Nat} {r : Int32} {s s' : vS} (h : f_Ws_meaning b c s = some (r, s')) (hD : 1 ≤ D) : s_Ek (s_rows 3 L xs) D s_e130.1 0 (lv_args 0 [.ref 9, .int b, .int c]) [] (v_mk s) (v_Q (some (.int r)) s') := by
  unfold f_Ws_meaning at h
  show s_Ek (s_rows 3 L xs) D s_e130.1 0 [(0, .ref 9), (1, .int b), (2, .int c)] [] (v_mk s) _
  refine s_ek_bk 2 (P := 2) (ls' := [(0, .ref 9), (1, .int b), (2, .int c)]) (st' := [.int b, .ref 9]) (M' := v_mk s) rfl ?_
  obtain ⟨r1, s1, e1, h⟩ := v_bd h
  refine v_cV (ν := s_e128.1) (w := 1025) (a := 9) (as' := [.int b]) (r := []) (o := some (.int r1)) (by omega) rfl rfl rfl (v_mk_kd (k := 9) (rfl : v_kd 9 = 9) (by decide)) rfl (t_Ws_to e1 (by omega)) ?_
  show s_Ek (s_rows 3 L xs) D s_e130.1 5 [(0, .ref 9), (1, .int b), (2, .int c)] [.int r1] (v_mk s1) _
  rcases v_if h with ⟨c2, h⟩ | ⟨c2, h⟩
  · refine v_i1t (T := 17) rfl rfl c2 ?_
    refine s_ek_bk 2 (P := 26) (ls' := [(0, .ref 9), (1, .int b), (2, .int c)]) (st' := [.int b]) (M' := v_mk s1) rfl ?_
    obtain ⟨rfl, rfl⟩ := v_so h
    exact v_ret (fun _ => rfl)
  · refine v_i1f (T := 17) rfl rfl c2 ?_
    refine s_ek_bk 2 (P := 10) (ls' := [(0, .ref 9), (1, .int b), (2, .int c)]) (st' := [.int b, .ref 9]) (M' := v_mk s1) rfl ?_
    obtain ⟨r3, s3, e3, h⟩ := v_bd h
    refine v_cV (ν := s_e129.1) (w := 1033) (a := 9) (as' := [.int b]) (r := []) (o := some (.int r3)) (by omega) rfl rfl rfl (v_mk_kd (k := 9) (rfl : v_kd 9 = 9) (by decide)) rfl (t_Ws_from e3 (by omega)) ?_
    show s_Ek (s_rows 3 L xs) D s_e130.1 13 [(0, .ref 9), (1, .int b), (2, .int c)] [.int r3] (v_mk s3) _
    refine s_ek_bk 1 (P := 14) (ls' := [(0, .ref 9), (1, .int b), (2, .int c)]) (st' := [.int c, .int r3]) (M' := v_mk s3) rfl ?_
    rcases v_if h with ⟨c4, h⟩ | ⟨c4, h⟩
    · refine v_i2t (T := 21) rfl rfl c4 ?_
      refine s_ek_bk 2 (P := 23) (ls' := [(0, .ref 9), (1, .int b), (2, .int c)]) (st' := [.int b, .ref 9]) (M' := v_mk s3) rfl ?_
      obtain ⟨r5, s5, e5, h⟩ := v_bd h
      refine v_cV (ν := s_e128.1) (w := 1025) (a := 9) (as' := [.int b]) (r := []) (o := some (.int r5)) (by omega) rfl rfl rfl (v_mk_kd (k := 9) (rfl : v_kd 9 = 9) (by decide)) rfl (t_Ws_to e5 (by omega)) ?_
      show s_Ek (s_rows 3 L xs) D s_e130.1 26 [(0, .ref 9), (1, .int b), (2, .int c)] [.int r5] (v_mk s5) _
      obtain ⟨rfl, rfl⟩ := v_so h
      exact v_ret (fun _ => rfl)
    · refine v_i2f (T := 21) rfl rfl c4 ?_
      refine s_ek_bk 2 (P := 26) (ls' := [(0, .ref 9), (1, .int b), (2, .int c)]) (st' := [.int b]) (M' := v_mk s3) rfl ?_
      obtain ⟨rfl, rfl⟩ := v_so h
      exact v_ret (fun _ => rfl)
noncomputable def f_Lw_hear_L97b (p0 : Nat) (p2 : Int32) (p4 : Int32) (p5 : Int32) (p6 : Int32) (k185 : vS → Option (Unit × vS)) (again : Int32 → vS → Option (Unit × vS)) (v8 : Int32) (s : vS) : Option (Unit × vS) := (if 125 ≤ v8.toInt then (k185 s) else (v_bi (f_Cs_digit v8 p4 s) (fun r112 s112 => (v_let (v_w1 s112 21 0 r112) (fun s113 => (v_bi (f_Cs_digit v8 p5 s113) (fun r114 s114 => (v_let (v_w1 s114 21 1 r114) (fun s115 => (v_bi (f_Cs_digit v8 p6 s115) (fun r116 s116 => (v_let (v_w1 s116 21 2 r116) (fun s117 => (v_let (v_w1 s117 21 3 (s117.1 p0 1)) (fun s118 => (v_let (v_w1 s118 21 4 p2) (fun s119 => (v_let (v_w1 s119 21 5 (s119.1 p0 0)) (fun s120 => (v_bi (f_Tx_value (p0 + 1) s120) (fun r121 s121 => (if r121.toInt = 0 then (again (v8 + 1) s121) else (v_bi (f_Cs_add (p0 + 4) v8 s121) (fun _ s123 => (again (v8 + 1) s123)))))))))))))))))))))))))
noncomputable def f_Lw_hear_L97 (p0 : Nat) (p2 : Int32) (p4 : Int32) (p5 : Int32) (p6 : Int32) (k185 : vS → Option (Unit × vS)) (n : Nat) : Int32 → vS → Option (Unit × vS) := Nat.rec (motive := fun _ => Int32 → vS → Option (Unit × vS)) (fun _ _ => none) (fun _ again => f_Lw_hear_L97b p0 p2 p4 p5 p6 k185 again) n
noncomputable def f_Lw_hear (a : Nat) (c : Int32) (s : vS) : Option (Unit × vS) := (v_bi (f_Ws_meaning 0 c s) (fun r1 s1 => (v_bi (f_Ws_meaning 1 c s1) (fun r2 s2 => (v_bi (f_Ws_meaning 2 c s2) (fun r3 s3 => (if (s3.1 a 7).toInt = c.toInt then (if (s3.1 a 6).toInt = (s3.1 a 1).toInt then (if (s3.1 a 8).toInt = (((r1 * (9 : Int32)) + (r2 * (3 : Int32))) + r3).toInt then (some ((), s3)) else (v_let (v_w1 s3 a 7 c) (fun s7 => (v_let (v_w1 s7 a 6 (s7.1 a 1)) (fun s8 => (v_let (v_w1 s8 a 8 (((r1 * (9 : Int32)) + (r2 * (3 : Int32))) + r3)) (fun s9 => (v_bi (f_Cs_clear (a + 4) s9) (fun _ s10 => (f_Lw_hear_L97 a c r1 r2 r3 (fun s11 => (some ((), s11))) 4096 0 s10)))))))))) else (v_let (v_w1 s3 a 7 c) (fun s12 => (v_let (v_w1 s12 a 6 (s12.1 a 1)) (fun s13 => (v_let (v_w1 s13 a 8 (((r1 * (9 : Int32)) + (r2 * (3 : Int32))) + r3)) (fun s14 => (v_bi (f_Cs_clear (a + 4) s14) (fun _ s15 => (f_Lw_hear_L97 a c r1 r2 r3 (fun s16 => (some ((), s16))) 4096 0 s15)))))))))) else (v_let (v_w1 s3 a 7 c) (fun s17 => (v_let (v_w1 s17 a 6 (s17.1 a 1)) (fun s18 => (v_let (v_w1 s18 a 8 (((r1 * (9 : Int32)) + (r2 * (3 : Int32))) + r3)) (fun s19 => (v_bi (f_Cs_clear (a + 4) s19) (fun _ s20 => (f_Lw_hear_L97 a c r1 r2 r3 (fun s21 => (some ((), s21))) 4096 0 s20))))))))))))))))
set_option maxRecDepth 20000 in
set_option maxHeartbeats 4000000 in
theorem t_Lw_hear_L97 {L : Nat} {xs : Nat → Int32} {p0 : Nat} {p2 : Int32} {p4 : Int32} {p5 : Int32} {p6 : Int32} (hp0 : v_kd p0 = 4) {k185 : vS → Option (Unit × vS)} {D : Nat} (hD : 4 ≤ D) {r : Unit} {s' : vS} (hk185 : ∀ (s : vS), k185 s = some (r, s') → s_Ek (s_rows 3 L xs) D s_e64.1 185 [] [] (v_mk s) (v_Q none s')) : ∀ (n : Nat) (v8 : Int32) (s : vS), f_Lw_hear_L97 p0 p2 p4 p5 p6 k185 n v8 s = some (r, s') → s_Ek (s_rows 3 L xs) D s_e64.1 97 [(0, .ref p0), (2, .int p2), (3, .ref 21), (4, .int p4), (5, .int p5), (6, .int p6), (8, .int v8)] [] (v_mk s) (v_Q none s') := by
  intro n
  induction n with
  | zero => intro v8 s h; exact nomatch (show (none : Option (Unit × vS)) = some (r, s') from h)
  | succ n ih =>
    intro v8 s h
    replace h : f_Lw_hear_L97b p0 p2 p4 p5 p6 k185 (f_Lw_hear_L97 p0 p2 p4 p5 p6 k185 n) v8 s = some (r, s') := h
    unfold f_Lw_hear_L97b at h
    refine s_ek_bk 2 (P := 101) (ls' := [(0, .ref p0), (2, .int p2), (3, .ref 21), (4, .int p4), (5, .int p5), (6, .int p6), (8, .int v8)]) (st' := [.int 125, .int v8]) (M' := v_mk s) rfl ?_
    rcases v_if h with ⟨c111, h⟩ | ⟨c111, h⟩
    · refine v_i2t (T := 185) rfl rfl c111 ?_
      refine v_ls (ls' := []) trivial (show ([] : List Nat).Nodup from by decide) ?_
      exact hk185 _ h
    · refine v_i2f (T := 185) rfl rfl c111 ?_
      refine s_ek_bk 1 (P := 105) (ls' := [(0, .ref p0), (2, .int p2), (3, .ref 21), (4, .int p4), (5, .int p5), (6, .int p6), (8, .int v8)]) (st' := [.ref 21]) (M' := v_mk s) rfl ?_
      refine v_alen (x := 6) rfl (by rw [v_len (rfl : v_kd 21 = 13) (by decide), (rfl : v_ln 21 = 6)]; rfl) ?_
      refine s_ek_bk 6 (P := 117) (ls' := [(0, .ref p0), (2, .int p2), (3, .ref 21), (4, .int p4), (5, .int p5), (6, .int p6), (8, .int v8)]) (st' := [.int p4, .int v8, .int 0, .ref 21]) (M' := v_mk s) rfl ?_
      obtain ⟨r112, s112, e112, h⟩ := v_bd h
      refine v_cS (ν := s_e4.1) (w := 34) (as := [.int v8, .int p4]) (r := [.int 0, .ref 21]) (o := some (.int r112)) (by omega) rfl rfl rfl rfl (t_Cs_digit e112 (by omega)) ?_
      show s_Ek (s_rows 3 L xs) D s_e64.1 120 [(0, .ref p0), (2, .int p2), (3, .ref 21), (4, .int p4), (5, .int p5), (6, .int p6), (8, .int v8)] [.int r112, .int 0, .ref 21] (v_mk s112) _
      obtain ⟨s113, es113, h⟩ := v_ld h
      refine v_ist (M' := v_mk s113) (i := 0) rfl (by rw [es113]; exact v_pai (rfl : v_kd 21 = 13) rfl (by decide) v_all13 (v_cn (rfl : v_ln 21 = 6) (by decide : v_in 0 6))) ?_
      refine s_ek_bk 4 (P := 127) (ls' := [(0, .ref p0), (2, .int p2), (3, .ref 21), (4, .int p4), (5, .int p5), (6, .int p6), (8, .int v8)]) (st' := [.int p5, .int v8, .int 1, .ref 21]) (M' := v_mk s113) rfl ?_
      obtain ⟨r114, s114, e114, h⟩ := v_bd h
      refine v_cS (ν := s_e4.1) (w := 34) (as := [.int v8, .int p5]) (r := [.int 1, .ref 21]) (o := some (.int r114)) (by omega) rfl rfl rfl rfl (t_Cs_digit e114 (by omega)) ?_
      show s_Ek (s_rows 3 L xs) D s_e64.1 130 [(0, .ref p0), (2, .int p2), (3, .ref 21), (4, .int p4), (5, .int p5), (6, .int p6), (8, .int v8)] [.int r114, .int 1, .ref 21] (v_mk s114) _
      obtain ⟨s115, es115, h⟩ := v_ld h
      refine v_ist (M' := v_mk s115) (i := 1) rfl (by rw [es115]; exact v_pai (rfl : v_kd 21 = 13) rfl (by decide) v_all13 (v_cn (rfl : v_ln 21 = 6) (by decide : v_in 1 6))) ?_
      refine s_ek_bk 4 (P := 137) (ls' := [(0, .ref p0), (2, .int p2), (3, .ref 21), (4, .int p4), (5, .int p5), (6, .int p6), (8, .int v8)]) (st' := [.int p6, .int v8, .int 2, .ref 21]) (M' := v_mk s115) rfl ?_
      obtain ⟨r116, s116, e116, h⟩ := v_bd h
      refine v_cS (ν := s_e4.1) (w := 34) (as := [.int v8, .int p6]) (r := [.int 2, .ref 21]) (o := some (.int r116)) (by omega) rfl rfl rfl rfl (t_Cs_digit e116 (by omega)) ?_
      show s_Ek (s_rows 3 L xs) D s_e64.1 140 [(0, .ref p0), (2, .int p2), (3, .ref 21), (4, .int p4), (5, .int p5), (6, .int p6), (8, .int v8)] [.int r116, .int 2, .ref 21] (v_mk s116) _
      obtain ⟨s117, es117, h⟩ := v_ld h
      refine v_ist (M' := v_mk s117) (i := 2) rfl (by rw [es117]; exact v_pai (rfl : v_kd 21 = 13) rfl (by decide) v_all13 (v_cn (rfl : v_ln 21 = 6) (by decide : v_in 2 6))) ?_
      refine s_ek_bk 3 (P := 144) (ls' := [(0, .ref p0), (2, .int p2), (3, .ref 21), (4, .int p4), (5, .int p5), (6, .int p6), (8, .int v8)]) (st' := [.ref p0, .int 3, .ref 21]) (M' := v_mk s117) rfl ?_
      refine v_gf rfl (v_gi hp0 (v_tK (j := 1) v_is4 (by decide) hp0) ⟨rfl, rfl, by decide⟩) ?_
      obtain ⟨s118, es118, h⟩ := v_ld h
      refine v_ist (M' := v_mk s118) (i := 3) rfl (by rw [es118]; exact v_pai (rfl : v_kd 21 = 13) rfl (by decide) v_all13 (v_cn (rfl : v_ln 21 = 6) (by decide : v_in 3 6))) ?_
      refine s_ek_bk 3 (P := 151) (ls' := [(0, .ref p0), (2, .int p2), (3, .ref 21), (4, .int p4), (5, .int p5), (6, .int p6), (8, .int v8)]) (st' := [.int p2, .int 4, .ref 21]) (M' := v_mk s118) rfl ?_
      obtain ⟨s119, es119, h⟩ := v_ld h
      refine v_ist (M' := v_mk s119) (i := 4) rfl (by rw [es119]; exact v_pai (rfl : v_kd 21 = 13) rfl (by decide) v_all13 (v_cn (rfl : v_ln 21 = 6) (by decide : v_in 4 6))) ?_
      refine s_ek_bk 3 (P := 155) (ls' := [(0, .ref p0), (2, .int p2), (3, .ref 21), (4, .int p4), (5, .int p5), (6, .int p6), (8, .int v8)]) (st' := [.ref p0, .int 5, .ref 21]) (M' := v_mk s119) rfl ?_
      refine v_gf rfl (v_gi hp0 (v_tK (j := 0) v_is4 (by decide) hp0) ⟨rfl, rfl, by decide⟩) ?_
      obtain ⟨s120, es120, h⟩ := v_ld h
      refine v_ist (M' := v_mk s120) (i := 5) rfl (by rw [es120]; exact v_pai (rfl : v_kd 21 = 13) rfl (by decide) v_all13 (v_cn (rfl : v_ln 21 = 6) (by decide : v_in 5 6))) ?_
      refine s_ek_bk 1 (P := 160) (ls' := [(0, .ref p0), (2, .int p2), (3, .ref 21), (4, .int p4), (5, .int p5), (6, .int p6), (8, .int v8)]) (st' := [.ref p0]) (M' := v_mk s120) rfl ?_
      refine v_gf rfl (v_gr hp0 (v_rK v_r4_4 (by decide) hp0).1 ⟨rfl, rfl, by decide⟩) ?_
      refine s_ek_bk 1 (P := 164) (ls' := [(0, .ref p0), (2, .int p2), (3, .ref 21), (4, .int p4), (5, .int p5), (6, .int p6), (8, .int v8)]) (st' := [.ref 21, .ref (p0 + 1)]) (M' := v_mk s120) rfl ?_
      obtain ⟨r121, s121, e121, h⟩ := v_bd h
      refine v_cV (ν := s_e105.1) (w := 841) (a := (p0 + 1)) (as' := [.ref 21]) (r := []) (o := some (.int r121)) (by omega) rfl rfl rfl (v_mk_kd (k := 7) (v_rK v_r4_4 (by decide) hp0).2.1 (by decide)) rfl (t_Tx_value (v_rK v_r4_4 (by decide) hp0).2.1 e121 (by omega)) ?_
      show s_Ek (s_rows 3 L xs) D s_e64.1 167 [(0, .ref p0), (2, .int p2), (3, .ref 21), (4, .int p4), (5, .int p5), (6, .int p6), (8, .int v8)] [.int r121] (v_mk s121) _
      rcases v_if h with ⟨c122, h⟩ | ⟨c122, h⟩
      · refine v_i1t (T := 179) rfl rfl c122 ?_
        refine s_ek_bk 2 (P := 97) (ls' := [(8, .int (v8 + 1)), (0, .ref p0), (2, .int p2), (3, .ref 21), (4, .int p4), (5, .int p5), (6, .int p6)]) (st' := []) (M' := v_mk s121) rfl ?_
        refine v_ls (ls' := [(0, .ref p0), (2, .int p2), (3, .ref 21), (4, .int p4), (5, .int p5), (6, .int p6), (8, .int (v8 + 1))]) ⟨rfl, rfl, rfl, rfl, rfl, rfl, rfl, trivial⟩ (show ([0, 2, 3, 4, 5, 6, 8] : List Nat).Nodup from by decide) ?_
        exact ih _ _ h
      · refine v_i1f (T := 179) rfl rfl c122 ?_
        refine s_ek_bk 1 (P := 171) (ls' := [(0, .ref p0), (2, .int p2), (3, .ref 21), (4, .int p4), (5, .int p5), (6, .int p6), (8, .int v8)]) (st' := [.ref p0]) (M' := v_mk s121) rfl ?_
        refine v_gf rfl (v_gr hp0 (v_rK v_r4_5 (by decide) hp0).1 ⟨rfl, rfl, by decide⟩) ?_
        refine s_ek_bk 1 (P := 176) (ls' := [(0, .ref p0), (2, .int p2), (3, .ref 21), (4, .int p4), (5, .int p5), (6, .int p6), (8, .int v8)]) (st' := [.int v8, .ref (p0 + 4)]) (M' := v_mk s121) rfl ?_
        obtain ⟨r123, s123, e123, h⟩ := v_bd h
        refine v_cV (ν := s_e7.1) (w := 57) (a := (p0 + 4)) (as' := [.int v8]) (r := []) (o := none) (by omega) rfl rfl rfl (v_mk_kd (k := 0) (v_rK v_r4_5 (by decide) hp0).2.1 (by decide)) rfl (t_Cs_add (v_rK v_r4_5 (by decide) hp0).2.1 e123 (by omega)) ?_
        show s_Ek (s_rows 3 L xs) D s_e64.1 179 [(0, .ref p0), (2, .int p2), (3, .ref 21), (4, .int p4), (5, .int p5), (6, .int p6), (8, .int v8)] [] (v_mk s123) _
        refine s_ek_bk 2 (P := 97) (ls' := [(8, .int (v8 + 1)), (0, .ref p0), (2, .int p2), (3, .ref 21), (4, .int p4), (5, .int p5), (6, .int p6)]) (st' := []) (M' := v_mk s123) rfl ?_
        refine v_ls (ls' := [(0, .ref p0), (2, .int p2), (3, .ref 21), (4, .int p4), (5, .int p5), (6, .int p6), (8, .int (v8 + 1))]) ⟨rfl, rfl, rfl, rfl, rfl, rfl, rfl, trivial⟩ (show ([0, 2, 3, 4, 5, 6, 8] : List Nat).Nodup from by decide) ?_
        exact ih _ _ h
set_option maxRecDepth 20000 in
set_option maxHeartbeats 4000000 in
theorem t_Lw_hear {L : Nat} {xs : Nat → Int32} {a : Nat} {c : Int32} (ha : v_kd a = 4) {D : Nat} {r : Unit} {s s' : vS} (h : f_Lw_hear a c s = some (r, s')) (hD : 4 ≤ D) : s_Ek (s_rows 3 L xs) D s_e64.1 0 (lv_args 0 [.ref a, .ref 9, .int c, .ref 21]) [] (v_mk s) (v_Q none s') := by
  unfold f_Lw_hear at h
  show s_Ek (s_rows 3 L xs) D s_e64.1 0 [(0, .ref a), (1, .ref 9), (2, .int c), (3, .ref 21)] [] (v_mk s) _
  refine s_ek_bk 3 (P := 3) (ls' := [(0, .ref a), (1, .ref 9), (2, .int c), (3, .ref 21)]) (st' := [.int c, .int 0, .ref 9]) (M' := v_mk s) rfl ?_
  obtain ⟨r1, s1, e1, h⟩ := v_bd h
  refine v_cV (ν := s_e130.1) (w := 1042) (a := 9) (as' := [.int 0, .int c]) (r := []) (o := some (.int r1)) (by omega) rfl rfl rfl (v_mk_kd (k := 9) (rfl : v_kd 9 = 9) (by decide)) rfl (t_Ws_meaning e1 (by omega)) ?_
  show s_Ek (s_rows 3 L xs) D s_e64.1 6 [(0, .ref a), (1, .ref 9), (2, .int c), (3, .ref 21)] [.int r1] (v_mk s1) _
  refine s_ek_bk 4 (P := 11) (ls' := [(4, .int r1), (0, .ref a), (1, .ref 9), (2, .int c), (3, .ref 21)]) (st' := [.int c, .int 1, .ref 9]) (M' := v_mk s1) rfl ?_
  obtain ⟨r2, s2, e2, h⟩ := v_bd h
  refine v_cV (ν := s_e130.1) (w := 1042) (a := 9) (as' := [.int 1, .int c]) (r := []) (o := some (.int r2)) (by omega) rfl rfl rfl (v_mk_kd (k := 9) (rfl : v_kd 9 = 9) (by decide)) rfl (t_Ws_meaning e2 (by omega)) ?_
  show s_Ek (s_rows 3 L xs) D s_e64.1 14 [(4, .int r1), (0, .ref a), (1, .ref 9), (2, .int c), (3, .ref 21)] [.int r2] (v_mk s2) _
  refine s_ek_bk 4 (P := 19) (ls' := [(5, .int r2), (4, .int r1), (0, .ref a), (1, .ref 9), (2, .int c), (3, .ref 21)]) (st' := [.int c, .int 2, .ref 9]) (M' := v_mk s2) rfl ?_
  obtain ⟨r3, s3, e3, h⟩ := v_bd h
  refine v_cV (ν := s_e130.1) (w := 1042) (a := 9) (as' := [.int 2, .int c]) (r := []) (o := some (.int r3)) (by omega) rfl rfl rfl (v_mk_kd (k := 9) (rfl : v_kd 9 = 9) (by decide)) rfl (t_Ws_meaning e3 (by omega)) ?_
  show s_Ek (s_rows 3 L xs) D s_e64.1 22 [(5, .int r2), (4, .int r1), (0, .ref a), (1, .ref 9), (2, .int c), (3, .ref 21)] [.int r3] (v_mk s3) _
  refine s_ek_bk 12 (P := 40) (ls' := [(7, .int (((r1 * (9 : Int32)) + (r2 * (3 : Int32))) + r3)), (6, .int r3), (5, .int r2), (4, .int r1), (0, .ref a), (1, .ref 9), (2, .int c), (3, .ref 21)]) (st' := [.ref a]) (M' := v_mk s3) rfl ?_
  refine v_gf rfl (v_gi ha (v_tK (j := 7) v_is4 (by decide) ha) ⟨rfl, rfl, by decide⟩) ?_
  refine s_ek_bk 1 (P := 44) (ls' := [(7, .int (((r1 * (9 : Int32)) + (r2 * (3 : Int32))) + r3)), (6, .int r3), (5, .int r2), (4, .int r1), (0, .ref a), (1, .ref 9), (2, .int c), (3, .ref 21)]) (st' := [.int c, .int (s3.1 a 7)]) (M' := v_mk s3) rfl ?_
  rcases v_if h with ⟨c4, h⟩ | ⟨c4, h⟩
  · refine v_i2f (T := 68) rfl rfl (fun q => q c4) ?_
    refine s_ek_bk 1 (P := 48) (ls' := [(7, .int (((r1 * (9 : Int32)) + (r2 * (3 : Int32))) + r3)), (6, .int r3), (5, .int r2), (4, .int r1), (0, .ref a), (1, .ref 9), (2, .int c), (3, .ref 21)]) (st' := [.ref a]) (M' := v_mk s3) rfl ?_
    refine v_gf rfl (v_gi ha (v_tK (j := 6) v_is4 (by decide) ha) ⟨rfl, rfl, by decide⟩) ?_
    refine s_ek_bk 1 (P := 52) (ls' := [(7, .int (((r1 * (9 : Int32)) + (r2 * (3 : Int32))) + r3)), (6, .int r3), (5, .int r2), (4, .int r1), (0, .ref a), (1, .ref 9), (2, .int c), (3, .ref 21)]) (st' := [.ref a, .int (s3.1 a 6)]) (M' := v_mk s3) rfl ?_
    refine v_gf rfl (v_gi ha (v_tK (j := 1) v_is4 (by decide) ha) ⟨rfl, rfl, by decide⟩) ?_
    rcases v_if h with ⟨c5, h⟩ | ⟨c5, h⟩
    · refine v_i2f (T := 68) rfl rfl (fun q => q c5) ?_
      refine s_ek_bk 1 (P := 59) (ls' := [(7, .int (((r1 * (9 : Int32)) + (r2 * (3 : Int32))) + r3)), (6, .int r3), (5, .int r2), (4, .int r1), (0, .ref a), (1, .ref 9), (2, .int c), (3, .ref 21)]) (st' := [.ref a]) (M' := v_mk s3) rfl ?_
      refine v_gf rfl (v_gi ha (v_tK (j := 8) v_is4 (by decide) ha) ⟨rfl, rfl, by decide⟩) ?_
      refine s_ek_bk 1 (P := 64) (ls' := [(7, .int (((r1 * (9 : Int32)) + (r2 * (3 : Int32))) + r3)), (6, .int r3), (5, .int r2), (4, .int r1), (0, .ref a), (1, .ref 9), (2, .int c), (3, .ref 21)]) (st' := [.int (((r1 * (9 : Int32)) + (r2 * (3 : Int32))) + r3), .int (s3.1 a 8)]) (M' := v_mk s3) rfl ?_
      rcases v_if h with ⟨c6, h⟩ | ⟨c6, h⟩
      · refine v_i2f (T := 68) rfl rfl (fun q => q c6) ?_
        obtain ⟨rfl, rfl⟩ := v_so h
        exact v_ret (fun _ => rfl)
      · refine v_i2t (T := 68) rfl rfl c6 ?_
        refine s_ek_bk 2 (P := 70) (ls' := [(7, .int (((r1 * (9 : Int32)) + (r2 * (3 : Int32))) + r3)), (6, .int r3), (5, .int r2), (4, .int r1), (0, .ref a), (1, .ref 9), (2, .int c), (3, .ref 21)]) (st' := [.int c, .ref a]) (M' := v_mk s3) rfl ?_
        obtain ⟨s7, es7, h⟩ := v_ld h
        refine v_pf (M' := v_mk s7) rfl (by rw [es7]; exact v_pi ha (v_tK (j := 7) v_is4 (by decide) ha) ⟨rfl, rfl, by decide⟩ rfl) ?_
        refine s_ek_bk 2 (P := 75) (ls' := [(7, .int (((r1 * (9 : Int32)) + (r2 * (3 : Int32))) + r3)), (6, .int r3), (5, .int r2), (4, .int r1), (0, .ref a), (1, .ref 9), (2, .int c), (3, .ref 21)]) (st' := [.ref a, .ref a]) (M' := v_mk s7) rfl ?_
        refine v_gf rfl (v_gi ha (v_tK (j := 1) v_is4 (by decide) ha) ⟨rfl, rfl, by decide⟩) ?_
        obtain ⟨s8, es8, h⟩ := v_ld h
        refine v_pf (M' := v_mk s8) rfl (by rw [es8]; exact v_pi ha (v_tK (j := 6) v_is4 (by decide) ha) ⟨rfl, rfl, by decide⟩ rfl) ?_
        refine s_ek_bk 2 (P := 84) (ls' := [(7, .int (((r1 * (9 : Int32)) + (r2 * (3 : Int32))) + r3)), (6, .int r3), (5, .int r2), (4, .int r1), (0, .ref a), (1, .ref 9), (2, .int c), (3, .ref 21)]) (st' := [.int (((r1 * (9 : Int32)) + (r2 * (3 : Int32))) + r3), .ref a]) (M' := v_mk s8) rfl ?_
        obtain ⟨s9, es9, h⟩ := v_ld h
        refine v_pf (M' := v_mk s9) rfl (by rw [es9]; exact v_pi ha (v_tK (j := 8) v_is4 (by decide) ha) ⟨rfl, rfl, by decide⟩ rfl) ?_
        refine s_ek_bk 1 (P := 88) (ls' := [(7, .int (((r1 * (9 : Int32)) + (r2 * (3 : Int32))) + r3)), (6, .int r3), (5, .int r2), (4, .int r1), (0, .ref a), (1, .ref 9), (2, .int c), (3, .ref 21)]) (st' := [.ref a]) (M' := v_mk s9) rfl ?_
        refine v_gf rfl (v_gr ha (v_rK v_r4_5 (by decide) ha).1 ⟨rfl, rfl, by decide⟩) ?_
        obtain ⟨r10, s10, e10, h⟩ := v_bd h
        refine v_cV (ν := s_e5.1) (w := 40) (a := (a + 4)) (as' := []) (r := []) (o := none) (by omega) rfl rfl rfl (v_mk_kd (k := 0) (v_rK v_r4_5 (by decide) ha).2.1 (by decide)) rfl (t_Cs_clear (v_rK v_r4_5 (by decide) ha).2.1 e10 (by omega)) ?_
        show s_Ek (s_rows 3 L xs) D s_e64.1 94 [(7, .int (((r1 * (9 : Int32)) + (r2 * (3 : Int32))) + r3)), (6, .int r3), (5, .int r2), (4, .int r1), (0, .ref a), (1, .ref 9), (2, .int c), (3, .ref 21)] [] (v_mk s10) _
        refine s_ek_bk 2 (P := 97) (ls' := [(8, .int 0), (7, .int (((r1 * (9 : Int32)) + (r2 * (3 : Int32))) + r3)), (6, .int r3), (5, .int r2), (4, .int r1), (0, .ref a), (1, .ref 9), (2, .int c), (3, .ref 21)]) (st' := []) (M' := v_mk s10) rfl ?_
        refine v_ls (ls' := [(0, .ref a), (2, .int c), (3, .ref 21), (4, .int r1), (5, .int r2), (6, .int r3), (8, .int 0)]) ⟨rfl, rfl, rfl, rfl, rfl, rfl, rfl, trivial⟩ (show ([0, 2, 3, 4, 5, 6, 8] : List Nat).Nodup from by decide) ?_
        refine t_Lw_hear_L97 ha (by omega) (fun s11 h => ?_) 4096 _ _ h
        show s_Ek (s_rows 3 L xs) D s_e64.1 185 [] [] (v_mk s11) _
        obtain ⟨rfl, rfl⟩ := v_so h
        exact v_ret (fun _ => rfl)
    · refine v_i2t (T := 68) rfl rfl c5 ?_
      refine s_ek_bk 2 (P := 70) (ls' := [(7, .int (((r1 * (9 : Int32)) + (r2 * (3 : Int32))) + r3)), (6, .int r3), (5, .int r2), (4, .int r1), (0, .ref a), (1, .ref 9), (2, .int c), (3, .ref 21)]) (st' := [.int c, .ref a]) (M' := v_mk s3) rfl ?_
      obtain ⟨s12, es12, h⟩ := v_ld h
      refine v_pf (M' := v_mk s12) rfl (by rw [es12]; exact v_pi ha (v_tK (j := 7) v_is4 (by decide) ha) ⟨rfl, rfl, by decide⟩ rfl) ?_
      refine s_ek_bk 2 (P := 75) (ls' := [(7, .int (((r1 * (9 : Int32)) + (r2 * (3 : Int32))) + r3)), (6, .int r3), (5, .int r2), (4, .int r1), (0, .ref a), (1, .ref 9), (2, .int c), (3, .ref 21)]) (st' := [.ref a, .ref a]) (M' := v_mk s12) rfl ?_
      refine v_gf rfl (v_gi ha (v_tK (j := 1) v_is4 (by decide) ha) ⟨rfl, rfl, by decide⟩) ?_
      obtain ⟨s13, es13, h⟩ := v_ld h
      refine v_pf (M' := v_mk s13) rfl (by rw [es13]; exact v_pi ha (v_tK (j := 6) v_is4 (by decide) ha) ⟨rfl, rfl, by decide⟩ rfl) ?_
      refine s_ek_bk 2 (P := 84) (ls' := [(7, .int (((r1 * (9 : Int32)) + (r2 * (3 : Int32))) + r3)), (6, .int r3), (5, .int r2), (4, .int r1), (0, .ref a), (1, .ref 9), (2, .int c), (3, .ref 21)]) (st' := [.int (((r1 * (9 : Int32)) + (r2 * (3 : Int32))) + r3), .ref a]) (M' := v_mk s13) rfl ?_
      obtain ⟨s14, es14, h⟩ := v_ld h
      refine v_pf (M' := v_mk s14) rfl (by rw [es14]; exact v_pi ha (v_tK (j := 8) v_is4 (by decide) ha) ⟨rfl, rfl, by decide⟩ rfl) ?_
      refine s_ek_bk 1 (P := 88) (ls' := [(7, .int (((r1 * (9 : Int32)) + (r2 * (3 : Int32))) + r3)), (6, .int r3), (5, .int r2), (4, .int r1), (0, .ref a), (1, .ref 9), (2, .int c), (3, .ref 21)]) (st' := [.ref a]) (M' := v_mk s14) rfl ?_
      refine v_gf rfl (v_gr ha (v_rK v_r4_5 (by decide) ha).1 ⟨rfl, rfl, by decide⟩) ?_
      obtain ⟨r15, s15, e15, h⟩ := v_bd h
      refine v_cV (ν := s_e5.1) (w := 40) (a := (a + 4)) (as' := []) (r := []) (o := none) (by omega) rfl rfl rfl (v_mk_kd (k := 0) (v_rK v_r4_5 (by decide) ha).2.1 (by decide)) rfl (t_Cs_clear (v_rK v_r4_5 (by decide) ha).2.1 e15 (by omega)) ?_
      show s_Ek (s_rows 3 L xs) D s_e64.1 94 [(7, .int (((r1 * (9 : Int32)) + (r2 * (3 : Int32))) + r3)), (6, .int r3), (5, .int r2), (4, .int r1), (0, .ref a), (1, .ref 9), (2, .int c), (3, .ref 21)] [] (v_mk s15) _
      refine s_ek_bk 2 (P := 97) (ls' := [(8, .int 0), (7, .int (((r1 * (9 : Int32)) + (r2 * (3 : Int32))) + r3)), (6, .int r3), (5, .int r2), (4, .int r1), (0, .ref a), (1, .ref 9), (2, .int c), (3, .ref 21)]) (st' := []) (M' := v_mk s15) rfl ?_
      refine v_ls (ls' := [(0, .ref a), (2, .int c), (3, .ref 21), (4, .int r1), (5, .int r2), (6, .int r3), (8, .int 0)]) ⟨rfl, rfl, rfl, rfl, rfl, rfl, rfl, trivial⟩ (show ([0, 2, 3, 4, 5, 6, 8] : List Nat).Nodup from by decide) ?_
      refine t_Lw_hear_L97 ha (by omega) (fun s16 h => ?_) 4096 _ _ h
      show s_Ek (s_rows 3 L xs) D s_e64.1 185 [] [] (v_mk s16) _
      obtain ⟨rfl, rfl⟩ := v_so h
      exact v_ret (fun _ => rfl)
  · refine v_i2t (T := 68) rfl rfl c4 ?_
    refine s_ek_bk 2 (P := 70) (ls' := [(7, .int (((r1 * (9 : Int32)) + (r2 * (3 : Int32))) + r3)), (6, .int r3), (5, .int r2), (4, .int r1), (0, .ref a), (1, .ref 9), (2, .int c), (3, .ref 21)]) (st' := [.int c, .ref a]) (M' := v_mk s3) rfl ?_
    obtain ⟨s17, es17, h⟩ := v_ld h
    refine v_pf (M' := v_mk s17) rfl (by rw [es17]; exact v_pi ha (v_tK (j := 7) v_is4 (by decide) ha) ⟨rfl, rfl, by decide⟩ rfl) ?_
    refine s_ek_bk 2 (P := 75) (ls' := [(7, .int (((r1 * (9 : Int32)) + (r2 * (3 : Int32))) + r3)), (6, .int r3), (5, .int r2), (4, .int r1), (0, .ref a), (1, .ref 9), (2, .int c), (3, .ref 21)]) (st' := [.ref a, .ref a]) (M' := v_mk s17) rfl ?_
    refine v_gf rfl (v_gi ha (v_tK (j := 1) v_is4 (by decide) ha) ⟨rfl, rfl, by decide⟩) ?_
    obtain ⟨s18, es18, h⟩ := v_ld h
    refine v_pf (M' := v_mk s18) rfl (by rw [es18]; exact v_pi ha (v_tK (j := 6) v_is4 (by decide) ha) ⟨rfl, rfl, by decide⟩ rfl) ?_
    refine s_ek_bk 2 (P := 84) (ls' := [(7, .int (((r1 * (9 : Int32)) + (r2 * (3 : Int32))) + r3)), (6, .int r3), (5, .int r2), (4, .int r1), (0, .ref a), (1, .ref 9), (2, .int c), (3, .ref 21)]) (st' := [.int (((r1 * (9 : Int32)) + (r2 * (3 : Int32))) + r3), .ref a]) (M' := v_mk s18) rfl ?_
    obtain ⟨s19, es19, h⟩ := v_ld h
    refine v_pf (M' := v_mk s19) rfl (by rw [es19]; exact v_pi ha (v_tK (j := 8) v_is4 (by decide) ha) ⟨rfl, rfl, by decide⟩ rfl) ?_
    refine s_ek_bk 1 (P := 88) (ls' := [(7, .int (((r1 * (9 : Int32)) + (r2 * (3 : Int32))) + r3)), (6, .int r3), (5, .int r2), (4, .int r1), (0, .ref a), (1, .ref 9), (2, .int c), (3, .ref 21)]) (st' := [.ref a]) (M' := v_mk s19) rfl ?_
    refine v_gf rfl (v_gr ha (v_rK v_r4_5 (by decide) ha).1 ⟨rfl, rfl, by decide⟩) ?_
    obtain ⟨r20, s20, e20, h⟩ := v_bd h
    refine v_cV (ν := s_e5.1) (w := 40) (a := (a + 4)) (as' := []) (r := []) (o := none) (by omega) rfl rfl rfl (v_mk_kd (k := 0) (v_rK v_r4_5 (by decide) ha).2.1 (by decide)) rfl (t_Cs_clear (v_rK v_r4_5 (by decide) ha).2.1 e20 (by omega)) ?_
    show s_Ek (s_rows 3 L xs) D s_e64.1 94 [(7, .int (((r1 * (9 : Int32)) + (r2 * (3 : Int32))) + r3)), (6, .int r3), (5, .int r2), (4, .int r1), (0, .ref a), (1, .ref 9), (2, .int c), (3, .ref 21)] [] (v_mk s20) _
    refine s_ek_bk 2 (P := 97) (ls' := [(8, .int 0), (7, .int (((r1 * (9 : Int32)) + (r2 * (3 : Int32))) + r3)), (6, .int r3), (5, .int r2), (4, .int r1), (0, .ref a), (1, .ref 9), (2, .int c), (3, .ref 21)]) (st' := []) (M' := v_mk s20) rfl ?_
    refine v_ls (ls' := [(0, .ref a), (2, .int c), (3, .ref 21), (4, .int r1), (5, .int r2), (6, .int r3), (8, .int 0)]) ⟨rfl, rfl, rfl, rfl, rfl, rfl, rfl, trivial⟩ (show ([0, 2, 3, 4, 5, 6, 8] : List Nat).Nodup from by decide) ?_
    refine t_Lw_hear_L97 ha (by omega) (fun s21 h => ?_) 4096 _ _ h
    show s_Ek (s_rows 3 L xs) D s_e64.1 185 [] [] (v_mk s21) _
    obtain ⟨rfl, rfl⟩ := v_so h
    exact v_ret (fun _ => rfl)
noncomputable def f_Ct_hear_L2b (k36 : vS → Option (Unit × vS)) (again : Int32 → vS → Option (Unit × vS)) (v1 : Int32) (s : vS) : Option (Unit × vS) := (if (s.1 8 1).toInt ≤ v1.toInt then (k36 s) else (v_bi (f_Ct_at v1 s) (fun r102 s102 => if v_kd r102 = 4 then (v_bi (f_Lw_hear r102 (s102.1 8 3) s102) (fun _ s104 => (again (v1 + 1) s104))) else none)))
noncomputable def f_Ct_hear_L2 (k36 : vS → Option (Unit × vS)) (n : Nat) : Int32 → vS → Option (Unit × vS) := Nat.rec (motive := fun _ => Int32 → vS → Option (Unit × vS)) (fun _ _ => none) (fun _ again => f_Ct_hear_L2b k36 again) n
noncomputable def f_Ct_hear (s : vS) : Option (Unit × vS) := (f_Ct_hear_L2 (fun s1 => (v_bi (f_Ct_sortByAge s1) (fun _ s2 => (v_bi (f_Ct_standWithout 0 s2) (fun _ s3 => (some ((), s3))))))) 4096 0 s)
set_option maxRecDepth 20000 in
set_option maxHeartbeats 4000000 in
theorem t_Ct_hear_L2 {L : Nat} {xs : Nat → Int32} {k36 : vS → Option (Unit × vS)} {D : Nat} (hD : 5 ≤ D) {r : Unit} {s' : vS} (hk36 : ∀ (s : vS), k36 s = some (r, s') → s_Ek (s_rows 3 L xs) D s_e48.1 36 [(0, .ref 8)] [] (v_mk s) (v_Q none s')) : ∀ (n : Nat) (v1 : Int32) (s : vS), f_Ct_hear_L2 k36 n v1 s = some (r, s') → s_Ek (s_rows 3 L xs) D s_e48.1 2 [(0, .ref 8), (1, .int v1)] [] (v_mk s) (v_Q none s') := by
  intro n
  induction n with
  | zero => intro v1 s h; exact nomatch (show (none : Option (Unit × vS)) = some (r, s') from h)
  | succ n ih =>
    intro v1 s h
    replace h : f_Ct_hear_L2b k36 (f_Ct_hear_L2 k36 n) v1 s = some (r, s') := h
    unfold f_Ct_hear_L2b at h
    refine s_ek_bk 2 (P := 4) (ls' := [(0, .ref 8), (1, .int v1)]) (st' := [.ref 8, .int v1]) (M' := v_mk s) rfl ?_
    refine v_gf rfl (v_gi (rfl : v_kd 8 = 3) rfl ⟨rfl, rfl, by decide⟩) ?_
    rcases v_if h with ⟨c101, h⟩ | ⟨c101, h⟩
    · refine v_i2t (T := 36) rfl rfl c101 ?_
      refine v_ls (ls' := [(0, .ref 8)]) ⟨rfl, trivial⟩ (show ([0] : List Nat).Nodup from by decide) ?_
      exact hk36 _ h
    · refine v_i2f (T := 36) rfl rfl c101 ?_
      refine s_ek_bk 2 (P := 12) (ls' := [(0, .ref 8), (1, .int v1)]) (st' := [.int v1, .ref 8]) (M' := v_mk s) rfl ?_
      obtain ⟨r102, s102, e102, h⟩ := v_bd h
      refine v_cV (ν := s_e41.1) (w := 329) (a := 8) (as' := [.int v1]) (r := []) (o := some (.ref r102)) (by omega) rfl rfl rfl (v_mk_kd (k := 3) (rfl : v_kd 8 = 3) (by decide)) rfl (t_Ct_at e102 (by omega)) ?_
      obtain ⟨c103, h⟩ := v_ck h
      show s_Ek (s_rows 3 L xs) D s_e48.1 15 [(0, .ref 8), (1, .int v1)] [.ref r102] (v_mk s102) _
      refine s_ek_bk 1 (P := 16) (ls' := [(0, .ref 8), (1, .int v1)]) (st' := [.ref 8, .ref r102]) (M' := v_mk s102) rfl ?_
      refine v_gf rfl (v_gr (rfl : v_kd 8 = 3) (rfl : v_sl 8 0 = .ref 9) ⟨rfl, rfl, by decide⟩) ?_
      refine s_ek_bk 1 (P := 20) (ls' := [(0, .ref 8), (1, .int v1)]) (st' := [.ref 8, .ref 9, .ref r102]) (M' := v_mk s102) rfl ?_
      refine v_gf rfl (v_gi (rfl : v_kd 8 = 3) rfl ⟨rfl, rfl, by decide⟩) ?_
      refine s_ek_bk 1 (P := 24) (ls' := [(0, .ref 8), (1, .int v1)]) (st' := [.ref 8, .int (s102.1 8 3), .ref 9, .ref r102]) (M' := v_mk s102) rfl ?_
      refine v_gf rfl (v_gr (rfl : v_kd 8 = 3) (rfl : v_sl 8 8 = .ref 21) ⟨rfl, rfl, by decide⟩) ?_
      obtain ⟨r104, s104, e104, h⟩ := v_bd h
      refine v_cV (ν := s_e64.1) (w := 515) (a := r102) (as' := [.ref 9, .int (s102.1 8 3), .ref 21]) (r := []) (o := none) (by omega) rfl rfl rfl (v_mk_kd (k := 4) c103 (by decide)) rfl (t_Lw_hear c103 e104 (by omega)) ?_
      show s_Ek (s_rows 3 L xs) D s_e48.1 30 [(0, .ref 8), (1, .int v1)] [] (v_mk s104) _
      refine s_ek_bk 2 (P := 2) (ls' := [(1, .int (v1 + 1)), (0, .ref 8)]) (st' := []) (M' := v_mk s104) rfl ?_
      refine v_ls (ls' := [(0, .ref 8), (1, .int (v1 + 1))]) ⟨rfl, rfl, trivial⟩ (show ([0, 1] : List Nat).Nodup from by decide) ?_
      exact ih _ _ h
set_option maxRecDepth 20000 in
set_option maxHeartbeats 4000000 in
theorem t_Ct_hear {L : Nat} {xs : Nat → Int32} {D : Nat} {r : Unit} {s s' : vS} (h : f_Ct_hear s = some (r, s')) (hD : 5 ≤ D) : s_Ek (s_rows 3 L xs) D s_e48.1 0 (lv_args 0 [.ref 8]) [] (v_mk s) (v_Q none s') := by
  unfold f_Ct_hear at h
  show s_Ek (s_rows 3 L xs) D s_e48.1 0 [(0, .ref 8)] [] (v_mk s) _
  refine s_ek_bk 2 (P := 2) (ls' := [(1, .int 0), (0, .ref 8)]) (st' := []) (M' := v_mk s) rfl ?_
  refine v_ls (ls' := [(0, .ref 8), (1, .int 0)]) ⟨rfl, rfl, trivial⟩ (show ([0, 1] : List Nat).Nodup from by decide) ?_
  refine t_Ct_hear_L2 (by omega) (fun s1 h => ?_) 4096 _ _ h
  show s_Ek (s_rows 3 L xs) D s_e48.1 36 [(0, .ref 8)] [] (v_mk s1) _
  refine s_ek_bk 1 (P := 37) (ls' := [(0, .ref 8)]) (st' := [.ref 8]) (M' := v_mk s1) rfl ?_
  obtain ⟨r2, s2, e2, h⟩ := v_bd h
  refine v_cV (ν := s_e49.1) (w := 392) (a := 8) (as' := []) (r := []) (o := none) (by omega) rfl rfl rfl (v_mk_kd (k := 3) (rfl : v_kd 8 = 3) (by decide)) rfl (t_Ct_sortByAge e2 (by omega)) ?_
  show s_Ek (s_rows 3 L xs) D s_e48.1 40 [(0, .ref 8)] [] (v_mk s2) _
  refine s_ek_bk 2 (P := 42) (ls' := [(0, .ref 8)]) (st' := [.int 0, .ref 8]) (M' := v_mk s2) rfl ?_
  obtain ⟨r3, s3, e3, h⟩ := v_bd h
  refine v_cV (ν := s_e50.1) (w := 401) (a := 8) (as' := [.int 0]) (r := []) (o := none) (by omega) rfl rfl rfl (v_mk_kd (k := 3) (rfl : v_kd 8 = 3) (by decide)) rfl (t_Ct_standWithout e3 (by omega)) ?_
  show s_Ek (s_rows 3 L xs) D s_e48.1 45 [(0, .ref 8)] [] (v_mk s3) _
  obtain ⟨rfl, rfl⟩ := v_so h
  exact v_ret (fun _ => rfl)
noncomputable def f_Ct_isStanding (b : Int32) (s : vS) : Option (Int32 × vS) := (v_bi (f_Ct_knows b s) (fun r1 s1 => (if r1.toInt = 0 then (some (0, s1)) else (if (((s1.1 8 4) >>> (b &&& 31)) &&& (1 : Int32)).toInt = 0 then (some (0, s1)) else (some (1, s1))))))
set_option maxRecDepth 20000 in
set_option maxHeartbeats 4000000 in
theorem t_Ct_isStanding {L : Nat} {xs : Nat → Int32} {b : Int32} {D : Nat} {r : Int32} {s s' : vS} (h : f_Ct_isStanding b s = some (r, s')) (hD : 1 ≤ D) : s_Ek (s_rows 3 L xs) D s_e51.1 0 (lv_args 0 [.ref 8, .int b]) [] (v_mk s) (v_Q (some (.int r)) s') := by
  unfold f_Ct_isStanding at h
  show s_Ek (s_rows 3 L xs) D s_e51.1 0 [(0, .ref 8), (1, .int b)] [] (v_mk s) _
  refine s_ek_bk 2 (P := 2) (ls' := [(0, .ref 8), (1, .int b)]) (st' := [.int b, .ref 8]) (M' := v_mk s) rfl ?_
  obtain ⟨r1, s1, e1, h⟩ := v_bd h
  refine v_cV (ν := s_e40.1) (w := 321) (a := 8) (as' := [.int b]) (r := []) (o := some (.int r1)) (by omega) rfl rfl rfl (v_mk_kd (k := 3) (rfl : v_kd 8 = 3) (by decide)) rfl (t_Ct_knows e1 (by omega)) ?_
  show s_Ek (s_rows 3 L xs) D s_e51.1 5 [(0, .ref 8), (1, .int b)] [.int r1] (v_mk s1) _
  rcases v_if h with ⟨c2, h⟩ | ⟨c2, h⟩
  · refine v_i1t (T := 23) rfl rfl c2 ?_
    refine s_ek_bk 1 (P := 24) (ls' := [(0, .ref 8), (1, .int b)]) (st' := [.int 0]) (M' := v_mk s1) rfl ?_
    obtain ⟨rfl, rfl⟩ := v_so h
    exact v_ret (fun _ => rfl)
  · refine v_i1f (T := 23) rfl rfl c2 ?_
    refine s_ek_bk 1 (P := 9) (ls' := [(0, .ref 8), (1, .int b)]) (st' := [.ref 8]) (M' := v_mk s1) rfl ?_
    refine v_gf rfl (v_gi (rfl : v_kd 8 = 3) rfl ⟨rfl, rfl, by decide⟩) ?_
    refine s_ek_bk 4 (P := 16) (ls' := [(0, .ref 8), (1, .int b)]) (st' := [.int (((s1.1 8 4) >>> (b &&& 31)) &&& (1 : Int32))]) (M' := v_mk s1) rfl ?_
    rcases v_if h with ⟨c3, h⟩ | ⟨c3, h⟩
    · refine v_i1t (T := 23) rfl rfl c3 ?_
      refine s_ek_bk 1 (P := 24) (ls' := [(0, .ref 8), (1, .int b)]) (st' := [.int 0]) (M' := v_mk s1) rfl ?_
      obtain ⟨rfl, rfl⟩ := v_so h
      exact v_ret (fun _ => rfl)
    · refine v_i1f (T := 23) rfl rfl c3 ?_
      refine s_ek_bk 2 (P := 24) (ls' := [(0, .ref 8), (1, .int b)]) (st' := [.int 1]) (M' := v_mk s1) rfl ?_
      obtain ⟨rfl, rfl⟩ := v_so h
      exact v_ret (fun _ => rfl)
noncomputable def f_Lw_hardness (a : Nat) (s : vS) : Option (Int32 × vS) := (if (s.1 a 2).toInt = 1 then (some (0, s)) else (if (s.1 a 2).toInt = 0 then (some (1, s)) else (some (2, s))))
set_option maxRecDepth 20000 in
set_option maxHeartbeats 4000000 in
theorem t_Lw_hardness {L : Nat} {xs : Nat → Int32} {a : Nat} (ha : v_kd a = 4) {D : Nat} {r : Int32} {s s' : vS} (h : f_Lw_hardness a s = some (r, s')) (hD : 0 ≤ D) : s_Ek (s_rows 3 L xs) D s_e63.1 0 (lv_args 0 [.ref a]) [] (v_mk s) (v_Q (some (.int r)) s') := by
  unfold f_Lw_hardness at h
  show s_Ek (s_rows 3 L xs) D s_e63.1 0 [(0, .ref a)] [] (v_mk s) _
  refine s_ek_bk 1 (P := 1) (ls' := [(0, .ref a)]) (st' := [.ref a]) (M' := v_mk s) rfl ?_
  refine v_gf rfl (v_gi ha (v_tK (j := 2) v_is4 (by decide) ha) ⟨rfl, rfl, by decide⟩) ?_
  refine s_ek_bk 1 (P := 5) (ls' := [(0, .ref a)]) (st' := [.int 1, .int (s.1 a 2)]) (M' := v_mk s) rfl ?_
  rcases v_if h with ⟨c1, h⟩ | ⟨c1, h⟩
  · refine v_i2f (T := 10) rfl rfl (fun q => q c1) ?_
    refine s_ek_bk 1 (P := 9) (ls' := [(0, .ref a)]) (st' := [.int 0]) (M' := v_mk s) rfl ?_
    obtain ⟨rfl, rfl⟩ := v_so h
    exact v_ret (fun _ => rfl)
  · refine v_i2t (T := 10) rfl rfl c1 ?_
    refine s_ek_bk 1 (P := 11) (ls' := [(0, .ref a)]) (st' := [.ref a]) (M' := v_mk s) rfl ?_
    refine v_gf rfl (v_gi ha (v_tK (j := 2) v_is4 (by decide) ha) ⟨rfl, rfl, by decide⟩) ?_
    rcases v_if h with ⟨c2, h⟩ | ⟨c2, h⟩
    · refine v_i1f (T := 21) rfl rfl (fun q => q c2) ?_
      refine s_ek_bk 2 (P := 22) (ls' := [(0, .ref a)]) (st' := [.int 1]) (M' := v_mk s) rfl ?_
      obtain ⟨rfl, rfl⟩ := v_so h
      exact v_ret (fun _ => rfl)
    · refine v_i1t (T := 21) rfl rfl c2 ?_
      refine s_ek_bk 1 (P := 22) (ls' := [(0, .ref a)]) (st' := [.int 2]) (M' := v_mk s) rfl ?_
      obtain ⟨rfl, rfl⟩ := v_so h
      exact v_ret (fun _ => rfl)
noncomputable def f_Lw_goesAhead (a : Nat) (b : Nat) (c : Int32) (s : vS) : Option (Int32 × vS) := (if c.toInt = 1 then (v_bi (f_Lw_isOlderThan b a s) (fun r2 s2 => (if r2 = 0 ∨ r2 = 1 then some (r2, s2) else none))) else (if c.toInt = 2 then (v_bi (f_Cs_size (a + 4) s) (fun r5 s5 => (v_bi (f_Cs_size (b + 4) s5) (fun r6 s6 => (if (r5 - r6).toInt < 0 then (some (1, s6)) else (if (r5 - r6).toInt = 0 then (v_bi (f_Lw_isOlderThan a b s6) (fun r9 s9 => (if r9.toInt = 0 then (some (0, s9)) else (some (1, s9))))) else (some (0, s6)))))))) else (if c.toInt = 3 then (v_bi (f_Lw_hardness a s) (fun r12 s12 => (v_bi (f_Lw_hardness b s12) (fun r13 s13 => (if (r12 - r13).toInt < 0 then (some (1, s13)) else (if (r12 - r13).toInt = 0 then (v_bi (f_Lw_isOlderThan a b s13) (fun r16 s16 => (if r16.toInt = 0 then (some (0, s16)) else (some (1, s16))))) else (some (0, s13)))))))) else (v_bi (f_Lw_isOlderThan a b s) (fun r18 s18 => (if r18.toInt = 0 then (some (0, s18)) else (some (1, s18))))))))
set_option maxRecDepth 20000 in
set_option maxHeartbeats 4000000 in
theorem t_Lw_goesAhead {L : Nat} {xs : Nat → Int32} {a : Nat} {b : Nat} {c : Int32} (ha : v_kd a = 4) (hb : v_kd b = 4) {D : Nat} {r : Int32} {s s' : vS} (h : f_Lw_goesAhead a b c s = some (r, s')) (hD : 2 ≤ D) : s_Ek (s_rows 3 L xs) D s_e62.1 0 (lv_args 0 [.ref a, .ref b, .int c]) [] (v_mk s) (v_Q (some (.int r)) s') := by
  unfold f_Lw_goesAhead at h
  show s_Ek (s_rows 3 L xs) D s_e62.1 0 [(0, .ref a), (1, .ref b), (2, .int c)] [] (v_mk s) _
  refine s_ek_bk 4 (P := 4) (ls' := [(3, .int 0), (0, .ref a), (1, .ref b), (2, .int c)]) (st' := [.int 1, .int c]) (M' := v_mk s) rfl ?_
  rcases v_if h with ⟨c1, h⟩ | ⟨c1, h⟩
  · refine v_i2f (T := 13) rfl rfl (fun q => q c1) ?_
    refine s_ek_bk 2 (P := 9) (ls' := [(3, .int 0), (0, .ref a), (1, .ref b), (2, .int c)]) (st' := [.ref a, .ref b]) (M' := v_mk s) rfl ?_
    obtain ⟨r2, s2, e2, h⟩ := v_bd h
    refine v_cV (ν := s_e61.1) (w := 489) (a := b) (as' := [.ref a]) (r := []) (o := some (.int r2)) (by omega) rfl rfl rfl (v_mk_kd (k := 4) hb (by decide)) rfl (t_Lw_isOlderThan hb ha e2 (by omega)) ?_
    show s_Ek (s_rows 3 L xs) D s_e62.1 12 [(3, .int 0), (0, .ref a), (1, .ref b), (2, .int c)] [.int r2] (v_mk s2) _
    obtain ⟨c3, h⟩ := v_ck h
    obtain ⟨rfl, rfl⟩ := v_so h
    exact v_zret rfl rfl c3
  · refine v_i2t (T := 13) rfl rfl c1 ?_
    refine s_ek_bk 2 (P := 15) (ls' := [(3, .int 0), (0, .ref a), (1, .ref b), (2, .int c)]) (st' := [.int 2, .int c]) (M' := v_mk s) rfl ?_
    rcases v_if h with ⟨c4, h⟩ | ⟨c4, h⟩
    · refine v_i2f (T := 37) rfl rfl (fun q => q c4) ?_
      refine s_ek_bk 1 (P := 19) (ls' := [(3, .int 0), (0, .ref a), (1, .ref b), (2, .int c)]) (st' := [.ref a]) (M' := v_mk s) rfl ?_
      refine v_gf rfl (v_gr ha (v_rK v_r4_5 (by decide) ha).1 ⟨rfl, rfl, by decide⟩) ?_
      obtain ⟨r5, s5, e5, h⟩ := v_bd h
      refine v_cV (ν := s_e10.1) (w := 80) (a := (a + 4)) (as' := []) (r := []) (o := some (.int r5)) (by omega) rfl rfl rfl (v_mk_kd (k := 0) (v_rK v_r4_5 (by decide) ha).2.1 (by decide)) rfl (t_Cs_size (v_rK v_r4_5 (by decide) ha).2.1 e5 (by omega)) ?_
      show s_Ek (s_rows 3 L xs) D s_e62.1 25 [(3, .int 0), (0, .ref a), (1, .ref b), (2, .int c)] [.int r5] (v_mk s5) _
      refine s_ek_bk 1 (P := 26) (ls' := [(3, .int 0), (0, .ref a), (1, .ref b), (2, .int c)]) (st' := [.ref b, .int r5]) (M' := v_mk s5) rfl ?_
      refine v_gf rfl (v_gr hb (v_rK v_r4_5 (by decide) hb).1 ⟨rfl, rfl, by decide⟩) ?_
      obtain ⟨r6, s6, e6, h⟩ := v_bd h
      refine v_cV (ν := s_e10.1) (w := 80) (a := (b + 4)) (as' := []) (r := [.int r5]) (o := some (.int r6)) (by omega) rfl rfl rfl (v_mk_kd (k := 0) (v_rK v_r4_5 (by decide) hb).2.1 (by decide)) rfl (t_Cs_size (v_rK v_r4_5 (by decide) hb).2.1 e6 (by omega)) ?_
      show s_Ek (s_rows 3 L xs) D s_e62.1 32 [(3, .int 0), (0, .ref a), (1, .ref b), (2, .int c)] [.int r6, .int r5] (v_mk s6) _
      refine s_ek_bk 4 (P := 53) (ls' := [(3, .int (r5 - r6)), (0, .ref a), (1, .ref b), (2, .int c)]) (st' := [.int (r5 - r6)]) (M' := v_mk s6) rfl ?_
      rcases v_if h with ⟨c7, h⟩ | ⟨c7, h⟩
      · refine v_i1t (T := 68) rfl rfl c7 ?_
        refine s_ek_bk 2 (P := 73) (ls' := [(3, .int (r5 - r6)), (0, .ref a), (1, .ref b), (2, .int c)]) (st' := [.int 1]) (M' := v_mk s6) rfl ?_
        obtain ⟨rfl, rfl⟩ := v_so h
        exact v_ret (fun _ => rfl)
      · refine v_i1f (T := 68) rfl rfl c7 ?_
        refine s_ek_bk 1 (P := 57) (ls' := [(3, .int (r5 - r6)), (0, .ref a), (1, .ref b), (2, .int c)]) (st' := [.int (r5 - r6)]) (M' := v_mk s6) rfl ?_
        rcases v_if h with ⟨c8, h⟩ | ⟨c8, h⟩
        · refine v_i1f (T := 72) rfl rfl (fun q => q c8) ?_
          refine s_ek_bk 2 (P := 62) (ls' := [(3, .int (r5 - r6)), (0, .ref a), (1, .ref b), (2, .int c)]) (st' := [.ref b, .ref a]) (M' := v_mk s6) rfl ?_
          obtain ⟨r9, s9, e9, h⟩ := v_bd h
          refine v_cV (ν := s_e61.1) (w := 489) (a := a) (as' := [.ref b]) (r := []) (o := some (.int r9)) (by omega) rfl rfl rfl (v_mk_kd (k := 4) ha (by decide)) rfl (t_Lw_isOlderThan ha hb e9 (by omega)) ?_
          show s_Ek (s_rows 3 L xs) D s_e62.1 65 [(3, .int (r5 - r6)), (0, .ref a), (1, .ref b), (2, .int c)] [.int r9] (v_mk s9) _
          rcases v_if h with ⟨c10, h⟩ | ⟨c10, h⟩
          · refine v_i1t (T := 72) rfl rfl c10 ?_
            refine s_ek_bk 1 (P := 73) (ls' := [(3, .int (r5 - r6)), (0, .ref a), (1, .ref b), (2, .int c)]) (st' := [.int 0]) (M' := v_mk s9) rfl ?_
            obtain ⟨rfl, rfl⟩ := v_so h
            exact v_ret (fun _ => rfl)
          · refine v_i1f (T := 72) rfl rfl c10 ?_
            refine s_ek_bk 2 (P := 73) (ls' := [(3, .int (r5 - r6)), (0, .ref a), (1, .ref b), (2, .int c)]) (st' := [.int 1]) (M' := v_mk s9) rfl ?_
            obtain ⟨rfl, rfl⟩ := v_so h
            exact v_ret (fun _ => rfl)
        · refine v_i1t (T := 72) rfl rfl c8 ?_
          refine s_ek_bk 1 (P := 73) (ls' := [(3, .int (r5 - r6)), (0, .ref a), (1, .ref b), (2, .int c)]) (st' := [.int 0]) (M' := v_mk s6) rfl ?_
          obtain ⟨rfl, rfl⟩ := v_so h
          exact v_ret (fun _ => rfl)
    · refine v_i2t (T := 37) rfl rfl c4 ?_
      refine s_ek_bk 2 (P := 39) (ls' := [(3, .int 0), (0, .ref a), (1, .ref b), (2, .int c)]) (st' := [.int 3, .int c]) (M' := v_mk s) rfl ?_
      rcases v_if h with ⟨c11, h⟩ | ⟨c11, h⟩
      · refine v_i2f (T := 52) rfl rfl (fun q => q c11) ?_
        refine s_ek_bk 1 (P := 43) (ls' := [(3, .int 0), (0, .ref a), (1, .ref b), (2, .int c)]) (st' := [.ref a]) (M' := v_mk s) rfl ?_
        obtain ⟨r12, s12, e12, h⟩ := v_bd h
        refine v_cV (ν := s_e63.1) (w := 504) (a := a) (as' := []) (r := []) (o := some (.int r12)) (by omega) rfl rfl rfl (v_mk_kd (k := 4) ha (by decide)) rfl (t_Lw_hardness ha e12 (by omega)) ?_
        show s_Ek (s_rows 3 L xs) D s_e62.1 46 [(3, .int 0), (0, .ref a), (1, .ref b), (2, .int c)] [.int r12] (v_mk s12) _
        refine s_ek_bk 1 (P := 47) (ls' := [(3, .int 0), (0, .ref a), (1, .ref b), (2, .int c)]) (st' := [.ref b, .int r12]) (M' := v_mk s12) rfl ?_
        obtain ⟨r13, s13, e13, h⟩ := v_bd h
        refine v_cV (ν := s_e63.1) (w := 504) (a := b) (as' := []) (r := [.int r12]) (o := some (.int r13)) (by omega) rfl rfl rfl (v_mk_kd (k := 4) hb (by decide)) rfl (t_Lw_hardness hb e13 (by omega)) ?_
        show s_Ek (s_rows 3 L xs) D s_e62.1 50 [(3, .int 0), (0, .ref a), (1, .ref b), (2, .int c)] [.int r13, .int r12] (v_mk s13) _
        refine s_ek_bk 3 (P := 53) (ls' := [(3, .int (r12 - r13)), (0, .ref a), (1, .ref b), (2, .int c)]) (st' := [.int (r12 - r13)]) (M' := v_mk s13) rfl ?_
        rcases v_if h with ⟨c14, h⟩ | ⟨c14, h⟩
        · refine v_i1t (T := 68) rfl rfl c14 ?_
          refine s_ek_bk 2 (P := 73) (ls' := [(3, .int (r12 - r13)), (0, .ref a), (1, .ref b), (2, .int c)]) (st' := [.int 1]) (M' := v_mk s13) rfl ?_
          obtain ⟨rfl, rfl⟩ := v_so h
          exact v_ret (fun _ => rfl)
        · refine v_i1f (T := 68) rfl rfl c14 ?_
          refine s_ek_bk 1 (P := 57) (ls' := [(3, .int (r12 - r13)), (0, .ref a), (1, .ref b), (2, .int c)]) (st' := [.int (r12 - r13)]) (M' := v_mk s13) rfl ?_
          rcases v_if h with ⟨c15, h⟩ | ⟨c15, h⟩
          · refine v_i1f (T := 72) rfl rfl (fun q => q c15) ?_
            refine s_ek_bk 2 (P := 62) (ls' := [(3, .int (r12 - r13)), (0, .ref a), (1, .ref b), (2, .int c)]) (st' := [.ref b, .ref a]) (M' := v_mk s13) rfl ?_
            obtain ⟨r16, s16, e16, h⟩ := v_bd h
            refine v_cV (ν := s_e61.1) (w := 489) (a := a) (as' := [.ref b]) (r := []) (o := some (.int r16)) (by omega) rfl rfl rfl (v_mk_kd (k := 4) ha (by decide)) rfl (t_Lw_isOlderThan ha hb e16 (by omega)) ?_
            show s_Ek (s_rows 3 L xs) D s_e62.1 65 [(3, .int (r12 - r13)), (0, .ref a), (1, .ref b), (2, .int c)] [.int r16] (v_mk s16) _
            rcases v_if h with ⟨c17, h⟩ | ⟨c17, h⟩
            · refine v_i1t (T := 72) rfl rfl c17 ?_
              refine s_ek_bk 1 (P := 73) (ls' := [(3, .int (r12 - r13)), (0, .ref a), (1, .ref b), (2, .int c)]) (st' := [.int 0]) (M' := v_mk s16) rfl ?_
              obtain ⟨rfl, rfl⟩ := v_so h
              exact v_ret (fun _ => rfl)
            · refine v_i1f (T := 72) rfl rfl c17 ?_
              refine s_ek_bk 2 (P := 73) (ls' := [(3, .int (r12 - r13)), (0, .ref a), (1, .ref b), (2, .int c)]) (st' := [.int 1]) (M' := v_mk s16) rfl ?_
              obtain ⟨rfl, rfl⟩ := v_so h
              exact v_ret (fun _ => rfl)
          · refine v_i1t (T := 72) rfl rfl c15 ?_
            refine s_ek_bk 1 (P := 73) (ls' := [(3, .int (r12 - r13)), (0, .ref a), (1, .ref b), (2, .int c)]) (st' := [.int 0]) (M' := v_mk s13) rfl ?_
            obtain ⟨rfl, rfl⟩ := v_so h
            exact v_ret (fun _ => rfl)
      · refine v_i2t (T := 52) rfl rfl c11 ?_
        refine s_ek_bk 6 (P := 62) (ls' := [(3, .int 0), (0, .ref a), (1, .ref b), (2, .int c)]) (st' := [.ref b, .ref a]) (M' := v_mk s) rfl ?_
        obtain ⟨r18, s18, e18, h⟩ := v_bd h
        refine v_cV (ν := s_e61.1) (w := 489) (a := a) (as' := [.ref b]) (r := []) (o := some (.int r18)) (by omega) rfl rfl rfl (v_mk_kd (k := 4) ha (by decide)) rfl (t_Lw_isOlderThan ha hb e18 (by omega)) ?_
        show s_Ek (s_rows 3 L xs) D s_e62.1 65 [(3, .int 0), (0, .ref a), (1, .ref b), (2, .int c)] [.int r18] (v_mk s18) _
        rcases v_if h with ⟨c19, h⟩ | ⟨c19, h⟩
        · refine v_i1t (T := 72) rfl rfl c19 ?_
          refine s_ek_bk 1 (P := 73) (ls' := [(3, .int 0), (0, .ref a), (1, .ref b), (2, .int c)]) (st' := [.int 0]) (M' := v_mk s18) rfl ?_
          obtain ⟨rfl, rfl⟩ := v_so h
          exact v_ret (fun _ => rfl)
        · refine v_i1f (T := 72) rfl rfl c19 ?_
          refine s_ek_bk 2 (P := 73) (ls' := [(3, .int 0), (0, .ref a), (1, .ref b), (2, .int c)]) (st' := [.int 1]) (M' := v_mk s18) rfl ?_
          obtain ⟨rfl, rfl⟩ := v_so h
          exact v_ret (fun _ => rfl)
