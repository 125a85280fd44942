/-! functions over the store, and the runs that they stand for: Md_bars Md_keepVerdicts Md_unlikeNow Md_meant Md_falseOnes Md_under Md_unlike Md_struckBy Md_rings Md_image Md_back Md_isBody Md_ran -/
noncomputable def f_Md_bars_L51b (p1 : Int32) (k108 : Int32 → vS → Option (Int32 × vS)) (k139 : vS → Option (Int32 × vS)) (again : Int32 → vS → Option (Int32 × vS)) (v4 : Int32) (s : vS) : Option (Int32 × vS) := (if v_in p1 6 then (if (s.1 182 (Int32.toNatClampNeg p1)).toInt ≤ ((2 : Int32) * v4).toInt then (k139 s) else (v_bi (f_Md_isTwo p1 v4 s) (fun r112 s112 => (if r112.toInt = 0 then (some ((-2), s112)) else (v_bi (f_Md_caseAt p1 v4 s112) (fun r114 s114 => (v_bi (f_Md_caseOf r114 s114) (fun r115 s115 => (v_bi (f_Md_dueAt p1 v4 s115) (fun r116 s116 => (v_bi (f_Md_canBe r115 r116 s116) (fun r117 s117 => (if r117.toInt = 0 then (k108 r115 s117) else (again (v4 + 1) s117)))))))))))))) else none)
noncomputable def f_Md_bars_L51 (p1 : Int32) (k108 : Int32 → vS → Option (Int32 × vS)) (k139 : vS → Option (Int32 × vS)) (n : Nat) : Int32 → vS → Option (Int32 × vS) := Nat.rec (motive := fun _ => Int32 → vS → Option (Int32 × vS)) (fun _ _ => none) (fun _ again => f_Md_bars_L51b p1 k108 k139 again) n
noncomputable def f_Md_bars (b : Int32) (c : Int32) (d : Int32) (s : vS) : Option (Int32 × vS) := (v_bi (f_Md_isShelf b s) (fun r1 s1 => (if r1.toInt = 0 then (some ((-1), s1)) else (v_bi (f_Md_in c 0 99 s1) (fun r3 s3 => (if r3.toInt = 0 then (some ((-1), s3)) else (v_bi (f_Md_in d 0 2 s3) (fun r5 s5 => (if r5.toInt = 0 then (some ((-1), s5)) else (v_bi (f_Md_rowFault b s5) (fun r7 s7 => (if 0 ≤ r7.toInt then (v_bi (f_Md_writes c d s7) (fun _ s9 => (f_Md_bars_L51 b (fun w10 s11 => (v_bi (f_Md_holder w10 (s11.1 151 18) s11) (fun r13 s13 => (if 0 ≤ r13.toInt then (some (r13, s13)) else (some ((-2), s13)))))) (fun s12 => (some ((-2), s12))) 4096 0 s9))) else (v_bi (f_Md_rowFault b s7) (fun r15 s15 => (some (r15, s15))))))))))))))))
set_option maxRecDepth 20000 in
set_option maxHeartbeats 4000000 in
theorem t_Md_bars_L51 {L : Nat} {xs : Nat → Int32} {p1 : Int32} {k108 : Int32 → vS → Option (Int32 × vS)} {k139 : vS → Option (Int32 × vS)} {D : Nat} (hD : 7 ≤ D) {r : Int32} {s' : vS} (hk108 : ∀ (v5 : Int32) (s : vS), k108 v5 s = some (r, s') → s_Ek (s_rows 3 L xs) D s_e251.1 108 [(0, .ref 151), (5, .int v5)] [] (v_mk s) (v_Q (some (.int r)) s')) (hk139 : ∀ (s : vS), k139 s = some (r, s') → s_Ek (s_rows 3 L xs) D s_e251.1 139 [] [] (v_mk s) (v_Q (some (.int r)) s')) : ∀ (n : Nat) (v4 : Int32) (s : vS), f_Md_bars_L51 p1 k108 k139 n v4 s = some (r, s') → s_Ek (s_rows 3 L xs) D s_e251.1 51 [(0, .ref 151), (1, .int p1), (4, .int v4)] [] (v_mk s) (v_Q (some (.int r)) s') := by
  intro n
  induction n with
  | zero => intro v4 s h; exact nomatch (show (none : Option (Int32 × vS)) = some (r, s') from h)
  | succ n ih =>
    intro v4 s h
    replace h : f_Md_bars_L51b p1 k108 k139 (f_Md_bars_L51 p1 k108 k139 n) v4 s = some (r, s') := h
    unfold f_Md_bars_L51b at h
    refine s_ek_bk 4 (P := 56) (ls' := [(0, .ref 151), (1, .int p1), (4, .int v4)]) (st' := [.ref 151, .int ((2 : Int32) * v4)]) (M' := v_mk s) rfl ?_
    refine v_gf rfl (v_gr (rfl : v_kd 151 = 11) (rfl : v_sl 151 47 = .ref 182) ⟨rfl, rfl, by decide⟩) ?_
    refine s_ek_bk 1 (P := 60) (ls' := [(0, .ref 151), (1, .int p1), (4, .int v4)]) (st' := [.int p1, .ref 182, .int ((2 : Int32) * v4)]) (M' := v_mk s) rfl ?_
    obtain ⟨c110, h⟩ := v_ck h
    refine v_ia (i := p1) rfl (v_ai (rfl : v_kd 182 = 13) rfl (by decide) v_all13 (v_cn (rfl : v_ln 182 = 6) c110)) ?_
    rcases v_if h with ⟨c111, h⟩ | ⟨c111, h⟩
    · refine v_i2t (T := 139) rfl rfl c111 ?_
      refine v_ls (ls' := []) trivial (show ([] : List Nat).Nodup from by decide) ?_
      exact hk139 _ h
    · refine v_i2f (T := 139) rfl rfl c111 ?_
      refine s_ek_bk 3 (P := 68) (ls' := [(0, .ref 151), (1, .int p1), (4, .int v4)]) (st' := [.int v4, .int p1, .ref 151]) (M' := v_mk s) rfl ?_
      obtain ⟨r112, s112, e112, h⟩ := v_bd h
      refine v_cV (ν := s_e239.1) (w := 1914) (a := 151) (as' := [.int p1, .int v4]) (r := []) (o := some (.int r112)) (by omega) rfl rfl rfl (v_mk_kd (k := 11) (rfl : v_kd 151 = 11) (by decide)) rfl (t_Md_isTwo e112 (by omega)) ?_
      show s_Ek (s_rows 3 L xs) D s_e251.1 71 [(0, .ref 151), (1, .int p1), (4, .int v4)] [.int r112] (v_mk s112) _
      rcases v_if h with ⟨c113, h⟩ | ⟨c113, h⟩
      · refine v_i1f (T := 77) rfl rfl (fun q => q c113) ?_
        refine s_ek_bk 1 (P := 76) (ls' := [(0, .ref 151), (1, .int p1), (4, .int v4)]) (st' := [.int (-2)]) (M' := v_mk s112) rfl ?_
        obtain ⟨rfl, rfl⟩ := v_so h
        exact v_ret (fun _ => rfl)
      · refine v_i1t (T := 77) rfl rfl c113 ?_
        refine s_ek_bk 3 (P := 81) (ls' := [(0, .ref 151), (1, .int p1), (4, .int v4)]) (st' := [.int v4, .int p1, .ref 151]) (M' := v_mk s112) rfl ?_
        obtain ⟨r114, s114, e114, h⟩ := v_bd h
        refine v_cV (ν := s_e237.1) (w := 1898) (a := 151) (as' := [.int p1, .int v4]) (r := []) (o := some (.int r114)) (by omega) rfl rfl rfl (v_mk_kd (k := 11) (rfl : v_kd 151 = 11) (by decide)) rfl (t_Md_caseAt e114 (by omega)) ?_
        show s_Ek (s_rows 3 L xs) D s_e251.1 84 [(0, .ref 151), (1, .int p1), (4, .int v4)] [.int r114] (v_mk s114) _
        obtain ⟨r115, s115, e115, h⟩ := v_bd h
        refine v_cS (ν := s_e224.1) (w := 1793) (as := [.int r114]) (r := []) (o := some (.int r115)) (by omega) rfl rfl rfl rfl (t_Md_caseOf e115 (by omega)) ?_
        show s_Ek (s_rows 3 L xs) D s_e251.1 87 [(0, .ref 151), (1, .int p1), (4, .int v4)] [.int r115] (v_mk s115) _
        refine s_ek_bk 6 (P := 96) (ls' := [(5, .int r115), (0, .ref 151), (1, .int p1), (4, .int v4)]) (st' := [.int v4, .int p1, .ref 151, .int r115, .ref 151]) (M' := v_mk s115) rfl ?_
        obtain ⟨r116, s116, e116, h⟩ := v_bd h
        refine v_cV (ν := s_e238.1) (w := 1906) (a := 151) (as' := [.int p1, .int v4]) (r := [.int r115, .ref 151]) (o := some (.int r116)) (by omega) rfl rfl rfl (v_mk_kd (k := 11) (rfl : v_kd 151 = 11) (by decide)) rfl (t_Md_dueAt e116 (by omega)) ?_
        show s_Ek (s_rows 3 L xs) D s_e251.1 99 [(5, .int r115), (0, .ref 151), (1, .int p1), (4, .int v4)] [.int r116, .int r115, .ref 151] (v_mk s116) _
        obtain ⟨r117, s117, e117, h⟩ := v_bd h
        refine v_cV (ν := s_e250.1) (w := 2002) (a := 151) (as' := [.int r115, .int r116]) (r := []) (o := some (.int r117)) (by omega) rfl rfl rfl (v_mk_kd (k := 11) (rfl : v_kd 151 = 11) (by decide)) rfl (t_Md_canBe e117 (by omega)) ?_
        show s_Ek (s_rows 3 L xs) D s_e251.1 102 [(5, .int r115), (0, .ref 151), (1, .int p1), (4, .int v4)] [.int r117] (v_mk s117) _
        rcases v_if h with ⟨c118, h⟩ | ⟨c118, h⟩
        · refine v_i1t (T := 108) rfl rfl c118 ?_
          refine v_ls (ls' := [(0, .ref 151), (5, .int r115)]) ⟨rfl, rfl, trivial⟩ (show ([0, 5] : List Nat).Nodup from by decide) ?_
          exact hk108 _ _ h
        · refine v_i1f (T := 108) rfl rfl c118 ?_
          refine s_ek_bk 3 (P := 51) (ls' := [(4, .int (v4 + 1)), (5, .int r115), (0, .ref 151), (1, .int p1)]) (st' := []) (M' := v_mk s117) rfl ?_
          refine v_ls (ls' := [(0, .ref 151), (1, .int p1), (4, .int (v4 + 1))]) ⟨rfl, rfl, rfl, trivial⟩ (show ([0, 1, 4] : List Nat).Nodup from by decide) ?_
          exact ih _ _ h
set_option maxRecDepth 20000 in
set_option maxHeartbeats 4000000 in
theorem t_Md_bars {L : Nat} {xs : Nat → Int32} {b : Int32} {c : Int32} {d : Int32} {D : Nat} {r : Int32} {s s' : vS} (h : f_Md_bars b c d s = some (r, s')) (hD : 7 ≤ D) : s_Ek (s_rows 3 L xs) D s_e251.1 0 (lv_args 0 [.ref 151, .int b, .int c, .int d]) [] (v_mk s) (v_Q (some (.int r)) s') := by
  unfold f_Md_bars at h
  show s_Ek (s_rows 3 L xs) D s_e251.1 0 [(0, .ref 151), (1, .int b), (2, .int c), (3, .int d)] [] (v_mk s) _
  refine s_ek_bk 1 (P := 1) (ls' := [(0, .ref 151), (1, .int b), (2, .int c), (3, .int d)]) (st' := [.int b]) (M' := v_mk s) rfl ?_
  obtain ⟨r1, s1, e1, h⟩ := v_bd h
  refine v_cS (ν := s_e281.1) (w := 2249) (as := [.int b]) (r := []) (o := some (.int r1)) (by omega) rfl rfl rfl rfl (t_Md_isShelf e1 (by omega)) ?_
  show s_Ek (s_rows 3 L xs) D s_e251.1 4 [(0, .ref 151), (1, .int b), (2, .int c), (3, .int d)] [.int r1] (v_mk s1) _
  rcases v_if h with ⟨c2, h⟩ | ⟨c2, h⟩
  · refine v_i1t (T := 26) rfl rfl c2 ?_
    refine s_ek_bk 1 (P := 27) (ls' := [(0, .ref 151), (1, .int b), (2, .int c), (3, .int d)]) (st' := [.int (-1)]) (M' := v_mk s1) rfl ?_
    obtain ⟨rfl, rfl⟩ := v_so h
    exact v_ret (fun _ => rfl)
  · refine v_i1f (T := 26) rfl rfl c2 ?_
    refine s_ek_bk 3 (P := 11) (ls' := [(0, .ref 151), (1, .int b), (2, .int c), (3, .int d)]) (st' := [.int 99, .int 0, .int c]) (M' := v_mk s1) rfl ?_
    obtain ⟨r3, s3, e3, h⟩ := v_bd h
    refine v_cS (ν := s_e181.1) (w := 1451) (as := [.int c, .int 0, .int 99]) (r := []) (o := some (.int r3)) (by omega) rfl rfl rfl rfl (t_Md_in e3 (by omega)) ?_
    show s_Ek (s_rows 3 L xs) D s_e251.1 14 [(0, .ref 151), (1, .int b), (2, .int c), (3, .int d)] [.int r3] (v_mk s3) _
    rcases v_if h with ⟨c4, h⟩ | ⟨c4, h⟩
    · refine v_i1t (T := 26) rfl rfl c4 ?_
      refine s_ek_bk 1 (P := 27) (ls' := [(0, .ref 151), (1, .int b), (2, .int c), (3, .int d)]) (st' := [.int (-1)]) (M' := v_mk s3) rfl ?_
      obtain ⟨rfl, rfl⟩ := v_so h
      exact v_ret (fun _ => rfl)
    · refine v_i1f (T := 26) rfl rfl c4 ?_
      refine s_ek_bk 3 (P := 20) (ls' := [(0, .ref 151), (1, .int b), (2, .int c), (3, .int d)]) (st' := [.int 2, .int 0, .int d]) (M' := v_mk s3) rfl ?_
      obtain ⟨r5, s5, e5, h⟩ := v_bd h
      refine v_cS (ν := s_e181.1) (w := 1451) (as := [.int d, .int 0, .int 2]) (r := []) (o := some (.int r5)) (by omega) rfl rfl rfl rfl (t_Md_in e5 (by omega)) ?_
      show s_Ek (s_rows 3 L xs) D s_e251.1 23 [(0, .ref 151), (1, .int b), (2, .int c), (3, .int d)] [.int r5] (v_mk s5) _
      rcases v_if h with ⟨c6, h⟩ | ⟨c6, h⟩
      · refine v_i1f (T := 28) rfl rfl (fun q => q c6) ?_
        refine s_ek_bk 1 (P := 27) (ls' := [(0, .ref 151), (1, .int b), (2, .int c), (3, .int d)]) (st' := [.int (-1)]) (M' := v_mk s5) rfl ?_
        obtain ⟨rfl, rfl⟩ := v_so h
        exact v_ret (fun _ => rfl)
      · refine v_i1t (T := 28) rfl rfl c6 ?_
        refine s_ek_bk 2 (P := 30) (ls' := [(0, .ref 151), (1, .int b), (2, .int c), (3, .int d)]) (st' := [.int b, .ref 151]) (M' := v_mk s5) rfl ?_
        obtain ⟨r7, s7, e7, h⟩ := v_bd h
        refine v_cV (ν := s_e236.1) (w := 1889) (a := 151) (as' := [.int b]) (r := []) (o := some (.int r7)) (by omega) rfl rfl rfl (v_mk_kd (k := 11) (rfl : v_kd 151 = 11) (by decide)) rfl (t_Md_rowFault e7 (by omega)) ?_
        show s_Ek (s_rows 3 L xs) D s_e251.1 33 [(0, .ref 151), (1, .int b), (2, .int c), (3, .int d)] [.int r7] (v_mk s7) _
        rcases v_if h with ⟨c8, h⟩ | ⟨c8, h⟩
        · refine v_i1t (T := 42) rfl rfl c8 ?_
          refine s_ek_bk 3 (P := 45) (ls' := [(0, .ref 151), (1, .int b), (2, .int c), (3, .int d)]) (st' := [.int d, .int c, .ref 151]) (M' := v_mk s7) rfl ?_
          obtain ⟨r9, s9, e9, h⟩ := v_bd h
          refine v_cV (ν := s_e248.1) (w := 1986) (a := 151) (as' := [.int c, .int d]) (r := []) (o := none) (by omega) rfl rfl rfl (v_mk_kd (k := 11) (rfl : v_kd 151 = 11) (by decide)) rfl (t_Md_writes e9 (by omega)) ?_
          show s_Ek (s_rows 3 L xs) D s_e251.1 48 [(0, .ref 151), (1, .int b), (2, .int c), (3, .int d)] [] (v_mk s9) _
          refine s_ek_bk 2 (P := 51) (ls' := [(4, .int 0), (0, .ref 151), (1, .int b), (2, .int c), (3, .int d)]) (st' := []) (M' := v_mk s9) rfl ?_
          refine v_ls (ls' := [(0, .ref 151), (1, .int b), (4, .int 0)]) ⟨rfl, rfl, rfl, trivial⟩ (show ([0, 1, 4] : List Nat).Nodup from by decide) ?_
          refine t_Md_bars_L51 (by omega) (fun w10 s11 h => ?_) (fun s12 h => ?_) 4096 _ _ h
          · show s_Ek (s_rows 3 L xs) D s_e251.1 108 [(0, .ref 151), (5, .int w10)] [] (v_mk s11) _
            refine s_ek_bk 3 (P := 112) (ls' := [(0, .ref 151), (5, .int w10)]) (st' := [.ref 151, .int w10, .ref 151]) (M' := v_mk s11) rfl ?_
            refine v_gf rfl (v_gi (rfl : v_kd 151 = 11) rfl ⟨rfl, rfl, by decide⟩) ?_
            obtain ⟨r13, s13, e13, h⟩ := v_bd h
            refine v_cV (ν := s_e232.1) (w := 1858) (a := 151) (as' := [.int w10, .int (s11.1 151 18)]) (r := []) (o := some (.int r13)) (by omega) rfl rfl rfl (v_mk_kd (k := 11) (rfl : v_kd 151 = 11) (by decide)) rfl (t_Md_holder e13 (by omega)) ?_
            show s_Ek (s_rows 3 L xs) D s_e251.1 118 [(0, .ref 151), (5, .int w10)] [.int r13] (v_mk s13) _
            refine s_ek_bk 2 (P := 122) (ls' := [(6, .int r13), (0, .ref 151), (5, .int w10)]) (st' := [.int r13]) (M' := v_mk s13) rfl ?_
            rcases v_if h with ⟨c14, h⟩ | ⟨c14, h⟩
            · refine v_i1t (T := 130) rfl rfl c14 ?_
              refine s_ek_bk 1 (P := 132) (ls' := [(6, .int r13), (0, .ref 151), (5, .int w10)]) (st' := [.int r13]) (M' := v_mk s13) rfl ?_
              obtain ⟨rfl, rfl⟩ := v_so h
              exact v_ret (fun _ => rfl)
            · refine v_i1f (T := 130) rfl rfl c14 ?_
              refine s_ek_bk 2 (P := 132) (ls' := [(6, .int r13), (0, .ref 151), (5, .int w10)]) (st' := [.int (-2)]) (M' := v_mk s13) rfl ?_
              obtain ⟨rfl, rfl⟩ := v_so h
              exact v_ret (fun _ => rfl)
          · show s_Ek (s_rows 3 L xs) D s_e251.1 139 [] [] (v_mk s12) _
            refine s_ek_bk 1 (P := 141) (ls' := []) (st' := [.int (-2)]) (M' := v_mk s12) rfl ?_
            obtain ⟨rfl, rfl⟩ := v_so h
            exact v_ret (fun _ => rfl)
        · refine v_i1f (T := 42) rfl rfl c8 ?_
          refine s_ek_bk 2 (P := 38) (ls' := [(0, .ref 151), (1, .int b), (2, .int c), (3, .int d)]) (st' := [.int b, .ref 151]) (M' := v_mk s7) rfl ?_
          obtain ⟨r15, s15, e15, h⟩ := v_bd h
          refine v_cV (ν := s_e236.1) (w := 1889) (a := 151) (as' := [.int b]) (r := []) (o := some (.int r15)) (by omega) rfl rfl rfl (v_mk_kd (k := 11) (rfl : v_kd 151 = 11) (by decide)) rfl (t_Md_rowFault e15 (by omega)) ?_
          show s_Ek (s_rows 3 L xs) D s_e251.1 41 [(0, .ref 151), (1, .int b), (2, .int c), (3, .int d)] [.int r15] (v_mk s15) _
          obtain ⟨rfl, rfl⟩ := v_so h
          exact v_ret (fun _ => rfl)
noncomputable def f_Md_keepVerdicts_L2b (p1 : Int32) (k26 : vS → Option (Unit × vS)) (again : Int32 → vS → Option (Unit × vS)) (v2 : Int32) (s : vS) : Option (Unit × vS) := (if 125 ≤ v2.toInt then (k26 s) else (v_bi (f_Md_verdictIn v2 p1 s) (fun r102 s102 => (if v_in v2 125 then (v_let (v_w1 s102 173 (Int32.toNatClampNeg v2) r102) (fun s104 => (again (v2 + 1) s104))) else none))))
noncomputable def f_Md_keepVerdicts_L2 (p1 : Int32) (k26 : vS → Option (Unit × vS)) (n : Nat) : Int32 → vS → Option (Unit × vS) := Nat.rec (motive := fun _ => Int32 → vS → Option (Unit × vS)) (fun _ _ => none) (fun _ again => f_Md_keepVerdicts_L2b p1 k26 again) n
noncomputable def f_Md_keepVerdicts (b : Int32) (s : vS) : Option (Unit × vS) := (f_Md_keepVerdicts_L2 b (fun s1 => (some ((), s1))) 4096 0 s)
set_option maxRecDepth 20000 in
set_option maxHeartbeats 4000000 in
theorem t_Md_keepVerdicts_L2 {L : Nat} {xs : Nat → Int32} {p1 : Int32} {k26 : vS → Option (Unit × vS)} {D : Nat} (hD : 5 ≤ D) {r : Unit} {s' : vS} (hk26 : ∀ (s : vS), k26 s = some (r, s') → s_Ek (s_rows 3 L xs) D s_e252.1 26 [] [] (v_mk s) (v_Q none s')) : ∀ (n : Nat) (v2 : Int32) (s : vS), f_Md_keepVerdicts_L2 p1 k26 n v2 s = some (r, s') → s_Ek (s_rows 3 L xs) D s_e252.1 2 [(0, .ref 151), (1, .int p1), (2, .int v2)] [] (v_mk s) (v_Q none s') := by
  intro n
  induction n with
  | zero => intro v2 s h; exact nomatch (show (none : Option (Unit × vS)) = some (r, s') from h)
  | succ n ih =>
    intro v2 s h
    replace h : f_Md_keepVerdicts_L2b p1 k26 (f_Md_keepVerdicts_L2 p1 k26 n) v2 s = some (r, s') := h
    unfold f_Md_keepVerdicts_L2b at h
    refine s_ek_bk 2 (P := 5) (ls' := [(0, .ref 151), (1, .int p1), (2, .int v2)]) (st' := [.int 125, .int v2]) (M' := v_mk s) rfl ?_
    rcases v_if h with ⟨c101, h⟩ | ⟨c101, h⟩
    · refine v_i2t (T := 26) rfl rfl c101 ?_
      refine v_ls (ls' := []) trivial (show ([] : List Nat).Nodup from by decide) ?_
      exact hk26 _ h
    · refine v_i2f (T := 26) rfl rfl c101 ?_
      refine s_ek_bk 1 (P := 9) (ls' := [(0, .ref 151), (1, .int p1), (2, .int v2)]) (st' := [.ref 151]) (M' := v_mk s) rfl ?_
      refine v_gf rfl (v_gr (rfl : v_kd 151 = 11) (rfl : v_sl 151 34 = .ref 173) ⟨rfl, rfl, by decide⟩) ?_
      refine s_ek_bk 4 (P := 16) (ls' := [(0, .ref 151), (1, .int p1), (2, .int v2)]) (st' := [.int p1, .int v2, .ref 151, .int v2, .ref 173]) (M' := v_mk s) rfl ?_
      obtain ⟨r102, s102, e102, h⟩ := v_bd h
      refine v_cV (ν := s_e233.1) (w := 1866) (a := 151) (as' := [.int v2, .int p1]) (r := [.int v2, .ref 173]) (o := some (.int r102)) (by omega) rfl rfl rfl (v_mk_kd (k := 11) (rfl : v_kd 151 = 11) (by decide)) rfl (t_Md_verdictIn e102 (by omega)) ?_
      show s_Ek (s_rows 3 L xs) D s_e252.1 19 [(0, .ref 151), (1, .int p1), (2, .int v2)] [.int r102, .int v2, .ref 173] (v_mk s102) _
      obtain ⟨c103, h⟩ := v_ck h
      obtain ⟨s104, es104, h⟩ := v_ld h
      refine v_ist (M' := v_mk s104) (i := v2) rfl (by rw [es104]; exact v_pai (rfl : v_kd 173 = 13) rfl (by decide) v_all13 (v_cn (rfl : v_ln 173 = 125) c103)) ?_
      refine s_ek_bk 2 (P := 2) (ls' := [(2, .int (v2 + 1)), (0, .ref 151), (1, .int p1)]) (st' := []) (M' := v_mk s104) rfl ?_
      refine v_ls (ls' := [(0, .ref 151), (1, .int p1), (2, .int (v2 + 1))]) ⟨rfl, rfl, rfl, trivial⟩ (show ([0, 1, 2] : List Nat).Nodup from by decide) ?_
      exact ih _ _ h
set_option maxRecDepth 20000 in
set_option maxHeartbeats 4000000 in
theorem t_Md_keepVerdicts {L : Nat} {xs : Nat → Int32} {b : Int32} {D : Nat} {r : Unit} {s s' : vS} (h : f_Md_keepVerdicts b s = some (r, s')) (hD : 5 ≤ D) : s_Ek (s_rows 3 L xs) D s_e252.1 0 (lv_args 0 [.ref 151, .int b]) [] (v_mk s) (v_Q none s') := by
  unfold f_Md_keepVerdicts at h
  show s_Ek (s_rows 3 L xs) D s_e252.1 0 [(0, .ref 151), (1, .int b)] [] (v_mk s) _
  refine s_ek_bk 2 (P := 2) (ls' := [(2, .int 0), (0, .ref 151), (1, .int b)]) (st' := []) (M' := v_mk s) rfl ?_
  refine v_ls (ls' := [(0, .ref 151), (1, .int b), (2, .int 0)]) ⟨rfl, rfl, rfl, trivial⟩ (show ([0, 1, 2] : List Nat).Nodup from by decide) ?_
  refine t_Md_keepVerdicts_L2 (by omega) (fun s1 h => ?_) 4096 _ _ h
  show s_Ek (s_rows 3 L xs) D s_e252.1 26 [] [] (v_mk s1) _
  obtain ⟨rfl, rfl⟩ := v_so h
  exact v_ret (fun _ => rfl)
noncomputable def f_Md_unlikeNow_L10b (p1 : Int32) (p2 : Int32) (k51 : Int32 → Int32 → vS → Option (Int32 × vS)) (again : Int32 → Int32 → Int32 → vS → Option (Int32 × vS)) (v3 : Int32) (v4 : Int32) (v5 : Int32) (s : vS) : Option (Int32 × vS) := (if v5.toInt < 0 then (k51 v3 v4 s) else (v_bi (f_Md_verdictIn v5 p1 s) (fun r102 s102 => (if v_in v5 125 then (if r102.toInt = (s102.1 173 (Int32.toNatClampNeg v5)).toInt then (again v3 v4 (v5 + (-1)) s102) else (v_bi (f_Md_numberOf v5 s102) (fun r105 s105 => (again (v3 + 1) r105 (v5 + (-1)) s105)))) else none))))
noncomputable def f_Md_unlikeNow_L10 (p1 : Int32) (p2 : Int32) (k51 : Int32 → Int32 → vS → Option (Int32 × vS)) (n : Nat) : Int32 → Int32 → Int32 → vS → Option (Int32 × vS) := Nat.rec (motive := fun _ => Int32 → Int32 → Int32 → vS → Option (Int32 × vS)) (fun _ _ _ _ => none) (fun _ again => f_Md_unlikeNow_L10b p1 p2 k51 again) n
noncomputable def f_Md_unlikeNow (b : Int32) (c : Int32) (s : vS) : Option (Int32 × vS) := (f_Md_unlikeNow_L10 b c (fun w1 w2 s3 => (if c.toInt = 0 then (some (w1, s3)) else (some (w2, s3)))) 4096 0 (-2) 124 s)
set_option maxRecDepth 20000 in
set_option maxHeartbeats 4000000 in
theorem t_Md_unlikeNow_L10 {L : Nat} {xs : Nat → Int32} {p1 : Int32} {p2 : Int32} {k51 : Int32 → Int32 → vS → Option (Int32 × vS)} {D : Nat} (hD : 5 ≤ D) {r : Int32} {s' : vS} (hk51 : ∀ (v3 : Int32) (v4 : Int32) (s : vS), k51 v3 v4 s = some (r, s') → s_Ek (s_rows 3 L xs) D s_e253.1 51 [(2, .int p2), (3, .int v3), (4, .int v4)] [] (v_mk s) (v_Q (some (.int r)) s')) : ∀ (n : Nat) (v3 : Int32) (v4 : Int32) (v5 : Int32) (s : vS), f_Md_unlikeNow_L10 p1 p2 k51 n v3 v4 v5 s = some (r, s') → s_Ek (s_rows 3 L xs) D s_e253.1 10 [(0, .ref 151), (1, .int p1), (2, .int p2), (3, .int v3), (4, .int v4), (5, .int v5)] [] (v_mk s) (v_Q (some (.int r)) s') := by
  intro n
  induction n with
  | zero => intro v3 v4 v5 s h; exact nomatch (show (none : Option (Int32 × vS)) = some (r, s') from h)
  | succ n ih =>
    intro v3 v4 v5 s h
    replace h : f_Md_unlikeNow_L10b p1 p2 k51 (f_Md_unlikeNow_L10 p1 p2 k51 n) v3 v4 v5 s = some (r, s') := h
    unfold f_Md_unlikeNow_L10b at h
    refine s_ek_bk 1 (P := 12) (ls' := [(0, .ref 151), (1, .int p1), (2, .int p2), (3, .int v3), (4, .int v4), (5, .int v5)]) (st' := [.int v5]) (M' := v_mk s) rfl ?_
    rcases v_if h with ⟨c101, h⟩ | ⟨c101, h⟩
    · refine v_i1t (T := 51) rfl rfl c101 ?_
      refine v_ls (ls' := [(2, .int p2), (3, .int v3), (4, .int v4)]) ⟨rfl, rfl, rfl, trivial⟩ (show ([2, 3, 4] : List Nat).Nodup from by decide) ?_
      exact hk51 _ _ _ h
    · refine v_i1f (T := 51) rfl rfl c101 ?_
      refine s_ek_bk 3 (P := 19) (ls' := [(0, .ref 151), (1, .int p1), (2, .int p2), (3, .int v3), (4, .int v4), (5, .int v5)]) (st' := [.int p1, .int v5, .ref 151]) (M' := v_mk s) rfl ?_
      obtain ⟨r102, s102, e102, h⟩ := v_bd h
      refine v_cV (ν := s_e233.1) (w := 1866) (a := 151) (as' := [.int v5, .int p1]) (r := []) (o := some (.int r102)) (by omega) rfl rfl rfl (v_mk_kd (k := 11) (rfl : v_kd 151 = 11) (by decide)) rfl (t_Md_verdictIn e102 (by omega)) ?_
      show s_Ek (s_rows 3 L xs) D s_e253.1 22 [(0, .ref 151), (1, .int p1), (2, .int p2), (3, .int v3), (4, .int v4), (5, .int v5)] [.int r102] (v_mk s102) _
      refine s_ek_bk 1 (P := 23) (ls' := [(0, .ref 151), (1, .int p1), (2, .int p2), (3, .int v3), (4, .int v4), (5, .int v5)]) (st' := [.ref 151, .int r102]) (M' := v_mk s102) rfl ?_
      refine v_gf rfl (v_gr (rfl : v_kd 151 = 11) (rfl : v_sl 151 34 = .ref 173) ⟨rfl, rfl, by decide⟩) ?_
      refine s_ek_bk 1 (P := 28) (ls' := [(0, .ref 151), (1, .int p1), (2, .int p2), (3, .int v3), (4, .int v4), (5, .int v5)]) (st' := [.int v5, .ref 173, .int r102]) (M' := v_mk s102) rfl ?_
      obtain ⟨c103, h⟩ := v_ck h
      refine v_ia (i := v5) rfl (v_ai (rfl : v_kd 173 = 13) rfl (by decide) v_all13 (v_cn (rfl : v_ln 173 = 125) c103)) ?_
      rcases v_if h with ⟨c104, h⟩ | ⟨c104, h⟩
      · refine v_i2f (T := 35) rfl rfl (fun q => q c104) ?_
        refine s_ek_bk 3 (P := 10) (ls' := [(5, .int (v5 + (-1))), (0, .ref 151), (1, .int p1), (2, .int p2), (3, .int v3), (4, .int v4)]) (st' := []) (M' := v_mk s102) rfl ?_
        refine v_ls (ls' := [(0, .ref 151), (1, .int p1), (2, .int p2), (3, .int v3), (4, .int v4), (5, .int (v5 + (-1)))]) ⟨rfl, rfl, rfl, rfl, rfl, rfl, trivial⟩ (show ([0, 1, 2, 3, 4, 5] : List Nat).Nodup from by decide) ?_
        exact ih _ _ _ _ h
      · refine v_i2t (T := 35) rfl rfl c104 ?_
        refine s_ek_bk 2 (P := 40) (ls' := [(3, .int (v3 + 1)), (0, .ref 151), (1, .int p1), (2, .int p2), (4, .int v4), (5, .int v5)]) (st' := [.int v5]) (M' := v_mk s102) rfl ?_
        obtain ⟨r105, s105, e105, h⟩ := v_bd h
        refine v_cS (ν := s_e225.1) (w := 1801) (as := [.int v5]) (r := []) (o := some (.int r105)) (by omega) rfl rfl rfl rfl (t_Md_numberOf e105 (by omega)) ?_
        show s_Ek (s_rows 3 L xs) D s_e253.1 43 [(3, .int (v3 + 1)), (0, .ref 151), (1, .int p1), (2, .int p2), (4, .int v4), (5, .int v5)] [.int r105] (v_mk s105) _
        refine s_ek_bk 3 (P := 10) (ls' := [(5, .int (v5 + (-1))), (4, .int r105), (3, .int (v3 + 1)), (0, .ref 151), (1, .int p1), (2, .int p2)]) (st' := []) (M' := v_mk s105) rfl ?_
        refine v_ls (ls' := [(0, .ref 151), (1, .int p1), (2, .int p2), (3, .int (v3 + 1)), (4, .int r105), (5, .int (v5 + (-1)))]) ⟨rfl, rfl, rfl, rfl, rfl, rfl, trivial⟩ (show ([0, 1, 2, 3, 4, 5] : List Nat).Nodup from by decide) ?_
        exact ih _ _ _ _ h
set_option maxRecDepth 20000 in
set_option maxHeartbeats 4000000 in
theorem t_Md_unlikeNow {L : Nat} {xs : Nat → Int32} {b : Int32} {c : Int32} {D : Nat} {r : Int32} {s s' : vS} (h : f_Md_unlikeNow b c s = some (r, s')) (hD : 5 ≤ D) : s_Ek (s_rows 3 L xs) D s_e253.1 0 (lv_args 0 [.ref 151, .int b, .int c]) [] (v_mk s) (v_Q (some (.int r)) s') := by
  unfold f_Md_unlikeNow at h
  show s_Ek (s_rows 3 L xs) D s_e253.1 0 [(0, .ref 151), (1, .int b), (2, .int c)] [] (v_mk s) _
  refine s_ek_bk 6 (P := 10) (ls' := [(5, .int 124), (4, .int (-2)), (3, .int 0), (0, .ref 151), (1, .int b), (2, .int c)]) (st' := []) (M' := v_mk s) rfl ?_
  refine v_ls (ls' := [(0, .ref 151), (1, .int b), (2, .int c), (3, .int 0), (4, .int (-2)), (5, .int 124)]) ⟨rfl, rfl, rfl, rfl, rfl, rfl, trivial⟩ (show ([0, 1, 2, 3, 4, 5] : List Nat).Nodup from by decide) ?_
  refine t_Md_unlikeNow_L10 (by omega) (fun w1 w2 s3 h => ?_) 4096 _ _ _ _ h
  show s_Ek (s_rows 3 L xs) D s_e253.1 51 [(2, .int c), (3, .int w1), (4, .int w2)] [] (v_mk s3) _
  refine s_ek_bk 1 (P := 52) (ls' := [(2, .int c), (3, .int w1), (4, .int w2)]) (st' := [.int c]) (M' := v_mk s3) rfl ?_
  rcases v_if h with ⟨c4, h⟩ | ⟨c4, h⟩
  · refine v_i1f (T := 59) rfl rfl (fun q => q c4) ?_
    refine s_ek_bk 2 (P := 61) (ls' := [(2, .int c), (3, .int w1), (4, .int w2)]) (st' := [.int w1]) (M' := v_mk s3) rfl ?_
    obtain ⟨rfl, rfl⟩ := v_so h
    exact v_ret (fun _ => rfl)
  · refine v_i1t (T := 59) rfl rfl c4 ?_
    refine s_ek_bk 1 (P := 61) (ls' := [(2, .int c), (3, .int w1), (4, .int w2)]) (st' := [.int w2]) (M' := v_mk s3) rfl ?_
    obtain ⟨rfl, rfl⟩ := v_so h
    exact v_ret (fun _ => rfl)
noncomputable def f_Md_meant (b : Int32) (c : Int32) (s : vS) : Option (Int32 × vS) := (v_bi (f_Md_in b 0 2 s) (fun r1 s1 => (if r1.toInt = 0 then (some ((-1), s1)) else (v_bi (f_Md_in c 0 1 s1) (fun r3 s3 => (if r3.toInt = 0 then (some ((-1), s3)) else (v_bi (f_Md_findAll s3) (fun _ s5 => (v_bi (f_Md_keepVerdicts (s5.1 151 18) s5) (fun _ s6 => (if v_in b 3 then (if v_in b 3 then (v_let (v_w1 s6 163 (Int32.toNatClampNeg b) (-1)) (fun s9 => (v_bi (f_Md_findAll s9) (fun _ s10 => (v_bi (f_Md_unlikeNow (s10.1 151 18) c s10) (fun r11 s11 => (if v_in b 3 then (v_let (v_w1 s11 163 (Int32.toNatClampNeg b) (s6.1 163 (Int32.toNatClampNeg b))) (fun s13 => (some (r11, s13)))) else none))))))) else none) else none)))))))))))
set_option maxRecDepth 20000 in
set_option maxHeartbeats 4000000 in
theorem t_Md_meant {L : Nat} {xs : Nat → Int32} {b : Int32} {c : Int32} {D : Nat} {r : Int32} {s s' : vS} (h : f_Md_meant b c s = some (r, s')) (hD : 6 ≤ D) : s_Ek (s_rows 3 L xs) D s_e254.1 0 (lv_args 0 [.ref 151, .int b, .int c]) [] (v_mk s) (v_Q (some (.int r)) s') := by
  unfold f_Md_meant at h
  show s_Ek (s_rows 3 L xs) D s_e254.1 0 [(0, .ref 151), (1, .int b), (2, .int c)] [] (v_mk s) _
  refine s_ek_bk 3 (P := 3) (ls' := [(0, .ref 151), (1, .int b), (2, .int c)]) (st' := [.int 2, .int 0, .int b]) (M' := v_mk s) rfl ?_
  obtain ⟨r1, s1, e1, h⟩ := v_bd h
  refine v_cS (ν := s_e181.1) (w := 1451) (as := [.int b, .int 0, .int 2]) (r := []) (o := some (.int r1)) (by omega) rfl rfl rfl rfl (t_Md_in e1 (by omega)) ?_
  show s_Ek (s_rows 3 L xs) D s_e254.1 6 [(0, .ref 151), (1, .int b), (2, .int c)] [.int r1] (v_mk s1) _
  rcases v_if h with ⟨c2, h⟩ | ⟨c2, h⟩
  · refine v_i1t (T := 18) rfl rfl c2 ?_
    refine s_ek_bk 1 (P := 19) (ls' := [(0, .ref 151), (1, .int b), (2, .int c)]) (st' := [.int (-1)]) (M' := v_mk s1) rfl ?_
    obtain ⟨rfl, rfl⟩ := v_so h
    exact v_ret (fun _ => rfl)
  · refine v_i1f (T := 18) rfl rfl c2 ?_
    refine s_ek_bk 3 (P := 12) (ls' := [(0, .ref 151), (1, .int b), (2, .int c)]) (st' := [.int 1, .int 0, .int c]) (M' := v_mk s1) rfl ?_
    obtain ⟨r3, s3, e3, h⟩ := v_bd h
    refine v_cS (ν := s_e181.1) (w := 1451) (as := [.int c, .int 0, .int 1]) (r := []) (o := some (.int r3)) (by omega) rfl rfl rfl rfl (t_Md_in e3 (by omega)) ?_
    show s_Ek (s_rows 3 L xs) D s_e254.1 15 [(0, .ref 151), (1, .int b), (2, .int c)] [.int r3] (v_mk s3) _
    rcases v_if h with ⟨c4, h⟩ | ⟨c4, h⟩
    · refine v_i1f (T := 20) rfl rfl (fun q => q c4) ?_
      refine s_ek_bk 1 (P := 19) (ls' := [(0, .ref 151), (1, .int b), (2, .int c)]) (st' := [.int (-1)]) (M' := v_mk s3) rfl ?_
      obtain ⟨rfl, rfl⟩ := v_so h
      exact v_ret (fun _ => rfl)
    · refine v_i1t (T := 20) rfl rfl c4 ?_
      refine s_ek_bk 1 (P := 21) (ls' := [(0, .ref 151), (1, .int b), (2, .int c)]) (st' := [.ref 151]) (M' := v_mk s3) rfl ?_
      obtain ⟨r5, s5, e5, h⟩ := v_bd h
      refine v_cV (ν := s_e223.1) (w := 1784) (a := 151) (as' := []) (r := []) (o := none) (by omega) rfl rfl rfl (v_mk_kd (k := 11) (rfl : v_kd 151 = 11) (by decide)) rfl (t_Md_findAll e5 (by omega)) ?_
      show s_Ek (s_rows 3 L xs) D s_e254.1 24 [(0, .ref 151), (1, .int b), (2, .int c)] [] (v_mk s5) _
      refine s_ek_bk 2 (P := 26) (ls' := [(0, .ref 151), (1, .int b), (2, .int c)]) (st' := [.ref 151, .ref 151]) (M' := v_mk s5) rfl ?_
      refine v_gf rfl (v_gi (rfl : v_kd 151 = 11) rfl ⟨rfl, rfl, by decide⟩) ?_
      obtain ⟨r6, s6, e6, h⟩ := v_bd h
      refine v_cV (ν := s_e252.1) (w := 2017) (a := 151) (as' := [.int (s5.1 151 18)]) (r := []) (o := none) (by omega) rfl rfl rfl (v_mk_kd (k := 11) (rfl : v_kd 151 = 11) (by decide)) rfl (t_Md_keepVerdicts e6 (by omega)) ?_
      show s_Ek (s_rows 3 L xs) D s_e254.1 32 [(0, .ref 151), (1, .int b), (2, .int c)] [] (v_mk s6) _
      refine s_ek_bk 1 (P := 33) (ls' := [(0, .ref 151), (1, .int b), (2, .int c)]) (st' := [.ref 151]) (M' := v_mk s6) rfl ?_
      refine v_gf rfl (v_gr (rfl : v_kd 151 = 11) (rfl : v_sl 151 20 = .ref 163) ⟨rfl, rfl, by decide⟩) ?_
      refine s_ek_bk 1 (P := 37) (ls' := [(0, .ref 151), (1, .int b), (2, .int c)]) (st' := [.int b, .ref 163]) (M' := v_mk s6) rfl ?_
      obtain ⟨c7, h⟩ := v_ck h
      refine v_ia (i := b) rfl (v_ai (rfl : v_kd 163 = 13) rfl (by decide) v_all13 (v_cn (rfl : v_ln 163 = 3) c7)) ?_
      refine s_ek_bk 2 (P := 40) (ls' := [(3, .int (s6.1 163 (Int32.toNatClampNeg b))), (0, .ref 151), (1, .int b), (2, .int c)]) (st' := [.ref 151]) (M' := v_mk s6) rfl ?_
      refine v_gf rfl (v_gr (rfl : v_kd 151 = 11) (rfl : v_sl 151 20 = .ref 163) ⟨rfl, rfl, by decide⟩) ?_
      refine s_ek_bk 2 (P := 45) (ls' := [(3, .int (s6.1 163 (Int32.toNatClampNeg b))), (0, .ref 151), (1, .int b), (2, .int c)]) (st' := [.int (-1), .int b, .ref 163]) (M' := v_mk s6) rfl ?_
      obtain ⟨c8, h⟩ := v_ck h
      obtain ⟨s9, es9, h⟩ := v_ld h
      refine v_ist (M' := v_mk s9) (i := b) rfl (by rw [es9]; exact v_pai (rfl : v_kd 163 = 13) rfl (by decide) v_all13 (v_cn (rfl : v_ln 163 = 3) c8)) ?_
      refine s_ek_bk 1 (P := 47) (ls' := [(3, .int (s6.1 163 (Int32.toNatClampNeg b))), (0, .ref 151), (1, .int b), (2, .int c)]) (st' := [.ref 151]) (M' := v_mk s9) rfl ?_
      obtain ⟨r10, s10, e10, h⟩ := v_bd h
      refine v_cV (ν := s_e223.1) (w := 1784) (a := 151) (as' := []) (r := []) (o := none) (by omega) rfl rfl rfl (v_mk_kd (k := 11) (rfl : v_kd 151 = 11) (by decide)) rfl (t_Md_findAll e10 (by omega)) ?_
      show s_Ek (s_rows 3 L xs) D s_e254.1 50 [(3, .int (s6.1 163 (Int32.toNatClampNeg b))), (0, .ref 151), (1, .int b), (2, .int c)] [] (v_mk s10) _
      refine s_ek_bk 2 (P := 52) (ls' := [(3, .int (s6.1 163 (Int32.toNatClampNeg b))), (0, .ref 151), (1, .int b), (2, .int c)]) (st' := [.ref 151, .ref 151]) (M' := v_mk s10) rfl ?_
      refine v_gf rfl (v_gi (rfl : v_kd 151 = 11) rfl ⟨rfl, rfl, by decide⟩) ?_
      refine s_ek_bk 1 (P := 56) (ls' := [(3, .int (s6.1 163 (Int32.toNatClampNeg b))), (0, .ref 151), (1, .int b), (2, .int c)]) (st' := [.int c, .int (s10.1 151 18), .ref 151]) (M' := v_mk s10) rfl ?_
      obtain ⟨r11, s11, e11, h⟩ := v_bd h
      refine v_cV (ν := s_e253.1) (w := 2026) (a := 151) (as' := [.int (s10.1 151 18), .int c]) (r := []) (o := some (.int r11)) (by omega) rfl rfl rfl (v_mk_kd (k := 11) (rfl : v_kd 151 = 11) (by decide)) rfl (t_Md_unlikeNow e11 (by omega)) ?_
      show s_Ek (s_rows 3 L xs) D s_e254.1 59 [(3, .int (s6.1 163 (Int32.toNatClampNeg b))), (0, .ref 151), (1, .int b), (2, .int c)] [.int r11] (v_mk s11) _
      refine s_ek_bk 2 (P := 62) (ls' := [(4, .int r11), (3, .int (s6.1 163 (Int32.toNatClampNeg b))), (0, .ref 151), (1, .int b), (2, .int c)]) (st' := [.ref 151]) (M' := v_mk s11) rfl ?_
      refine v_gf rfl (v_gr (rfl : v_kd 151 = 11) (rfl : v_sl 151 20 = .ref 163) ⟨rfl, rfl, by decide⟩) ?_
      refine s_ek_bk 2 (P := 67) (ls' := [(4, .int r11), (3, .int (s6.1 163 (Int32.toNatClampNeg b))), (0, .ref 151), (1, .int b), (2, .int c)]) (st' := [.int (s6.1 163 (Int32.toNatClampNeg b)), .int b, .ref 163]) (M' := v_mk s11) rfl ?_
      obtain ⟨c12, h⟩ := v_ck h
      obtain ⟨s13, es13, h⟩ := v_ld h
      refine v_ist (M' := v_mk s13) (i := b) rfl (by rw [es13]; exact v_pai (rfl : v_kd 163 = 13) rfl (by decide) v_all13 (v_cn (rfl : v_ln 163 = 3) c12)) ?_
      refine s_ek_bk 1 (P := 70) (ls' := [(4, .int r11), (3, .int (s6.1 163 (Int32.toNatClampNeg b))), (0, .ref 151), (1, .int b), (2, .int c)]) (st' := [.int r11]) (M' := v_mk s13) rfl ?_
      obtain ⟨rfl, rfl⟩ := v_so h
      exact v_ret (fun _ => rfl)
noncomputable def f_Md_falseOnes_L39b (p1 : Int32) (p2 : Int32) (k84 : vS → Option (Int32 × vS)) (again : Int32 → vS → Option (Int32 × vS)) (v3 : Int32) (s : vS) : Option (Int32 × vS) := (if ((1 : Int32) <<< ((s.1 151 14) &&& 31)).toInt ≤ v3.toInt then (k84 s) else (v_bi (f_Md_bitsOf v3 s) (fun r308 s308 => (if r308.toInt = p2.toInt then (v_bi (f_Md_findStands v3 (-1) s308) (fun _ s310 => (v_bi (f_Md_wrongIn p1 s310) (fun r311 s311 => (if r311.toInt = (-2) then (some (v3, s311)) else (again (v3 + 1) s311)))))) else (again (v3 + 1) s308)))))
noncomputable def f_Md_falseOnes_L39 (p1 : Int32) (p2 : Int32) (k84 : vS → Option (Int32 × vS)) (n : Nat) : Int32 → vS → Option (Int32 × vS) := Nat.rec (motive := fun _ => Int32 → vS → Option (Int32 × vS)) (fun _ _ => none) (fun _ again => f_Md_falseOnes_L39b p1 p2 k84 again) n
noncomputable def f_Md_falseOnes_L29b (p1 : Int32) (k90 : vS → Option (Int32 × vS)) (again : Int32 → vS → Option (Int32 × vS)) (v2 : Int32) (s : vS) : Option (Int32 × vS) := (if (s.1 151 14).toInt < v2.toInt then (k90 s) else (f_Md_falseOnes_L39 p1 v2 (fun s107 => (again (v2 + 1) s107)) 4096 0 s))
noncomputable def f_Md_falseOnes_L29 (p1 : Int32) (k90 : vS → Option (Int32 × vS)) (n : Nat) : Int32 → vS → Option (Int32 × vS) := Nat.rec (motive := fun _ => Int32 → vS → Option (Int32 × vS)) (fun _ _ => none) (fun _ again => f_Md_falseOnes_L29b p1 k90 again) n
noncomputable def f_Md_falseOnes (b : Int32) (s : vS) : Option (Int32 × vS) := (v_bi (f_Md_isShelf b s) (fun r1 s1 => (if r1.toInt = 0 then (some ((-1), s1)) else (v_bi (f_Md_rowFault b s1) (fun r3 s3 => (if 0 ≤ r3.toInt then (v_bi (f_Md_findSpeaks s3) (fun _ s5 => (f_Md_falseOnes_L29 b (fun s6 => (some ((-2), s6))) 4096 0 s5))) else (v_bi (f_Md_rowFault b s3) (fun r7 s7 => (some (r7, s7))))))))))
set_option maxRecDepth 20000 in
set_option maxHeartbeats 4000000 in
theorem t_Md_falseOnes_L39 {L : Nat} {xs : Nat → Int32} {p1 : Int32} {p2 : Int32} {k84 : vS → Option (Int32 × vS)} {D : Nat} (hD : 6 ≤ D) {r : Int32} {s' : vS} (hk84 : ∀ (s : vS), k84 s = some (r, s') → s_Ek (s_rows 3 L xs) D s_e255.1 84 [(0, .ref 151), (1, .int p1), (2, .int p2)] [] (v_mk s) (v_Q (some (.int r)) s')) : ∀ (n : Nat) (v3 : Int32) (s : vS), f_Md_falseOnes_L39 p1 p2 k84 n v3 s = some (r, s') → s_Ek (s_rows 3 L xs) D s_e255.1 39 [(0, .ref 151), (1, .int p1), (2, .int p2), (3, .int v3)] [] (v_mk s) (v_Q (some (.int r)) s') := by
  intro n
  induction n with
  | zero => intro v3 s h; exact nomatch (show (none : Option (Int32 × vS)) = some (r, s') from h)
  | succ n ih =>
    intro v3 s h
    replace h : f_Md_falseOnes_L39b p1 p2 k84 (f_Md_falseOnes_L39 p1 p2 k84 n) v3 s = some (r, s') := h
    unfold f_Md_falseOnes_L39b at h
    refine s_ek_bk 3 (P := 42) (ls' := [(0, .ref 151), (1, .int p1), (2, .int p2), (3, .int v3)]) (st' := [.ref 151, .int 1, .int v3]) (M' := v_mk s) rfl ?_
    refine v_gf rfl (v_gi (rfl : v_kd 151 = 11) rfl ⟨rfl, rfl, by decide⟩) ?_
    refine s_ek_bk 1 (P := 46) (ls' := [(0, .ref 151), (1, .int p1), (2, .int p2), (3, .int v3)]) (st' := [.int ((1 : Int32) <<< ((s.1 151 14) &&& 31)), .int v3]) (M' := v_mk s) rfl ?_
    rcases v_if h with ⟨c307, h⟩ | ⟨c307, h⟩
    · refine v_i2t (T := 84) rfl rfl c307 ?_
      refine v_ls (ls' := [(0, .ref 151), (1, .int p1), (2, .int p2)]) ⟨rfl, rfl, rfl, trivial⟩ (show ([0, 1, 2] : List Nat).Nodup from by decide) ?_
      exact hk84 _ h
    · refine v_i2f (T := 84) rfl rfl c307 ?_
      refine s_ek_bk 1 (P := 50) (ls' := [(0, .ref 151), (1, .int p1), (2, .int p2), (3, .int v3)]) (st' := [.int v3]) (M' := v_mk s) rfl ?_
      obtain ⟨r308, s308, e308, h⟩ := v_bd h
      refine v_cS (ν := s_e182.1) (w := 1457) (as := [.int v3]) (r := []) (o := some (.int r308)) (by omega) rfl rfl rfl rfl (t_Md_bitsOf e308 (by omega)) ?_
      show s_Ek (s_rows 3 L xs) D s_e255.1 53 [(0, .ref 151), (1, .int p1), (2, .int p2), (3, .int v3)] [.int r308] (v_mk s308) _
      refine s_ek_bk 1 (P := 54) (ls' := [(0, .ref 151), (1, .int p1), (2, .int p2), (3, .int v3)]) (st' := [.int p2, .int r308]) (M' := v_mk s308) rfl ?_
      rcases v_if h with ⟨c309, h⟩ | ⟨c309, h⟩
      · refine v_i2t (T := 60) rfl rfl c309 ?_
        refine s_ek_bk 3 (P := 63) (ls' := [(0, .ref 151), (1, .int p1), (2, .int p2), (3, .int v3)]) (st' := [.int (-1), .int v3, .ref 151]) (M' := v_mk s308) rfl ?_
        obtain ⟨r310, s310, e310, h⟩ := v_bd h
        refine v_cV (ν := s_e219.1) (w := 1754) (a := 151) (as' := [.int v3, .int (-1)]) (r := []) (o := none) (by omega) rfl rfl rfl (v_mk_kd (k := 11) (rfl : v_kd 151 = 11) (by decide)) rfl (t_Md_findStands e310 (by omega)) ?_
        show s_Ek (s_rows 3 L xs) D s_e255.1 66 [(0, .ref 151), (1, .int p1), (2, .int p2), (3, .int v3)] [] (v_mk s310) _
        refine s_ek_bk 2 (P := 68) (ls' := [(0, .ref 151), (1, .int p1), (2, .int p2), (3, .int v3)]) (st' := [.int p1, .ref 151]) (M' := v_mk s310) rfl ?_
        obtain ⟨r311, s311, e311, h⟩ := v_bd h
        refine v_cV (ν := s_e240.1) (w := 1921) (a := 151) (as' := [.int p1]) (r := []) (o := some (.int r311)) (by omega) rfl rfl rfl (v_mk_kd (k := 11) (rfl : v_kd 151 = 11) (by decide)) rfl (t_Md_wrongIn e311 (by omega)) ?_
        show s_Ek (s_rows 3 L xs) D s_e255.1 71 [(0, .ref 151), (1, .int p1), (2, .int p2), (3, .int v3)] [.int r311] (v_mk s311) _
        refine s_ek_bk 1 (P := 73) (ls' := [(0, .ref 151), (1, .int p1), (2, .int p2), (3, .int v3)]) (st' := [.int (-2), .int r311]) (M' := v_mk s311) rfl ?_
        rcases v_if h with ⟨c312, h⟩ | ⟨c312, h⟩
        · refine v_i2f (T := 78) rfl rfl (fun q => q c312) ?_
          refine s_ek_bk 1 (P := 77) (ls' := [(0, .ref 151), (1, .int p1), (2, .int p2), (3, .int v3)]) (st' := [.int v3]) (M' := v_mk s311) rfl ?_
          obtain ⟨rfl, rfl⟩ := v_so h
          exact v_ret (fun _ => rfl)
        · refine v_i2t (T := 78) rfl rfl c312 ?_
          refine s_ek_bk 2 (P := 39) (ls' := [(3, .int (v3 + 1)), (0, .ref 151), (1, .int p1), (2, .int p2)]) (st' := []) (M' := v_mk s311) rfl ?_
          refine v_ls (ls' := [(0, .ref 151), (1, .int p1), (2, .int p2), (3, .int (v3 + 1))]) ⟨rfl, rfl, rfl, rfl, trivial⟩ (show ([0, 1, 2, 3] : List Nat).Nodup from by decide) ?_
          exact ih _ _ h
      · refine v_i2f (T := 60) rfl rfl c309 ?_
        refine s_ek_bk 3 (P := 39) (ls' := [(3, .int (v3 + 1)), (0, .ref 151), (1, .int p1), (2, .int p2)]) (st' := []) (M' := v_mk s308) rfl ?_
        refine v_ls (ls' := [(0, .ref 151), (1, .int p1), (2, .int p2), (3, .int (v3 + 1))]) ⟨rfl, rfl, rfl, rfl, trivial⟩ (show ([0, 1, 2, 3] : List Nat).Nodup from by decide) ?_
        exact ih _ _ h
set_option maxRecDepth 20000 in
set_option maxHeartbeats 4000000 in
theorem t_Md_falseOnes_L29 {L : Nat} {xs : Nat → Int32} {p1 : Int32} {k90 : vS → Option (Int32 × vS)} {D : Nat} (hD : 6 ≤ D) {r : Int32} {s' : vS} (hk90 : ∀ (s : vS), k90 s = some (r, s') → s_Ek (s_rows 3 L xs) D s_e255.1 90 [] [] (v_mk s) (v_Q (some (.int r)) s')) : ∀ (n : Nat) (v2 : Int32) (s : vS), f_Md_falseOnes_L29 p1 k90 n v2 s = some (r, s') → s_Ek (s_rows 3 L xs) D s_e255.1 29 [(0, .ref 151), (1, .int p1), (2, .int v2)] [] (v_mk s) (v_Q (some (.int r)) s') := by
  intro n
  induction n with
  | zero => intro v2 s h; exact nomatch (show (none : Option (Int32 × vS)) = some (r, s') from h)
  | succ n ih =>
    intro v2 s h
    replace h : f_Md_falseOnes_L29b p1 k90 (f_Md_falseOnes_L29 p1 k90 n) v2 s = some (r, s') := h
    unfold f_Md_falseOnes_L29b at h
    refine s_ek_bk 2 (P := 31) (ls' := [(0, .ref 151), (1, .int p1), (2, .int v2)]) (st' := [.ref 151, .int v2]) (M' := v_mk s) rfl ?_
    refine v_gf rfl (v_gi (rfl : v_kd 151 = 11) rfl ⟨rfl, rfl, by decide⟩) ?_
    rcases v_if h with ⟨c106, h⟩ | ⟨c106, h⟩
    · refine v_i2t (T := 90) rfl rfl c106 ?_
      refine v_ls (ls' := []) trivial (show ([] : List Nat).Nodup from by decide) ?_
      exact hk90 _ h
    · refine v_i2f (T := 90) rfl rfl c106 ?_
      refine s_ek_bk 2 (P := 39) (ls' := [(3, .int 0), (0, .ref 151), (1, .int p1), (2, .int v2)]) (st' := []) (M' := v_mk s) rfl ?_
      refine v_ls (ls' := [(0, .ref 151), (1, .int p1), (2, .int v2), (3, .int 0)]) ⟨rfl, rfl, rfl, rfl, trivial⟩ (show ([0, 1, 2, 3] : List Nat).Nodup from by decide) ?_
      refine t_Md_falseOnes_L39 (by omega) (fun s107 h => ?_) 4096 _ _ h
      show s_Ek (s_rows 3 L xs) D s_e255.1 84 [(0, .ref 151), (1, .int p1), (2, .int v2)] [] (v_mk s107) _
      refine s_ek_bk 2 (P := 29) (ls' := [(2, .int (v2 + 1)), (0, .ref 151), (1, .int p1)]) (st' := []) (M' := v_mk s107) rfl ?_
      refine v_ls (ls' := [(0, .ref 151), (1, .int p1), (2, .int (v2 + 1))]) ⟨rfl, rfl, rfl, trivial⟩ (show ([0, 1, 2] : List Nat).Nodup from by decide) ?_
      exact ih _ _ h
set_option maxRecDepth 20000 in
set_option maxHeartbeats 4000000 in
theorem t_Md_falseOnes {L : Nat} {xs : Nat → Int32} {b : Int32} {D : Nat} {r : Int32} {s s' : vS} (h : f_Md_falseOnes b s = some (r, s')) (hD : 6 ≤ D) : s_Ek (s_rows 3 L xs) D s_e255.1 0 (lv_args 0 [.ref 151, .int b]) [] (v_mk s) (v_Q (some (.int r)) s') := by
  unfold f_Md_falseOnes at h
  show s_Ek (s_rows 3 L xs) D s_e255.1 0 [(0, .ref 151), (1, .int b)] [] (v_mk s) _
  refine s_ek_bk 1 (P := 1) (ls' := [(0, .ref 151), (1, .int b)]) (st' := [.int b]) (M' := v_mk s) rfl ?_
  obtain ⟨r1, s1, e1, h⟩ := v_bd h
  refine v_cS (ν := s_e281.1) (w := 2249) (as := [.int b]) (r := []) (o := some (.int r1)) (by omega) rfl rfl rfl rfl (t_Md_isShelf e1 (by omega)) ?_
  show s_Ek (s_rows 3 L xs) D s_e255.1 4 [(0, .ref 151), (1, .int b)] [.int r1] (v_mk s1) _
  rcases v_if h with ⟨c2, h⟩ | ⟨c2, h⟩
  · refine v_i1f (T := 9) rfl rfl (fun q => q c2) ?_
    refine s_ek_bk 1 (P := 8) (ls' := [(0, .ref 151), (1, .int b)]) (st' := [.int (-1)]) (M' := v_mk s1) rfl ?_
    obtain ⟨rfl, rfl⟩ := v_so h
    exact v_ret (fun _ => rfl)
  · refine v_i1t (T := 9) rfl rfl c2 ?_
    refine s_ek_bk 2 (P := 11) (ls' := [(0, .ref 151), (1, .int b)]) (st' := [.int b, .ref 151]) (M' := v_mk s1) rfl ?_
    obtain ⟨r3, s3, e3, h⟩ := v_bd h
    refine v_cV (ν := s_e236.1) (w := 1889) (a := 151) (as' := [.int b]) (r := []) (o := some (.int r3)) (by omega) rfl rfl rfl (v_mk_kd (k := 11) (rfl : v_kd 151 = 11) (by decide)) rfl (t_Md_rowFault e3 (by omega)) ?_
    show s_Ek (s_rows 3 L xs) D s_e255.1 14 [(0, .ref 151), (1, .int b)] [.int r3] (v_mk s3) _
    rcases v_if h with ⟨c4, h⟩ | ⟨c4, h⟩
    · refine v_i1t (T := 23) rfl rfl c4 ?_
      refine s_ek_bk 1 (P := 24) (ls' := [(0, .ref 151), (1, .int b)]) (st' := [.ref 151]) (M' := v_mk s3) rfl ?_
      obtain ⟨r5, s5, e5, h⟩ := v_bd h
      refine v_cV (ν := s_e222.1) (w := 1776) (a := 151) (as' := []) (r := []) (o := none) (by omega) rfl rfl rfl (v_mk_kd (k := 11) (rfl : v_kd 151 = 11) (by decide)) rfl (t_Md_findSpeaks e5 (by omega)) ?_
      show s_Ek (s_rows 3 L xs) D s_e255.1 27 [(0, .ref 151), (1, .int b)] [] (v_mk s5) _
      refine s_ek_bk 2 (P := 29) (ls' := [(2, .int 0), (0, .ref 151), (1, .int b)]) (st' := []) (M' := v_mk s5) rfl ?_
      refine v_ls (ls' := [(0, .ref 151), (1, .int b), (2, .int 0)]) ⟨rfl, rfl, rfl, trivial⟩ (show ([0, 1, 2] : List Nat).Nodup from by decide) ?_
      refine t_Md_falseOnes_L29 (by omega) (fun s6 h => ?_) 4096 _ _ h
      show s_Ek (s_rows 3 L xs) D s_e255.1 90 [] [] (v_mk s6) _
      refine s_ek_bk 1 (P := 92) (ls' := []) (st' := [.int (-2)]) (M' := v_mk s6) rfl ?_
      obtain ⟨rfl, rfl⟩ := v_so h
      exact v_ret (fun _ => rfl)
    · refine v_i1f (T := 23) rfl rfl c4 ?_
      refine s_ek_bk 2 (P := 19) (ls' := [(0, .ref 151), (1, .int b)]) (st' := [.int b, .ref 151]) (M' := v_mk s3) rfl ?_
      obtain ⟨r7, s7, e7, h⟩ := v_bd h
      refine v_cV (ν := s_e236.1) (w := 1889) (a := 151) (as' := [.int b]) (r := []) (o := some (.int r7)) (by omega) rfl rfl rfl (v_mk_kd (k := 11) (rfl : v_kd 151 = 11) (by decide)) rfl (t_Md_rowFault e7 (by omega)) ?_
      show s_Ek (s_rows 3 L xs) D s_e255.1 22 [(0, .ref 151), (1, .int b)] [.int r7] (v_mk s7) _
      obtain ⟨rfl, rfl⟩ := v_so h
      exact v_ret (fun _ => rfl)
noncomputable def f_Md_under_L47b (p1 : Int32) (p2 : Int32) (k79 : Int32 → vS → Option (Int32 × vS)) (again : Int32 → Int32 → vS → Option (Int32 × vS)) (v3 : Int32) (v4 : Int32) (s : vS) : Option (Int32 × vS) := (if (s.1 151 14).toInt ≤ v4.toInt then (k79 v3 s) else (if v_in v4 11 then (if (s.1 170 (Int32.toNatClampNeg v4)).toInt = 0 then (again v3 (v4 + 1) s) else (again (v3 ||| ((1 : Int32) <<< (v4 &&& 31))) (v4 + 1) s)) else none))
noncomputable def f_Md_under_L47 (p1 : Int32) (p2 : Int32) (k79 : Int32 → vS → Option (Int32 × vS)) (n : Nat) : Int32 → Int32 → vS → Option (Int32 × vS) := Nat.rec (motive := fun _ => Int32 → Int32 → vS → Option (Int32 × vS)) (fun _ _ _ => none) (fun _ again => f_Md_under_L47b p1 p2 k79 again) n
noncomputable def f_Md_under_L102b (p2 : Int32) (p3 : Int32) (p4 : Int32) (k146 : Int32 → vS → Option (Int32 × vS)) (again : Int32 → Int32 → vS → Option (Int32 × vS)) (v5 : Int32) (v6 : Int32) (s : vS) : Option (Int32 × vS) := (if (s.1 151 14).toInt ≤ v6.toInt then (k146 v5 s) else (if ((p3 >>> (v6 &&& 31)) &&& (1 : Int32)).toInt = 1 then (if v_in v6 11 then (if (s.1 170 (Int32.toNatClampNeg v6)).toInt = 0 then (again (v5 ||| ((1 : Int32) <<< (v6 &&& 31))) (v6 + 1) s) else (again v5 (v6 + 1) s)) else none) else (again v5 (v6 + 1) s)))
noncomputable def f_Md_under_L102 (p2 : Int32) (p3 : Int32) (p4 : Int32) (k146 : Int32 → vS → Option (Int32 × vS)) (n : Nat) : Int32 → Int32 → vS → Option (Int32 × vS) := Nat.rec (motive := fun _ => Int32 → Int32 → vS → Option (Int32 × vS)) (fun _ _ _ => none) (fun _ again => f_Md_under_L102b p2 p3 p4 k146 again) n
noncomputable def f_Md_under (b : Int32) (c : Int32) (s : vS) : Option (Int32 × vS) := (v_bi (f_Md_isLaw b s) (fun r1 s1 => (if r1.toInt = 0 then (some ((-1), s1)) else (v_bi (f_Md_in c 0 1 s1) (fun r3 s3 => (if r3.toInt = 0 then (some ((-1), s3)) else (v_bi (f_Md_isThere b s3) (fun r5 s5 => (if r5.toInt = 0 then (some ((-5), s5)) else (v_bi (f_Md_findAll s5) (fun _ s7 => (v_bi (f_Md_keepVerdicts (s7.1 151 18) s7) (fun _ s8 => (f_Md_under_L47 b c (fun w9 s10 => (v_bi (f_Md_findStands 0 b s10) (fun _ s11 => (v_bi (f_Md_unlikeNow (s11.1 151 18) 0 s11) (fun r12 s12 => (f_Md_under_L102 c w9 r12 (fun w13 s14 => (if c.toInt = 0 then (some (r12, s14)) else (some (w13, s14)))) 4096 0 0 s12)))))) 4096 0 0 s8))))))))))))))
set_option maxRecDepth 20000 in
set_option maxHeartbeats 4000000 in
theorem t_Md_under_L47 {L : Nat} {xs : Nat → Int32} {p1 : Int32} {p2 : Int32} {k79 : Int32 → vS → Option (Int32 × vS)} {D : Nat} (hD : 6 ≤ D) {r : Int32} {s' : vS} (hk79 : ∀ (v3 : Int32) (s : vS), k79 v3 s = some (r, s') → s_Ek (s_rows 3 L xs) D s_e256.1 79 [(0, .ref 151), (1, .int p1), (2, .int p2), (3, .int v3)] [] (v_mk s) (v_Q (some (.int r)) s')) : ∀ (n : Nat) (v3 : Int32) (v4 : Int32) (s : vS), f_Md_under_L47 p1 p2 k79 n v3 v4 s = some (r, s') → s_Ek (s_rows 3 L xs) D s_e256.1 47 [(0, .ref 151), (1, .int p1), (2, .int p2), (3, .int v3), (4, .int v4)] [] (v_mk s) (v_Q (some (.int r)) s') := by
  intro n
  induction n with
  | zero => intro v3 v4 s h; exact nomatch (show (none : Option (Int32 × vS)) = some (r, s') from h)
  | succ n ih =>
    intro v3 v4 s h
    replace h : f_Md_under_L47b p1 p2 k79 (f_Md_under_L47 p1 p2 k79 n) v3 v4 s = some (r, s') := h
    unfold f_Md_under_L47b at h
    refine s_ek_bk 2 (P := 50) (ls' := [(0, .ref 151), (1, .int p1), (2, .int p2), (3, .int v3), (4, .int v4)]) (st' := [.ref 151, .int v4]) (M' := v_mk s) rfl ?_
    refine v_gf rfl (v_gi (rfl : v_kd 151 = 11) rfl ⟨rfl, rfl, by decide⟩) ?_
    rcases v_if h with ⟨c109, h⟩ | ⟨c109, h⟩
    · refine v_i2t (T := 79) rfl rfl c109 ?_
      refine v_ls (ls' := [(0, .ref 151), (1, .int p1), (2, .int p2), (3, .int v3)]) ⟨rfl, rfl, rfl, rfl, trivial⟩ (show ([0, 1, 2, 3] : List Nat).Nodup from by decide) ?_
      exact hk79 _ _ h
    · refine v_i2f (T := 79) rfl rfl c109 ?_
      refine s_ek_bk 1 (P := 57) (ls' := [(0, .ref 151), (1, .int p1), (2, .int p2), (3, .int v3), (4, .int v4)]) (st' := [.ref 151]) (M' := v_mk s) rfl ?_
      refine v_gf rfl (v_gr (rfl : v_kd 151 = 11) (rfl : v_sl 151 29 = .ref 170) ⟨rfl, rfl, by decide⟩) ?_
      refine s_ek_bk 1 (P := 62) (ls' := [(0, .ref 151), (1, .int p1), (2, .int p2), (3, .int v3), (4, .int v4)]) (st' := [.int v4, .ref 170]) (M' := v_mk s) rfl ?_
      obtain ⟨c110, h⟩ := v_ck h
      refine v_ba (i := v4) rfl (v_ai (rfl : v_kd 170 = 16) rfl (by decide) v_all16 (v_cn (rfl : v_ln 170 = 11) c110)) ?_
      rcases v_if h with ⟨c111, h⟩ | ⟨c111, h⟩
      · refine v_i1t (T := 73) rfl rfl c111 ?_
        refine s_ek_bk 2 (P := 47) (ls' := [(4, .int (v4 + 1)), (0, .ref 151), (1, .int p1), (2, .int p2), (3, .int v3)]) (st' := []) (M' := v_mk s) rfl ?_
        refine v_ls (ls' := [(0, .ref 151), (1, .int p1), (2, .int p2), (3, .int v3), (4, .int (v4 + 1))]) ⟨rfl, rfl, rfl, rfl, rfl, trivial⟩ (show ([0, 1, 2, 3, 4] : List Nat).Nodup from by decide) ?_
        exact ih _ _ _ h
      · refine v_i1f (T := 73) rfl rfl c111 ?_
        refine s_ek_bk 8 (P := 47) (ls' := [(4, .int (v4 + 1)), (3, .int (v3 ||| ((1 : Int32) <<< (v4 &&& 31)))), (0, .ref 151), (1, .int p1), (2, .int p2)]) (st' := []) (M' := v_mk s) rfl ?_
        refine v_ls (ls' := [(0, .ref 151), (1, .int p1), (2, .int p2), (3, .int (v3 ||| ((1 : Int32) <<< (v4 &&& 31)))), (4, .int (v4 + 1))]) ⟨rfl, rfl, rfl, rfl, rfl, trivial⟩ (show ([0, 1, 2, 3, 4] : List Nat).Nodup from by decide) ?_
        exact ih _ _ _ h
set_option maxRecDepth 20000 in
set_option maxHeartbeats 4000000 in
theorem t_Md_under_L102 {L : Nat} {xs : Nat → Int32} {p2 : Int32} {p3 : Int32} {p4 : Int32} {k146 : Int32 → vS → Option (Int32 × vS)} {D : Nat} (hD : 6 ≤ D) {r : Int32} {s' : vS} (hk146 : ∀ (v5 : Int32) (s : vS), k146 v5 s = some (r, s') → s_Ek (s_rows 3 L xs) D s_e256.1 146 [(2, .int p2), (4, .int p4), (5, .int v5)] [] (v_mk s) (v_Q (some (.int r)) s')) : ∀ (n : Nat) (v5 : Int32) (v6 : Int32) (s : vS), f_Md_under_L102 p2 p3 p4 k146 n v5 v6 s = some (r, s') → s_Ek (s_rows 3 L xs) D s_e256.1 102 [(0, .ref 151), (2, .int p2), (3, .int p3), (4, .int p4), (5, .int v5), (6, .int v6)] [] (v_mk s) (v_Q (some (.int r)) s') := by
  intro n
  induction n with
  | zero => intro v5 v6 s h; exact nomatch (show (none : Option (Int32 × vS)) = some (r, s') from h)
  | succ n ih =>
    intro v5 v6 s h
    replace h : f_Md_under_L102b p2 p3 p4 k146 (f_Md_under_L102 p2 p3 p4 k146 n) v5 v6 s = some (r, s') := h
    unfold f_Md_under_L102b at h
    refine s_ek_bk 2 (P := 105) (ls' := [(0, .ref 151), (2, .int p2), (3, .int p3), (4, .int p4), (5, .int v5), (6, .int v6)]) (st' := [.ref 151, .int v6]) (M' := v_mk s) rfl ?_
    refine v_gf rfl (v_gi (rfl : v_kd 151 = 11) rfl ⟨rfl, rfl, by decide⟩) ?_
    rcases v_if h with ⟨c213, h⟩ | ⟨c213, h⟩
    · refine v_i2t (T := 146) rfl rfl c213 ?_
      refine v_ls (ls' := [(2, .int p2), (4, .int p4), (5, .int v5)]) ⟨rfl, rfl, rfl, trivial⟩ (show ([2, 4, 5] : List Nat).Nodup from by decide) ?_
      exact hk146 _ _ h
    · refine v_i2f (T := 146) rfl rfl c213 ?_
      refine s_ek_bk 6 (P := 118) (ls' := [(0, .ref 151), (2, .int p2), (3, .int p3), (4, .int p4), (5, .int v5), (6, .int v6)]) (st' := [.int 1, .int ((p3 >>> (v6 &&& 31)) &&& (1 : Int32))]) (M' := v_mk s) rfl ?_
      rcases v_if h with ⟨c214, h⟩ | ⟨c214, h⟩
      · refine v_i2f (T := 140) rfl rfl (fun q => q c214) ?_
        refine s_ek_bk 1 (P := 122) (ls' := [(0, .ref 151), (2, .int p2), (3, .int p3), (4, .int p4), (5, .int v5), (6, .int v6)]) (st' := [.ref 151]) (M' := v_mk s) rfl ?_
        refine v_gf rfl (v_gr (rfl : v_kd 151 = 11) (rfl : v_sl 151 29 = .ref 170) ⟨rfl, rfl, by decide⟩) ?_
        refine s_ek_bk 1 (P := 127) (ls' := [(0, .ref 151), (2, .int p2), (3, .int p3), (4, .int p4), (5, .int v5), (6, .int v6)]) (st' := [.int v6, .ref 170]) (M' := v_mk s) rfl ?_
        obtain ⟨c215, h⟩ := v_ck h
        refine v_ba (i := v6) rfl (v_ai (rfl : v_kd 170 = 16) rfl (by decide) v_all16 (v_cn (rfl : v_ln 170 = 11) c215)) ?_
        rcases v_if h with ⟨c216, h⟩ | ⟨c216, h⟩
        · refine v_i1f (T := 140) rfl rfl (fun q => q c216) ?_
          refine s_ek_bk 8 (P := 102) (ls' := [(6, .int (v6 + 1)), (5, .int (v5 ||| ((1 : Int32) <<< (v6 &&& 31)))), (0, .ref 151), (2, .int p2), (3, .int p3), (4, .int p4)]) (st' := []) (M' := v_mk s) rfl ?_
          refine v_ls (ls' := [(0, .ref 151), (2, .int p2), (3, .int p3), (4, .int p4), (5, .int (v5 ||| ((1 : Int32) <<< (v6 &&& 31)))), (6, .int (v6 + 1))]) ⟨rfl, rfl, rfl, rfl, rfl, rfl, trivial⟩ (show ([0, 2, 3, 4, 5, 6] : List Nat).Nodup from by decide) ?_
          exact ih _ _ _ h
        · refine v_i1t (T := 140) rfl rfl c216 ?_
          refine s_ek_bk 2 (P := 102) (ls' := [(6, .int (v6 + 1)), (0, .ref 151), (2, .int p2), (3, .int p3), (4, .int p4), (5, .int v5)]) (st' := []) (M' := v_mk s) rfl ?_
          refine v_ls (ls' := [(0, .ref 151), (2, .int p2), (3, .int p3), (4, .int p4), (5, .int v5), (6, .int (v6 + 1))]) ⟨rfl, rfl, rfl, rfl, rfl, rfl, trivial⟩ (show ([0, 2, 3, 4, 5, 6] : List Nat).Nodup from by decide) ?_
          exact ih _ _ _ h
      · refine v_i2t (T := 140) rfl rfl c214 ?_
        refine s_ek_bk 2 (P := 102) (ls' := [(6, .int (v6 + 1)), (0, .ref 151), (2, .int p2), (3, .int p3), (4, .int p4), (5, .int v5)]) (st' := []) (M' := v_mk s) rfl ?_
        refine v_ls (ls' := [(0, .ref 151), (2, .int p2), (3, .int p3), (4, .int p4), (5, .int v5), (6, .int (v6 + 1))]) ⟨rfl, rfl, rfl, rfl, rfl, rfl, trivial⟩ (show ([0, 2, 3, 4, 5, 6] : List Nat).Nodup from by decide) ?_
        exact ih _ _ _ h
set_option maxRecDepth 20000 in
set_option maxHeartbeats 4000000 in
theorem t_Md_under {L : Nat} {xs : Nat → Int32} {b : Int32} {c : Int32} {D : Nat} {r : Int32} {s s' : vS} (h : f_Md_under b c s = some (r, s')) (hD : 6 ≤ D) : s_Ek (s_rows 3 L xs) D s_e256.1 0 (lv_args 0 [.ref 151, .int b, .int c]) [] (v_mk s) (v_Q (some (.int r)) s') := by
  unfold f_Md_under at h
  show s_Ek (s_rows 3 L xs) D s_e256.1 0 [(0, .ref 151), (1, .int b), (2, .int c)] [] (v_mk s) _
  refine s_ek_bk 2 (P := 2) (ls' := [(0, .ref 151), (1, .int b), (2, .int c)]) (st' := [.int b, .ref 151]) (M' := v_mk s) rfl ?_
  obtain ⟨r1, s1, e1, h⟩ := v_bd h
  refine v_cV (ν := s_e201.1) (w := 1609) (a := 151) (as' := [.int b]) (r := []) (o := some (.int r1)) (by omega) rfl rfl rfl (v_mk_kd (k := 11) (rfl : v_kd 151 = 11) (by decide)) rfl (t_Md_isLaw e1 (by omega)) ?_
  show s_Ek (s_rows 3 L xs) D s_e256.1 5 [(0, .ref 151), (1, .int b), (2, .int c)] [.int r1] (v_mk s1) _
  rcases v_if h with ⟨c2, h⟩ | ⟨c2, h⟩
  · refine v_i1t (T := 17) rfl rfl c2 ?_
    refine s_ek_bk 1 (P := 18) (ls' := [(0, .ref 151), (1, .int b), (2, .int c)]) (st' := [.int (-1)]) (M' := v_mk s1) rfl ?_
    obtain ⟨rfl, rfl⟩ := v_so h
    exact v_ret (fun _ => rfl)
  · refine v_i1f (T := 17) rfl rfl c2 ?_
    refine s_ek_bk 3 (P := 11) (ls' := [(0, .ref 151), (1, .int b), (2, .int c)]) (st' := [.int 1, .int 0, .int c]) (M' := v_mk s1) rfl ?_
    obtain ⟨r3, s3, e3, h⟩ := v_bd h
    refine v_cS (ν := s_e181.1) (w := 1451) (as := [.int c, .int 0, .int 1]) (r := []) (o := some (.int r3)) (by omega) rfl rfl rfl rfl (t_Md_in e3 (by omega)) ?_
    show s_Ek (s_rows 3 L xs) D s_e256.1 14 [(0, .ref 151), (1, .int b), (2, .int c)] [.int r3] (v_mk s3) _
    rcases v_if h with ⟨c4, h⟩ | ⟨c4, h⟩
    · refine v_i1f (T := 19) rfl rfl (fun q => q c4) ?_
      refine s_ek_bk 1 (P := 18) (ls' := [(0, .ref 151), (1, .int b), (2, .int c)]) (st' := [.int (-1)]) (M' := v_mk s3) rfl ?_
      obtain ⟨rfl, rfl⟩ := v_so h
      exact v_ret (fun _ => rfl)
    · refine v_i1t (T := 19) rfl rfl c4 ?_
      refine s_ek_bk 2 (P := 21) (ls' := [(0, .ref 151), (1, .int b), (2, .int c)]) (st' := [.int b, .ref 151]) (M' := v_mk s3) rfl ?_
      obtain ⟨r5, s5, e5, h⟩ := v_bd h
      refine v_cV (ν := s_e202.1) (w := 1617) (a := 151) (as' := [.int b]) (r := []) (o := some (.int r5)) (by omega) rfl rfl rfl (v_mk_kd (k := 11) (rfl : v_kd 151 = 11) (by decide)) rfl (t_Md_isThere e5 (by omega)) ?_
      show s_Ek (s_rows 3 L xs) D s_e256.1 24 [(0, .ref 151), (1, .int b), (2, .int c)] [.int r5] (v_mk s5) _
      rcases v_if h with ⟨c6, h⟩ | ⟨c6, h⟩
      · refine v_i1f (T := 30) rfl rfl (fun q => q c6) ?_
        refine s_ek_bk 1 (P := 29) (ls' := [(0, .ref 151), (1, .int b), (2, .int c)]) (st' := [.int (-5)]) (M' := v_mk s5) rfl ?_
        obtain ⟨rfl, rfl⟩ := v_so h
        exact v_ret (fun _ => rfl)
      · refine v_i1t (T := 30) rfl rfl c6 ?_
        refine s_ek_bk 1 (P := 31) (ls' := [(0, .ref 151), (1, .int b), (2, .int c)]) (st' := [.ref 151]) (M' := v_mk s5) rfl ?_
        obtain ⟨r7, s7, e7, h⟩ := v_bd h
        refine v_cV (ν := s_e223.1) (w := 1784) (a := 151) (as' := []) (r := []) (o := none) (by omega) rfl rfl rfl (v_mk_kd (k := 11) (rfl : v_kd 151 = 11) (by decide)) rfl (t_Md_findAll e7 (by omega)) ?_
        show s_Ek (s_rows 3 L xs) D s_e256.1 34 [(0, .ref 151), (1, .int b), (2, .int c)] [] (v_mk s7) _
        refine s_ek_bk 2 (P := 36) (ls' := [(0, .ref 151), (1, .int b), (2, .int c)]) (st' := [.ref 151, .ref 151]) (M' := v_mk s7) rfl ?_
        refine v_gf rfl (v_gi (rfl : v_kd 151 = 11) rfl ⟨rfl, rfl, by decide⟩) ?_
        obtain ⟨r8, s8, e8, h⟩ := v_bd h
        refine v_cV (ν := s_e252.1) (w := 2017) (a := 151) (as' := [.int (s7.1 151 18)]) (r := []) (o := none) (by omega) rfl rfl rfl (v_mk_kd (k := 11) (rfl : v_kd 151 = 11) (by decide)) rfl (t_Md_keepVerdicts e8 (by omega)) ?_
        show s_Ek (s_rows 3 L xs) D s_e256.1 42 [(0, .ref 151), (1, .int b), (2, .int c)] [] (v_mk s8) _
        refine s_ek_bk 4 (P := 47) (ls' := [(4, .int 0), (3, .int 0), (0, .ref 151), (1, .int b), (2, .int c)]) (st' := []) (M' := v_mk s8) rfl ?_
        refine v_ls (ls' := [(0, .ref 151), (1, .int b), (2, .int c), (3, .int 0), (4, .int 0)]) ⟨rfl, rfl, rfl, rfl, rfl, trivial⟩ (show ([0, 1, 2, 3, 4] : List Nat).Nodup from by decide) ?_
        refine t_Md_under_L47 (by omega) (fun w9 s10 h => ?_) 4096 _ _ _ h
        show s_Ek (s_rows 3 L xs) D s_e256.1 79 [(0, .ref 151), (1, .int b), (2, .int c), (3, .int w9)] [] (v_mk s10) _
        refine s_ek_bk 3 (P := 82) (ls' := [(0, .ref 151), (1, .int b), (2, .int c), (3, .int w9)]) (st' := [.int b, .int 0, .ref 151]) (M' := v_mk s10) rfl ?_
        obtain ⟨r11, s11, e11, h⟩ := v_bd h
        refine v_cV (ν := s_e219.1) (w := 1754) (a := 151) (as' := [.int 0, .int b]) (r := []) (o := none) (by omega) rfl rfl rfl (v_mk_kd (k := 11) (rfl : v_kd 151 = 11) (by decide)) rfl (t_Md_findStands e11 (by omega)) ?_
        show s_Ek (s_rows 3 L xs) D s_e256.1 85 [(0, .ref 151), (1, .int b), (2, .int c), (3, .int w9)] [] (v_mk s11) _
        refine s_ek_bk 2 (P := 87) (ls' := [(0, .ref 151), (1, .int b), (2, .int c), (3, .int w9)]) (st' := [.ref 151, .ref 151]) (M' := v_mk s11) rfl ?_
        refine v_gf rfl (v_gi (rfl : v_kd 151 = 11) rfl ⟨rfl, rfl, by decide⟩) ?_
        refine s_ek_bk 1 (P := 91) (ls' := [(0, .ref 151), (1, .int b), (2, .int c), (3, .int w9)]) (st' := [.int 0, .int (s11.1 151 18), .ref 151]) (M' := v_mk s11) rfl ?_
        obtain ⟨r12, s12, e12, h⟩ := v_bd h
        refine v_cV (ν := s_e253.1) (w := 2026) (a := 151) (as' := [.int (s11.1 151 18), .int 0]) (r := []) (o := some (.int r12)) (by omega) rfl rfl rfl (v_mk_kd (k := 11) (rfl : v_kd 151 = 11) (by decide)) rfl (t_Md_unlikeNow e12 (by omega)) ?_
        show s_Ek (s_rows 3 L xs) D s_e256.1 94 [(0, .ref 151), (1, .int b), (2, .int c), (3, .int w9)] [.int r12] (v_mk s12) _
        refine s_ek_bk 5 (P := 102) (ls' := [(6, .int 0), (5, .int 0), (4, .int r12), (0, .ref 151), (1, .int b), (2, .int c), (3, .int w9)]) (st' := []) (M' := v_mk s12) rfl ?_
        refine v_ls (ls' := [(0, .ref 151), (2, .int c), (3, .int w9), (4, .int r12), (5, .int 0), (6, .int 0)]) ⟨rfl, rfl, rfl, rfl, rfl, rfl, trivial⟩ (show ([0, 2, 3, 4, 5, 6] : List Nat).Nodup from by decide) ?_
        refine t_Md_under_L102 (by omega) (fun w13 s14 h => ?_) 4096 _ _ _ h
        show s_Ek (s_rows 3 L xs) D s_e256.1 146 [(2, .int c), (4, .int r12), (5, .int w13)] [] (v_mk s14) _
        refine s_ek_bk 1 (P := 147) (ls' := [(2, .int c), (4, .int r12), (5, .int w13)]) (st' := [.int c]) (M' := v_mk s14) rfl ?_
        rcases v_if h with ⟨c15, h⟩ | ⟨c15, h⟩
        · refine v_i1f (T := 155) rfl rfl (fun q => q c15) ?_
          refine s_ek_bk 2 (P := 157) (ls' := [(2, .int c), (4, .int r12), (5, .int w13)]) (st' := [.int r12]) (M' := v_mk s14) rfl ?_
          obtain ⟨rfl, rfl⟩ := v_so h
          exact v_ret (fun _ => rfl)
        · refine v_i1t (T := 155) rfl rfl c15 ?_
          refine s_ek_bk 1 (P := 157) (ls' := [(2, .int c), (4, .int r12), (5, .int w13)]) (st' := [.int w13]) (M' := v_mk s14) rfl ?_
          obtain ⟨rfl, rfl⟩ := v_so h
          exact v_ret (fun _ => rfl)
noncomputable def f_Md_unlike (b : Int32) (c : Int32) (s : vS) : Option (Int32 × vS) := (if b.toInt < 0 then (some ((-1), s)) else (if 3 < (b / (10 : Int32)).toInt then (some ((-1), s)) else (if 3 < (b - b / (10 : Int32) * (10 : Int32)).toInt then (some ((-1), s)) else (v_bi (f_Md_in c 0 1 s) (fun r4 s4 => (if r4.toInt = 0 then (some ((-1), s4)) else (v_bi (f_Md_findAll s4) (fun _ s6 => (v_bi (f_Md_keepVerdicts (b / (10 : Int32)) s6) (fun _ s7 => (v_bi (f_Md_unlikeNow (b - b / (10 : Int32) * (10 : Int32)) c s7) (fun r8 s8 => (some (r8, s8))))))))))))))
set_option maxRecDepth 20000 in
set_option maxHeartbeats 4000000 in
theorem t_Md_unlike {L : Nat} {xs : Nat → Int32} {b : Int32} {c : Int32} {D : Nat} {r : Int32} {s s' : vS} (h : f_Md_unlike b c s = some (r, s')) (hD : 6 ≤ D) : s_Ek (s_rows 3 L xs) D s_e257.1 0 (lv_args 0 [.ref 151, .int b, .int c]) [] (v_mk s) (v_Q (some (.int r)) s') := by
  unfold f_Md_unlike at h
  show s_Ek (s_rows 3 L xs) D s_e257.1 0 [(0, .ref 151), (1, .int b), (2, .int c)] [] (v_mk s) _
  refine s_ek_bk 1 (P := 1) (ls' := [(0, .ref 151), (1, .int b), (2, .int c)]) (st' := [.int b]) (M' := v_mk s) rfl ?_
  rcases v_if h with ⟨c1, h⟩ | ⟨c1, h⟩
  · refine v_i1t (T := 29) rfl rfl c1 ?_
    refine s_ek_bk 1 (P := 30) (ls' := [(0, .ref 151), (1, .int b), (2, .int c)]) (st' := [.int (-1)]) (M' := v_mk s) rfl ?_
    obtain ⟨rfl, rfl⟩ := v_so h
    exact v_ret (fun _ => rfl)
  · refine v_i1f (T := 29) rfl rfl c1 ?_
    refine s_ek_bk 4 (P := 9) (ls' := [(0, .ref 151), (1, .int b), (2, .int c)]) (st' := [.int 3, .int (b / (10 : Int32))]) (M' := v_mk s) rfl ?_
    rcases v_if h with ⟨c2, h⟩ | ⟨c2, h⟩
    · refine v_i2t (T := 29) rfl rfl c2 ?_
      refine s_ek_bk 1 (P := 30) (ls' := [(0, .ref 151), (1, .int b), (2, .int c)]) (st' := [.int (-1)]) (M' := v_mk s) rfl ?_
      obtain ⟨rfl, rfl⟩ := v_so h
      exact v_ret (fun _ => rfl)
    · refine v_i2f (T := 29) rfl rfl c2 ?_
      refine s_ek_bk 4 (P := 17) (ls' := [(0, .ref 151), (1, .int b), (2, .int c)]) (st' := [.int 3, .int (b - b / (10 : Int32) * (10 : Int32))]) (M' := v_mk s) rfl ?_
      rcases v_if h with ⟨c3, h⟩ | ⟨c3, h⟩
      · refine v_i2t (T := 29) rfl rfl c3 ?_
        refine s_ek_bk 1 (P := 30) (ls' := [(0, .ref 151), (1, .int b), (2, .int c)]) (st' := [.int (-1)]) (M' := v_mk s) rfl ?_
        obtain ⟨rfl, rfl⟩ := v_so h
        exact v_ret (fun _ => rfl)
      · refine v_i2f (T := 29) rfl rfl c3 ?_
        refine s_ek_bk 3 (P := 23) (ls' := [(0, .ref 151), (1, .int b), (2, .int c)]) (st' := [.int 1, .int 0, .int c]) (M' := v_mk s) rfl ?_
        obtain ⟨r4, s4, e4, h⟩ := v_bd h
        refine v_cS (ν := s_e181.1) (w := 1451) (as := [.int c, .int 0, .int 1]) (r := []) (o := some (.int r4)) (by omega) rfl rfl rfl rfl (t_Md_in e4 (by omega)) ?_
        show s_Ek (s_rows 3 L xs) D s_e257.1 26 [(0, .ref 151), (1, .int b), (2, .int c)] [.int r4] (v_mk s4) _
        rcases v_if h with ⟨c5, h⟩ | ⟨c5, h⟩
        · refine v_i1f (T := 31) rfl rfl (fun q => q c5) ?_
          refine s_ek_bk 1 (P := 30) (ls' := [(0, .ref 151), (1, .int b), (2, .int c)]) (st' := [.int (-1)]) (M' := v_mk s4) rfl ?_
          obtain ⟨rfl, rfl⟩ := v_so h
          exact v_ret (fun _ => rfl)
        · refine v_i1t (T := 31) rfl rfl c5 ?_
          refine s_ek_bk 1 (P := 32) (ls' := [(0, .ref 151), (1, .int b), (2, .int c)]) (st' := [.ref 151]) (M' := v_mk s4) rfl ?_
          obtain ⟨r6, s6, e6, h⟩ := v_bd h
          refine v_cV (ν := s_e223.1) (w := 1784) (a := 151) (as' := []) (r := []) (o := none) (by omega) rfl rfl rfl (v_mk_kd (k := 11) (rfl : v_kd 151 = 11) (by decide)) rfl (t_Md_findAll e6 (by omega)) ?_
          show s_Ek (s_rows 3 L xs) D s_e257.1 35 [(0, .ref 151), (1, .int b), (2, .int c)] [] (v_mk s6) _
          refine s_ek_bk 4 (P := 40) (ls' := [(0, .ref 151), (1, .int b), (2, .int c)]) (st' := [.int (b / (10 : Int32)), .ref 151]) (M' := v_mk s6) rfl ?_
          obtain ⟨r7, s7, e7, h⟩ := v_bd h
          refine v_cV (ν := s_e252.1) (w := 2017) (a := 151) (as' := [.int (b / (10 : Int32))]) (r := []) (o := none) (by omega) rfl rfl rfl (v_mk_kd (k := 11) (rfl : v_kd 151 = 11) (by decide)) rfl (t_Md_keepVerdicts e7 (by omega)) ?_
          show s_Ek (s_rows 3 L xs) D s_e257.1 43 [(0, .ref 151), (1, .int b), (2, .int c)] [] (v_mk s7) _
          refine s_ek_bk 5 (P := 49) (ls' := [(0, .ref 151), (1, .int b), (2, .int c)]) (st' := [.int c, .int (b - b / (10 : Int32) * (10 : Int32)), .ref 151]) (M' := v_mk s7) rfl ?_
          obtain ⟨r8, s8, e8, h⟩ := v_bd h
          refine v_cV (ν := s_e253.1) (w := 2026) (a := 151) (as' := [.int (b - b / (10 : Int32) * (10 : Int32)), .int c]) (r := []) (o := some (.int r8)) (by omega) rfl rfl rfl (v_mk_kd (k := 11) (rfl : v_kd 151 = 11) (by decide)) rfl (t_Md_unlikeNow e8 (by omega)) ?_
          show s_Ek (s_rows 3 L xs) D s_e257.1 52 [(0, .ref 151), (1, .int b), (2, .int c)] [.int r8] (v_mk s8) _
          obtain ⟨rfl, rfl⟩ := v_so h
          exact v_ret (fun _ => rfl)
noncomputable def f_Md_struckBy (b : Int32) (s : vS) : Option (Int32 × vS) := (if v_in b 11 then (v_bi (f_Md_isLaw (s.1 162 (Int32.toNatClampNeg b)) s) (fun r2 s2 => (if r2.toInt = 0 then (some ((-1), s2)) else (if v_in b 11 then (v_bi (f_Md_isThere (s2.1 162 (Int32.toNatClampNeg b)) s2) (fun r5 s5 => (if r5.toInt = 0 then (some ((-1), s5)) else (if v_in b 11 then (some ((s5.1 162 (Int32.toNatClampNeg b)), s5)) else none)))) else none)))) else none)
set_option maxRecDepth 20000 in
set_option maxHeartbeats 4000000 in
theorem t_Md_struckBy {L : Nat} {xs : Nat → Int32} {b : Int32} {D : Nat} {r : Int32} {s s' : vS} (h : f_Md_struckBy b s = some (r, s')) (hD : 2 ≤ D) : s_Ek (s_rows 3 L xs) D s_e258.1 0 (lv_args 0 [.ref 151, .int b]) [] (v_mk s) (v_Q (some (.int r)) s') := by
  unfold f_Md_struckBy at h
  show s_Ek (s_rows 3 L xs) D s_e258.1 0 [(0, .ref 151), (1, .int b)] [] (v_mk s) _
  refine s_ek_bk 2 (P := 2) (ls' := [(0, .ref 151), (1, .int b)]) (st' := [.ref 151, .ref 151]) (M' := v_mk s) rfl ?_
  refine v_gf rfl (v_gr (rfl : v_kd 151 = 11) (rfl : v_sl 151 17 = .ref 162) ⟨rfl, rfl, by decide⟩) ?_
  refine s_ek_bk 1 (P := 6) (ls' := [(0, .ref 151), (1, .int b)]) (st' := [.int b, .ref 162, .ref 151]) (M' := v_mk s) rfl ?_
  obtain ⟨c1, h⟩ := v_ck h
  refine v_ia (i := b) rfl (v_ai (rfl : v_kd 162 = 13) rfl (by decide) v_all13 (v_cn (rfl : v_ln 162 = 11) c1)) ?_
  obtain ⟨r2, s2, e2, h⟩ := v_bd h
  refine v_cV (ν := s_e201.1) (w := 1609) (a := 151) (as' := [.int (s.1 162 (Int32.toNatClampNeg b))]) (r := []) (o := some (.int r2)) (by omega) rfl rfl rfl (v_mk_kd (k := 11) (rfl : v_kd 151 = 11) (by decide)) rfl (t_Md_isLaw e2 (by omega)) ?_
  show s_Ek (s_rows 3 L xs) D s_e258.1 10 [(0, .ref 151), (1, .int b)] [.int r2] (v_mk s2) _
  rcases v_if h with ⟨c3, h⟩ | ⟨c3, h⟩
  · refine v_i1t (T := 35) rfl rfl c3 ?_
    refine s_ek_bk 1 (P := 36) (ls' := [(0, .ref 151), (1, .int b)]) (st' := [.int (-1)]) (M' := v_mk s2) rfl ?_
    obtain ⟨rfl, rfl⟩ := v_so h
    exact v_ret (fun _ => rfl)
  · refine v_i1f (T := 35) rfl rfl c3 ?_
    refine s_ek_bk 2 (P := 15) (ls' := [(0, .ref 151), (1, .int b)]) (st' := [.ref 151, .ref 151]) (M' := v_mk s2) rfl ?_
    refine v_gf rfl (v_gr (rfl : v_kd 151 = 11) (rfl : v_sl 151 17 = .ref 162) ⟨rfl, rfl, by decide⟩) ?_
    refine s_ek_bk 1 (P := 19) (ls' := [(0, .ref 151), (1, .int b)]) (st' := [.int b, .ref 162, .ref 151]) (M' := v_mk s2) rfl ?_
    obtain ⟨c4, h⟩ := v_ck h
    refine v_ia (i := b) rfl (v_ai (rfl : v_kd 162 = 13) rfl (by decide) v_all13 (v_cn (rfl : v_ln 162 = 11) c4)) ?_
    obtain ⟨r5, s5, e5, h⟩ := v_bd h
    refine v_cV (ν := s_e202.1) (w := 1617) (a := 151) (as' := [.int (s2.1 162 (Int32.toNatClampNeg b))]) (r := []) (o := some (.int r5)) (by omega) rfl rfl rfl (v_mk_kd (k := 11) (rfl : v_kd 151 = 11) (by decide)) rfl (t_Md_isThere e5 (by omega)) ?_
    show s_Ek (s_rows 3 L xs) D s_e258.1 23 [(0, .ref 151), (1, .int b)] [.int r5] (v_mk s5) _
    rcases v_if h with ⟨c6, h⟩ | ⟨c6, h⟩
    · refine v_i1t (T := 35) rfl rfl c6 ?_
      refine s_ek_bk 1 (P := 36) (ls' := [(0, .ref 151), (1, .int b)]) (st' := [.int (-1)]) (M' := v_mk s5) rfl ?_
      obtain ⟨rfl, rfl⟩ := v_so h
      exact v_ret (fun _ => rfl)
    · refine v_i1f (T := 35) rfl rfl c6 ?_
      refine s_ek_bk 1 (P := 27) (ls' := [(0, .ref 151), (1, .int b)]) (st' := [.ref 151]) (M' := v_mk s5) rfl ?_
      refine v_gf rfl (v_gr (rfl : v_kd 151 = 11) (rfl : v_sl 151 17 = .ref 162) ⟨rfl, rfl, by decide⟩) ?_
      refine s_ek_bk 1 (P := 31) (ls' := [(0, .ref 151), (1, .int b)]) (st' := [.int b, .ref 162]) (M' := v_mk s5) rfl ?_
      obtain ⟨c7, h⟩ := v_ck h
      refine v_ia (i := b) rfl (v_ai (rfl : v_kd 162 = 13) rfl (by decide) v_all13 (v_cn (rfl : v_ln 162 = 11) c7)) ?_
      refine s_ek_bk 1 (P := 36) (ls' := [(0, .ref 151), (1, .int b)]) (st' := [.int (s5.1 162 (Int32.toNatClampNeg b))]) (M' := v_mk s5) rfl ?_
      obtain ⟨rfl, rfl⟩ := v_so h
      exact v_ret (fun _ => rfl)
noncomputable def f_Md_rings_L32b (p1 : Int32) (p2 : Int32) (k60 : Int32 → vS → Option (Int32 × vS)) (again : Int32 → Int32 → vS → Option (Int32 × vS)) (v3 : Int32) (v4 : Int32) (s : vS) : Option (Int32 × vS) := (if 10 ≤ v4.toInt then (k60 v3 s) else (if v3.toInt < 0 then (k60 v3 s) else (if v3.toInt = p2.toInt then (k60 v3 s) else (v_bi (f_Md_struckBy v3 s) (fun r308 s308 => (again r308 (v4 + 1) s308))))))
noncomputable def f_Md_rings_L32 (p1 : Int32) (p2 : Int32) (k60 : Int32 → vS → Option (Int32 × vS)) (n : Nat) : Int32 → Int32 → vS → Option (Int32 × vS) := Nat.rec (motive := fun _ => Int32 → Int32 → vS → Option (Int32 × vS)) (fun _ _ _ => none) (fun _ again => f_Md_rings_L32b p1 p2 k60 again) n
noncomputable def f_Md_rings_L4b (k77 : Int32 → vS → Option (Int32 × vS)) (again : Int32 → Int32 → vS → Option (Int32 × vS)) (v1 : Int32) (v2 : Int32) (s : vS) : Option (Int32 × vS) := (if (s.1 151 14).toInt ≤ v2.toInt then (k77 v1 s) else (v_bi (f_Md_isThere v2 s) (fun r102 s102 => (if r102.toInt = 0 then (again v1 (v2 + 1) s102) else (v_bi (f_Md_struckBy v2 s102) (fun r104 s104 => (f_Md_rings_L32 v1 v2 (fun w105 s106 => (if w105.toInt = v2.toInt then (again (v1 ||| ((1 : Int32) <<< (v2 &&& 31))) (v2 + 1) s106) else (again v1 (v2 + 1) s106))) 4096 r104 0 s104)))))))
noncomputable def f_Md_rings_L4 (k77 : Int32 → vS → Option (Int32 × vS)) (n : Nat) : Int32 → Int32 → vS → Option (Int32 × vS) := Nat.rec (motive := fun _ => Int32 → Int32 → vS → Option (Int32 × vS)) (fun _ _ _ => none) (fun _ again => f_Md_rings_L4b k77 again) n
noncomputable def f_Md_rings (s : vS) : Option (Int32 × vS) := (f_Md_rings_L4 (fun w1 s2 => (some (w1, s2))) 4096 0 0 s)
set_option maxRecDepth 20000 in
set_option maxHeartbeats 4000000 in
theorem t_Md_rings_L32 {L : Nat} {xs : Nat → Int32} {p1 : Int32} {p2 : Int32} {k60 : Int32 → vS → Option (Int32 × vS)} {D : Nat} (hD : 3 ≤ D) {r : Int32} {s' : vS} (hk60 : ∀ (v3 : Int32) (s : vS), k60 v3 s = some (r, s') → s_Ek (s_rows 3 L xs) D s_e259.1 60 [(0, .ref 151), (1, .int p1), (2, .int p2), (3, .int v3)] [] (v_mk s) (v_Q (some (.int r)) s')) : ∀ (n : Nat) (v3 : Int32) (v4 : Int32) (s : vS), f_Md_rings_L32 p1 p2 k60 n v3 v4 s = some (r, s') → s_Ek (s_rows 3 L xs) D s_e259.1 32 [(0, .ref 151), (1, .int p1), (2, .int p2), (3, .int v3), (4, .int v4)] [] (v_mk s) (v_Q (some (.int r)) s') := by
  intro n
  induction n with
  | zero => intro v3 v4 s h; exact nomatch (show (none : Option (Int32 × vS)) = some (r, s') from h)
  | succ n ih =>
    intro v3 v4 s h
    replace h : f_Md_rings_L32b p1 p2 k60 (f_Md_rings_L32 p1 p2 k60 n) v3 v4 s = some (r, s') := h
    unfold f_Md_rings_L32b at h
    refine s_ek_bk 2 (P := 36) (ls' := [(0, .ref 151), (1, .int p1), (2, .int p2), (3, .int v3), (4, .int v4)]) (st' := [.int 10, .int v4]) (M' := v_mk s) rfl ?_
    rcases v_if h with ⟨c305, h⟩ | ⟨c305, h⟩
    · refine v_i2t (T := 60) rfl rfl c305 ?_
      refine v_ls (ls' := [(0, .ref 151), (1, .int p1), (2, .int p2), (3, .int v3)]) ⟨rfl, rfl, rfl, rfl, trivial⟩ (show ([0, 1, 2, 3] : List Nat).Nodup from by decide) ?_
      exact hk60 _ _ h
    · refine v_i2f (T := 60) rfl rfl c305 ?_
      refine s_ek_bk 1 (P := 40) (ls' := [(0, .ref 151), (1, .int p1), (2, .int p2), (3, .int v3), (4, .int v4)]) (st' := [.int v3]) (M' := v_mk s) rfl ?_
      rcases v_if h with ⟨c306, h⟩ | ⟨c306, h⟩
      · refine v_i1t (T := 60) rfl rfl c306 ?_
        refine v_ls (ls' := [(0, .ref 151), (1, .int p1), (2, .int p2), (3, .int v3)]) ⟨rfl, rfl, rfl, rfl, trivial⟩ (show ([0, 1, 2, 3] : List Nat).Nodup from by decide) ?_
        exact hk60 _ _ h
      · refine v_i1f (T := 60) rfl rfl c306 ?_
        refine s_ek_bk 2 (P := 45) (ls' := [(0, .ref 151), (1, .int p1), (2, .int p2), (3, .int v3), (4, .int v4)]) (st' := [.int p2, .int v3]) (M' := v_mk s) rfl ?_
        rcases v_if h with ⟨c307, h⟩ | ⟨c307, h⟩
        · refine v_i2t (T := 60) rfl rfl c307 ?_
          refine v_ls (ls' := [(0, .ref 151), (1, .int p1), (2, .int p2), (3, .int v3)]) ⟨rfl, rfl, rfl, rfl, trivial⟩ (show ([0, 1, 2, 3] : List Nat).Nodup from by decide) ?_
          exact hk60 _ _ h
        · refine v_i2f (T := 60) rfl rfl c307 ?_
          refine s_ek_bk 2 (P := 50) (ls' := [(0, .ref 151), (1, .int p1), (2, .int p2), (3, .int v3), (4, .int v4)]) (st' := [.int v3, .ref 151]) (M' := v_mk s) rfl ?_
          obtain ⟨r308, s308, e308, h⟩ := v_bd h
          refine v_cV (ν := s_e258.1) (w := 2065) (a := 151) (as' := [.int v3]) (r := []) (o := some (.int r308)) (by omega) rfl rfl rfl (v_mk_kd (k := 11) (rfl : v_kd 151 = 11) (by decide)) rfl (t_Md_struckBy e308 (by omega)) ?_
          show s_Ek (s_rows 3 L xs) D s_e259.1 53 [(0, .ref 151), (1, .int p1), (2, .int p2), (3, .int v3), (4, .int v4)] [.int r308] (v_mk s308) _
          refine s_ek_bk 3 (P := 32) (ls' := [(4, .int (v4 + 1)), (3, .int r308), (0, .ref 151), (1, .int p1), (2, .int p2)]) (st' := []) (M' := v_mk s308) rfl ?_
          refine v_ls (ls' := [(0, .ref 151), (1, .int p1), (2, .int p2), (3, .int r308), (4, .int (v4 + 1))]) ⟨rfl, rfl, rfl, rfl, rfl, trivial⟩ (show ([0, 1, 2, 3, 4] : List Nat).Nodup from by decide) ?_
          exact ih _ _ _ h
set_option maxRecDepth 20000 in
set_option maxHeartbeats 4000000 in
theorem t_Md_rings_L4 {L : Nat} {xs : Nat → Int32} {k77 : Int32 → vS → Option (Int32 × vS)} {D : Nat} (hD : 3 ≤ D) {r : Int32} {s' : vS} (hk77 : ∀ (v1 : Int32) (s : vS), k77 v1 s = some (r, s') → s_Ek (s_rows 3 L xs) D s_e259.1 77 [(1, .int v1)] [] (v_mk s) (v_Q (some (.int r)) s')) : ∀ (n : Nat) (v1 : Int32) (v2 : Int32) (s : vS), f_Md_rings_L4 k77 n v1 v2 s = some (r, s') → s_Ek (s_rows 3 L xs) D s_e259.1 4 [(0, .ref 151), (1, .int v1), (2, .int v2)] [] (v_mk s) (v_Q (some (.int r)) s') := by
  intro n
  induction n with
  | zero => intro v1 v2 s h; exact nomatch (show (none : Option (Int32 × vS)) = some (r, s') from h)
  | succ n ih =>
    intro v1 v2 s h
    replace h : f_Md_rings_L4b k77 (f_Md_rings_L4 k77 n) v1 v2 s = some (r, s') := h
    unfold f_Md_rings_L4b at h
    refine s_ek_bk 2 (P := 6) (ls' := [(0, .ref 151), (1, .int v1), (2, .int v2)]) (st' := [.ref 151, .int v2]) (M' := v_mk s) rfl ?_
    refine v_gf rfl (v_gi (rfl : v_kd 151 = 11) rfl ⟨rfl, rfl, by decide⟩) ?_
    rcases v_if h with ⟨c101, h⟩ | ⟨c101, h⟩
    · refine v_i2t (T := 77) rfl rfl c101 ?_
      refine v_ls (ls' := [(1, .int v1)]) ⟨rfl, trivial⟩ (show ([1] : List Nat).Nodup from by decide) ?_
      exact hk77 _ _ h
    · refine v_i2f (T := 77) rfl rfl c101 ?_
      refine s_ek_bk 2 (P := 14) (ls' := [(0, .ref 151), (1, .int v1), (2, .int v2)]) (st' := [.int v2, .ref 151]) (M' := v_mk s) rfl ?_
      obtain ⟨r102, s102, e102, h⟩ := v_bd h
      refine v_cV (ν := s_e202.1) (w := 1617) (a := 151) (as' := [.int v2]) (r := []) (o := some (.int r102)) (by omega) rfl rfl rfl (v_mk_kd (k := 11) (rfl : v_kd 151 = 11) (by decide)) rfl (t_Md_isThere e102 (by omega)) ?_
      show s_Ek (s_rows 3 L xs) D s_e259.1 17 [(0, .ref 151), (1, .int v1), (2, .int v2)] [.int r102] (v_mk s102) _
      rcases v_if h with ⟨c103, h⟩ | ⟨c103, h⟩
      · refine v_i1f (T := 23) rfl rfl (fun q => q c103) ?_
        refine s_ek_bk 3 (P := 4) (ls' := [(2, .int (v2 + 1)), (0, .ref 151), (1, .int v1)]) (st' := []) (M' := v_mk s102) rfl ?_
        refine v_ls (ls' := [(0, .ref 151), (1, .int v1), (2, .int (v2 + 1))]) ⟨rfl, rfl, rfl, trivial⟩ (show ([0, 1, 2] : List Nat).Nodup from by decide) ?_
        exact ih _ _ _ h
      · refine v_i1t (T := 23) rfl rfl c103 ?_
        refine s_ek_bk 2 (P := 25) (ls' := [(0, .ref 151), (1, .int v1), (2, .int v2)]) (st' := [.int v2, .ref 151]) (M' := v_mk s102) rfl ?_
        obtain ⟨r104, s104, e104, h⟩ := v_bd h
        refine v_cV (ν := s_e258.1) (w := 2065) (a := 151) (as' := [.int v2]) (r := []) (o := some (.int r104)) (by omega) rfl rfl rfl (v_mk_kd (k := 11) (rfl : v_kd 151 = 11) (by decide)) rfl (t_Md_struckBy e104 (by omega)) ?_
        show s_Ek (s_rows 3 L xs) D s_e259.1 28 [(0, .ref 151), (1, .int v1), (2, .int v2)] [.int r104] (v_mk s104) _
        refine s_ek_bk 3 (P := 32) (ls' := [(4, .int 0), (3, .int r104), (0, .ref 151), (1, .int v1), (2, .int v2)]) (st' := []) (M' := v_mk s104) rfl ?_
        refine v_ls (ls' := [(0, .ref 151), (1, .int v1), (2, .int v2), (3, .int r104), (4, .int 0)]) ⟨rfl, rfl, rfl, rfl, rfl, trivial⟩ (show ([0, 1, 2, 3, 4] : List Nat).Nodup from by decide) ?_
        refine t_Md_rings_L32 (by omega) (fun w105 s106 h => ?_) 4096 _ _ _ h
        show s_Ek (s_rows 3 L xs) D s_e259.1 60 [(0, .ref 151), (1, .int v1), (2, .int v2), (3, .int w105)] [] (v_mk s106) _
        refine s_ek_bk 2 (P := 62) (ls' := [(0, .ref 151), (1, .int v1), (2, .int v2), (3, .int w105)]) (st' := [.int v2, .int w105]) (M' := v_mk s106) rfl ?_
        rcases v_if h with ⟨c107, h⟩ | ⟨c107, h⟩
        · refine v_i2f (T := 71) rfl rfl (fun q => q c107) ?_
          refine s_ek_bk 8 (P := 4) (ls' := [(2, .int (v2 + 1)), (1, .int (v1 ||| ((1 : Int32) <<< (v2 &&& 31)))), (0, .ref 151), (3, .int w105)]) (st' := []) (M' := v_mk s106) rfl ?_
          refine v_ls (ls' := [(0, .ref 151), (1, .int (v1 ||| ((1 : Int32) <<< (v2 &&& 31)))), (2, .int (v2 + 1))]) ⟨rfl, rfl, rfl, trivial⟩ (show ([0, 1, 2] : List Nat).Nodup from by decide) ?_
          exact ih _ _ _ h
        · refine v_i2t (T := 71) rfl rfl c107 ?_
          refine s_ek_bk 2 (P := 4) (ls' := [(2, .int (v2 + 1)), (0, .ref 151), (1, .int v1), (3, .int w105)]) (st' := []) (M' := v_mk s106) rfl ?_
          refine v_ls (ls' := [(0, .ref 151), (1, .int v1), (2, .int (v2 + 1))]) ⟨rfl, rfl, rfl, trivial⟩ (show ([0, 1, 2] : List Nat).Nodup from by decide) ?_
          exact ih _ _ _ h
set_option maxRecDepth 20000 in
set_option maxHeartbeats 4000000 in
theorem t_Md_rings {L : Nat} {xs : Nat → Int32} {D : Nat} {r : Int32} {s s' : vS} (h : f_Md_rings s = some (r, s')) (hD : 3 ≤ D) : s_Ek (s_rows 3 L xs) D s_e259.1 0 (lv_args 0 [.ref 151]) [] (v_mk s) (v_Q (some (.int r)) s') := by
  unfold f_Md_rings at h
  show s_Ek (s_rows 3 L xs) D s_e259.1 0 [(0, .ref 151)] [] (v_mk s) _
  refine s_ek_bk 4 (P := 4) (ls' := [(2, .int 0), (1, .int 0), (0, .ref 151)]) (st' := []) (M' := v_mk s) rfl ?_
  refine v_ls (ls' := [(0, .ref 151), (1, .int 0), (2, .int 0)]) ⟨rfl, rfl, rfl, trivial⟩ (show ([0, 1, 2] : List Nat).Nodup from by decide) ?_
  refine t_Md_rings_L4 (by omega) (fun w1 s2 h => ?_) 4096 _ _ _ h
  show s_Ek (s_rows 3 L xs) D s_e259.1 77 [(1, .int w1)] [] (v_mk s2) _
  refine s_ek_bk 1 (P := 78) (ls' := [(1, .int w1)]) (st' := [.int w1]) (M' := v_mk s2) rfl ?_
  obtain ⟨rfl, rfl⟩ := v_so h
  exact v_ret (fun _ => rfl)
noncomputable def f_Md_image_L15b (k65 : vS → Option (Int32 × vS)) (again : Int32 → vS → Option (Int32 × vS)) (v1 : Int32) (s : vS) : Option (Int32 × vS) := (if (s.1 151 14).toInt ≤ v1.toInt then (k65 s) else (if v_in v1 11 then (if v_in v1 10 then (v_let (v_w1 s 174 (Int32.toNatClampNeg v1) (s.1 160 (Int32.toNatClampNeg v1))) (fun s106 => (if v_in v1 11 then (if v_in v1 10 then (v_let (v_w1 s106 175 (Int32.toNatClampNeg v1) (s106.1 161 (Int32.toNatClampNeg v1))) (fun s109 => (if v_in v1 11 then (if v_in v1 10 then (v_let (v_w1 s109 176 (Int32.toNatClampNeg v1) (s109.1 162 (Int32.toNatClampNeg v1))) (fun s112 => (again (v1 + 1) s112))) else none) else none))) else none) else none))) else none) else none))
noncomputable def f_Md_image_L15 (k65 : vS → Option (Int32 × vS)) (n : Nat) : Int32 → vS → Option (Int32 × vS) := Nat.rec (motive := fun _ => Int32 → vS → Option (Int32 × vS)) (fun _ _ => none) (fun _ again => f_Md_image_L15b k65 again) n
noncomputable def f_Md_image_L67b (k102 : vS → Option (Int32 × vS)) (again : Int32 → vS → Option (Int32 × vS)) (v1 : Int32) (s : vS) : Option (Int32 × vS) := (if 3 ≤ v1.toInt then (k102 s) else (if v_in v1 3 then (if v_in v1 3 then (v_let (v_w1 s 177 (Int32.toNatClampNeg v1) (s.1 163 (Int32.toNatClampNeg v1))) (fun s207 => (if v_in v1 3 then (if v_in v1 3 then (v_let (v_w1 s207 178 (Int32.toNatClampNeg v1) (s207.1 164 (Int32.toNatClampNeg v1))) (fun s210 => (again (v1 + 1) s210))) else none) else none))) else none) else none))
noncomputable def f_Md_image_L67 (k102 : vS → Option (Int32 × vS)) (n : Nat) : Int32 → vS → Option (Int32 × vS) := Nat.rec (motive := fun _ => Int32 → vS → Option (Int32 × vS)) (fun _ _ => none) (fun _ again => f_Md_image_L67b k102 again) n
noncomputable def f_Md_image (s : vS) : Option (Int32 × vS) := (v_let (v_w1 s 151 35 1) (fun s1 => (v_let (v_w1 s1 151 36 (s1.1 151 14)) (fun s2 => (f_Md_image_L15 (fun s3 => (f_Md_image_L67 (fun s4 => (some ((s4.1 151 14), s4))) 4096 0 s3)) 4096 0 s2)))))
set_option maxRecDepth 20000 in
set_option maxHeartbeats 4000000 in
theorem t_Md_image_L15 {L : Nat} {xs : Nat → Int32} {k65 : vS → Option (Int32 × vS)} {D : Nat} (hD : 0 ≤ D) {r : Int32} {s' : vS} (hk65 : ∀ (s : vS), k65 s = some (r, s') → s_Ek (s_rows 3 L xs) D s_e260.1 65 [(0, .ref 151)] [] (v_mk s) (v_Q (some (.int r)) s')) : ∀ (n : Nat) (v1 : Int32) (s : vS), f_Md_image_L15 k65 n v1 s = some (r, s') → s_Ek (s_rows 3 L xs) D s_e260.1 15 [(0, .ref 151), (1, .int v1)] [] (v_mk s) (v_Q (some (.int r)) s') := by
  intro n
  induction n with
  | zero => intro v1 s h; exact nomatch (show (none : Option (Int32 × vS)) = some (r, s') from h)
  | succ n ih =>
    intro v1 s h
    replace h : f_Md_image_L15b k65 (f_Md_image_L15 k65 n) v1 s = some (r, s') := h
    unfold f_Md_image_L15b at h
    refine s_ek_bk 2 (P := 17) (ls' := [(0, .ref 151), (1, .int v1)]) (st' := [.ref 151, .int v1]) (M' := v_mk s) rfl ?_
    refine v_gf rfl (v_gi (rfl : v_kd 151 = 11) rfl ⟨rfl, rfl, by decide⟩) ?_
    rcases v_if h with ⟨c103, h⟩ | ⟨c103, h⟩
    · refine v_i2t (T := 65) rfl rfl c103 ?_
      refine v_ls (ls' := [(0, .ref 151)]) ⟨rfl, trivial⟩ (show ([0] : List Nat).Nodup from by decide) ?_
      exact hk65 _ h
    · refine v_i2f (T := 65) rfl rfl c103 ?_
      refine s_ek_bk 1 (P := 24) (ls' := [(0, .ref 151), (1, .int v1)]) (st' := [.ref 151]) (M' := v_mk s) rfl ?_
      refine v_gf rfl (v_gr (rfl : v_kd 151 = 11) (rfl : v_sl 151 37 = .ref 174) ⟨rfl, rfl, by decide⟩) ?_
      refine s_ek_bk 2 (P := 29) (ls' := [(0, .ref 151), (1, .int v1)]) (st' := [.ref 151, .int v1, .ref 174]) (M' := v_mk s) rfl ?_
      refine v_gf rfl (v_gr (rfl : v_kd 151 = 11) (rfl : v_sl 151 15 = .ref 160) ⟨rfl, rfl, by decide⟩) ?_
      refine s_ek_bk 1 (P := 33) (ls' := [(0, .ref 151), (1, .int v1)]) (st' := [.int v1, .ref 160, .int v1, .ref 174]) (M' := v_mk s) rfl ?_
      obtain ⟨c104, h⟩ := v_ck h
      refine v_ia (i := v1) rfl (v_ai (rfl : v_kd 160 = 13) rfl (by decide) v_all13 (v_cn (rfl : v_ln 160 = 11) c104)) ?_
      obtain ⟨c105, h⟩ := v_ck h
      obtain ⟨s106, es106, h⟩ := v_ld h
      refine v_ist (M' := v_mk s106) (i := v1) rfl (by rw [es106]; exact v_pai (rfl : v_kd 174 = 13) rfl (by decide) v_all13 (v_cn (rfl : v_ln 174 = 10) c105)) ?_
      refine s_ek_bk 1 (P := 36) (ls' := [(0, .ref 151), (1, .int v1)]) (st' := [.ref 151]) (M' := v_mk s106) rfl ?_
      refine v_gf rfl (v_gr (rfl : v_kd 151 = 11) (rfl : v_sl 151 38 = .ref 175) ⟨rfl, rfl, by decide⟩) ?_
      refine s_ek_bk 2 (P := 41) (ls' := [(0, .ref 151), (1, .int v1)]) (st' := [.ref 151, .int v1, .ref 175]) (M' := v_mk s106) rfl ?_
      refine v_gf rfl (v_gr (rfl : v_kd 151 = 11) (rfl : v_sl 151 16 = .ref 161) ⟨rfl, rfl, by decide⟩) ?_
      refine s_ek_bk 1 (P := 45) (ls' := [(0, .ref 151), (1, .int v1)]) (st' := [.int v1, .ref 161, .int v1, .ref 175]) (M' := v_mk s106) rfl ?_
      obtain ⟨c107, h⟩ := v_ck h
      refine v_ia (i := v1) rfl (v_ai (rfl : v_kd 161 = 13) rfl (by decide) v_all13 (v_cn (rfl : v_ln 161 = 11) c107)) ?_
      obtain ⟨c108, h⟩ := v_ck h
      obtain ⟨s109, es109, h⟩ := v_ld h
      refine v_ist (M' := v_mk s109) (i := v1) rfl (by rw [es109]; exact v_pai (rfl : v_kd 175 = 13) rfl (by decide) v_all13 (v_cn (rfl : v_ln 175 = 10) c108)) ?_
      refine s_ek_bk 1 (P := 48) (ls' := [(0, .ref 151), (1, .int v1)]) (st' := [.ref 151]) (M' := v_mk s109) rfl ?_
      refine v_gf rfl (v_gr (rfl : v_kd 151 = 11) (rfl : v_sl 151 39 = .ref 176) ⟨rfl, rfl, by decide⟩) ?_
      refine s_ek_bk 2 (P := 53) (ls' := [(0, .ref 151), (1, .int v1)]) (st' := [.ref 151, .int v1, .ref 176]) (M' := v_mk s109) rfl ?_
      refine v_gf rfl (v_gr (rfl : v_kd 151 = 11) (rfl : v_sl 151 17 = .ref 162) ⟨rfl, rfl, by decide⟩) ?_
      refine s_ek_bk 1 (P := 57) (ls' := [(0, .ref 151), (1, .int v1)]) (st' := [.int v1, .ref 162, .int v1, .ref 176]) (M' := v_mk s109) rfl ?_
      obtain ⟨c110, h⟩ := v_ck h
      refine v_ia (i := v1) rfl (v_ai (rfl : v_kd 162 = 13) rfl (by decide) v_all13 (v_cn (rfl : v_ln 162 = 11) c110)) ?_
      obtain ⟨c111, h⟩ := v_ck h
      obtain ⟨s112, es112, h⟩ := v_ld h
      refine v_ist (M' := v_mk s112) (i := v1) rfl (by rw [es112]; exact v_pai (rfl : v_kd 176 = 13) rfl (by decide) v_all13 (v_cn (rfl : v_ln 176 = 10) c111)) ?_
      refine s_ek_bk 2 (P := 15) (ls' := [(1, .int (v1 + 1)), (0, .ref 151)]) (st' := []) (M' := v_mk s112) rfl ?_
      refine v_ls (ls' := [(0, .ref 151), (1, .int (v1 + 1))]) ⟨rfl, rfl, trivial⟩ (show ([0, 1] : List Nat).Nodup from by decide) ?_
      exact ih _ _ h
set_option maxRecDepth 20000 in
set_option maxHeartbeats 4000000 in
theorem t_Md_image_L67 {L : Nat} {xs : Nat → Int32} {k102 : vS → Option (Int32 × vS)} {D : Nat} (hD : 0 ≤ D) {r : Int32} {s' : vS} (hk102 : ∀ (s : vS), k102 s = some (r, s') → s_Ek (s_rows 3 L xs) D s_e260.1 102 [(0, .ref 151)] [] (v_mk s) (v_Q (some (.int r)) s')) : ∀ (n : Nat) (v1 : Int32) (s : vS), f_Md_image_L67 k102 n v1 s = some (r, s') → s_Ek (s_rows 3 L xs) D s_e260.1 67 [(0, .ref 151), (1, .int v1)] [] (v_mk s) (v_Q (some (.int r)) s') := by
  intro n
  induction n with
  | zero => intro v1 s h; exact nomatch (show (none : Option (Int32 × vS)) = some (r, s') from h)
  | succ n ih =>
    intro v1 s h
    replace h : f_Md_image_L67b k102 (f_Md_image_L67 k102 n) v1 s = some (r, s') := h
    unfold f_Md_image_L67b at h
    refine s_ek_bk 2 (P := 69) (ls' := [(0, .ref 151), (1, .int v1)]) (st' := [.int 3, .int v1]) (M' := v_mk s) rfl ?_
    rcases v_if h with ⟨c204, h⟩ | ⟨c204, h⟩
    · refine v_i2t (T := 102) rfl rfl c204 ?_
      refine v_ls (ls' := [(0, .ref 151)]) ⟨rfl, trivial⟩ (show ([0] : List Nat).Nodup from by decide) ?_
      exact hk102 _ h
    · refine v_i2f (T := 102) rfl rfl c204 ?_
      refine s_ek_bk 1 (P := 73) (ls' := [(0, .ref 151), (1, .int v1)]) (st' := [.ref 151]) (M' := v_mk s) rfl ?_
      refine v_gf rfl (v_gr (rfl : v_kd 151 = 11) (rfl : v_sl 151 40 = .ref 177) ⟨rfl, rfl, by decide⟩) ?_
      refine s_ek_bk 2 (P := 78) (ls' := [(0, .ref 151), (1, .int v1)]) (st' := [.ref 151, .int v1, .ref 177]) (M' := v_mk s) rfl ?_
      refine v_gf rfl (v_gr (rfl : v_kd 151 = 11) (rfl : v_sl 151 20 = .ref 163) ⟨rfl, rfl, by decide⟩) ?_
      refine s_ek_bk 1 (P := 82) (ls' := [(0, .ref 151), (1, .int v1)]) (st' := [.int v1, .ref 163, .int v1, .ref 177]) (M' := v_mk s) rfl ?_
      obtain ⟨c205, h⟩ := v_ck h
      refine v_ia (i := v1) rfl (v_ai (rfl : v_kd 163 = 13) rfl (by decide) v_all13 (v_cn (rfl : v_ln 163 = 3) c205)) ?_
      obtain ⟨c206, h⟩ := v_ck h
      obtain ⟨s207, es207, h⟩ := v_ld h
      refine v_ist (M' := v_mk s207) (i := v1) rfl (by rw [es207]; exact v_pai (rfl : v_kd 177 = 13) rfl (by decide) v_all13 (v_cn (rfl : v_ln 177 = 3) c206)) ?_
      refine s_ek_bk 1 (P := 85) (ls' := [(0, .ref 151), (1, .int v1)]) (st' := [.ref 151]) (M' := v_mk s207) rfl ?_
      refine v_gf rfl (v_gr (rfl : v_kd 151 = 11) (rfl : v_sl 151 41 = .ref 178) ⟨rfl, rfl, by decide⟩) ?_
      refine s_ek_bk 2 (P := 90) (ls' := [(0, .ref 151), (1, .int v1)]) (st' := [.ref 151, .int v1, .ref 178]) (M' := v_mk s207) rfl ?_
      refine v_gf rfl (v_gr (rfl : v_kd 151 = 11) (rfl : v_sl 151 21 = .ref 164) ⟨rfl, rfl, by decide⟩) ?_
      refine s_ek_bk 1 (P := 94) (ls' := [(0, .ref 151), (1, .int v1)]) (st' := [.int v1, .ref 164, .int v1, .ref 178]) (M' := v_mk s207) rfl ?_
      obtain ⟨c208, h⟩ := v_ck h
      refine v_ia (i := v1) rfl (v_ai (rfl : v_kd 164 = 13) rfl (by decide) v_all13 (v_cn (rfl : v_ln 164 = 3) c208)) ?_
      obtain ⟨c209, h⟩ := v_ck h
      obtain ⟨s210, es210, h⟩ := v_ld h
      refine v_ist (M' := v_mk s210) (i := v1) rfl (by rw [es210]; exact v_pai (rfl : v_kd 178 = 13) rfl (by decide) v_all13 (v_cn (rfl : v_ln 178 = 3) c209)) ?_
      refine s_ek_bk 2 (P := 67) (ls' := [(1, .int (v1 + 1)), (0, .ref 151)]) (st' := []) (M' := v_mk s210) rfl ?_
      refine v_ls (ls' := [(0, .ref 151), (1, .int (v1 + 1))]) ⟨rfl, rfl, trivial⟩ (show ([0, 1] : List Nat).Nodup from by decide) ?_
      exact ih _ _ h
set_option maxRecDepth 20000 in
set_option maxHeartbeats 4000000 in
theorem t_Md_image {L : Nat} {xs : Nat → Int32} {D : Nat} {r : Int32} {s s' : vS} (h : f_Md_image s = some (r, s')) (hD : 0 ≤ D) : s_Ek (s_rows 3 L xs) D s_e260.1 0 (lv_args 0 [.ref 151]) [] (v_mk s) (v_Q (some (.int r)) s') := by
  unfold f_Md_image at h
  show s_Ek (s_rows 3 L xs) D s_e260.1 0 [(0, .ref 151)] [] (v_mk s) _
  refine s_ek_bk 2 (P := 2) (ls' := [(0, .ref 151)]) (st' := [.int 1, .ref 151]) (M' := v_mk s) rfl ?_
  obtain ⟨s1, es1, h⟩ := v_ld h
  refine v_pf (M' := v_mk s1) rfl (by rw [es1]; exact v_pi (rfl : v_kd 151 = 11) rfl ⟨rfl, rfl, by decide⟩ rfl) ?_
  refine s_ek_bk 2 (P := 7) (ls' := [(0, .ref 151)]) (st' := [.ref 151, .ref 151]) (M' := v_mk s1) rfl ?_
  refine v_gf rfl (v_gi (rfl : v_kd 151 = 11) rfl ⟨rfl, rfl, by decide⟩) ?_
  obtain ⟨s2, es2, h⟩ := v_ld h
  refine v_pf (M' := v_mk s2) rfl (by rw [es2]; exact v_pi (rfl : v_kd 151 = 11) rfl ⟨rfl, rfl, by decide⟩ rfl) ?_
  refine s_ek_bk 2 (P := 15) (ls' := [(1, .int 0), (0, .ref 151)]) (st' := []) (M' := v_mk s2) rfl ?_
  refine v_ls (ls' := [(0, .ref 151), (1, .int 0)]) ⟨rfl, rfl, trivial⟩ (show ([0, 1] : List Nat).Nodup from by decide) ?_
  refine t_Md_image_L15 (by omega) (fun s3 h => ?_) 4096 _ _ h
  show s_Ek (s_rows 3 L xs) D s_e260.1 65 [(0, .ref 151)] [] (v_mk s3) _
  refine s_ek_bk 2 (P := 67) (ls' := [(1, .int 0), (0, .ref 151)]) (st' := []) (M' := v_mk s3) rfl ?_
  refine v_ls (ls' := [(0, .ref 151), (1, .int 0)]) ⟨rfl, rfl, trivial⟩ (show ([0, 1] : List Nat).Nodup from by decide) ?_
  refine t_Md_image_L67 (by omega) (fun s4 h => ?_) 4096 _ _ h
  show s_Ek (s_rows 3 L xs) D s_e260.1 102 [(0, .ref 151)] [] (v_mk s4) _
  refine s_ek_bk 1 (P := 103) (ls' := [(0, .ref 151)]) (st' := [.ref 151]) (M' := v_mk s4) rfl ?_
  refine v_gf rfl (v_gi (rfl : v_kd 151 = 11) rfl ⟨rfl, rfl, by decide⟩) ?_
  obtain ⟨rfl, rfl⟩ := v_so h
  exact v_ret (fun _ => rfl)
noncomputable def f_Md_back_L12b (k62 : vS → Option (Int32 × vS)) (again : Int32 → vS → Option (Int32 × vS)) (v1 : Int32) (s : vS) : Option (Int32 × vS) := (if (s.1 151 36).toInt ≤ v1.toInt then (k62 s) else (if v_in v1 10 then (if v_in v1 11 then (v_let (v_w1 s 160 (Int32.toNatClampNeg v1) (s.1 174 (Int32.toNatClampNeg v1))) (fun s105 => (if v_in v1 10 then (if v_in v1 11 then (v_let (v_w1 s105 161 (Int32.toNatClampNeg v1) (s105.1 175 (Int32.toNatClampNeg v1))) (fun s108 => (if v_in v1 10 then (if v_in v1 11 then (v_let (v_w1 s108 162 (Int32.toNatClampNeg v1) (s108.1 176 (Int32.toNatClampNeg v1))) (fun s111 => (again (v1 + 1) s111))) else none) else none))) else none) else none))) else none) else none))
noncomputable def f_Md_back_L12 (k62 : vS → Option (Int32 × vS)) (n : Nat) : Int32 → vS → Option (Int32 × vS) := Nat.rec (motive := fun _ => Int32 → vS → Option (Int32 × vS)) (fun _ _ => none) (fun _ again => f_Md_back_L12b k62 again) n
noncomputable def f_Md_back_L64b (k99 : vS → Option (Int32 × vS)) (again : Int32 → vS → Option (Int32 × vS)) (v1 : Int32) (s : vS) : Option (Int32 × vS) := (if 3 ≤ v1.toInt then (k99 s) else (if v_in v1 3 then (if v_in v1 3 then (v_let (v_w1 s 163 (Int32.toNatClampNeg v1) (s.1 177 (Int32.toNatClampNeg v1))) (fun s206 => (if v_in v1 3 then (if v_in v1 3 then (v_let (v_w1 s206 164 (Int32.toNatClampNeg v1) (s206.1 178 (Int32.toNatClampNeg v1))) (fun s209 => (again (v1 + 1) s209))) else none) else none))) else none) else none))
noncomputable def f_Md_back_L64 (k99 : vS → Option (Int32 × vS)) (n : Nat) : Int32 → vS → Option (Int32 × vS) := Nat.rec (motive := fun _ => Int32 → vS → Option (Int32 × vS)) (fun _ _ => none) (fun _ again => f_Md_back_L64b k99 again) n
noncomputable def f_Md_back (s : vS) : Option (Int32 × vS) := (if (s.1 151 35).toInt = 0 then (some ((-5), s)) else (f_Md_back_L12 (fun s2 => (f_Md_back_L64 (fun s3 => (v_let (v_w1 s3 151 23 0) (fun s4 => (v_let (v_w1 s4 151 24 0) (fun s5 => (some ((s5.1 151 36), s5))))))) 4096 0 s2)) 4096 0 s))
set_option maxRecDepth 20000 in
set_option maxHeartbeats 4000000 in
theorem t_Md_back_L12 {L : Nat} {xs : Nat → Int32} {k62 : vS → Option (Int32 × vS)} {D : Nat} (hD : 0 ≤ D) {r : Int32} {s' : vS} (hk62 : ∀ (s : vS), k62 s = some (r, s') → s_Ek (s_rows 3 L xs) D s_e261.1 62 [(0, .ref 151)] [] (v_mk s) (v_Q (some (.int r)) s')) : ∀ (n : Nat) (v1 : Int32) (s : vS), f_Md_back_L12 k62 n v1 s = some (r, s') → s_Ek (s_rows 3 L xs) D s_e261.1 12 [(0, .ref 151), (1, .int v1)] [] (v_mk s) (v_Q (some (.int r)) s') := by
  intro n
  induction n with
  | zero => intro v1 s h; exact nomatch (show (none : Option (Int32 × vS)) = some (r, s') from h)
  | succ n ih =>
    intro v1 s h
    replace h : f_Md_back_L12b k62 (f_Md_back_L12 k62 n) v1 s = some (r, s') := h
    unfold f_Md_back_L12b at h
    refine s_ek_bk 2 (P := 14) (ls' := [(0, .ref 151), (1, .int v1)]) (st' := [.ref 151, .int v1]) (M' := v_mk s) rfl ?_
    refine v_gf rfl (v_gi (rfl : v_kd 151 = 11) rfl ⟨rfl, rfl, by decide⟩) ?_
    rcases v_if h with ⟨c102, h⟩ | ⟨c102, h⟩
    · refine v_i2t (T := 62) rfl rfl c102 ?_
      refine v_ls (ls' := [(0, .ref 151)]) ⟨rfl, trivial⟩ (show ([0] : List Nat).Nodup from by decide) ?_
      exact hk62 _ h
    · refine v_i2f (T := 62) rfl rfl c102 ?_
      refine s_ek_bk 1 (P := 21) (ls' := [(0, .ref 151), (1, .int v1)]) (st' := [.ref 151]) (M' := v_mk s) rfl ?_
      refine v_gf rfl (v_gr (rfl : v_kd 151 = 11) (rfl : v_sl 151 15 = .ref 160) ⟨rfl, rfl, by decide⟩) ?_
      refine s_ek_bk 2 (P := 26) (ls' := [(0, .ref 151), (1, .int v1)]) (st' := [.ref 151, .int v1, .ref 160]) (M' := v_mk s) rfl ?_
      refine v_gf rfl (v_gr (rfl : v_kd 151 = 11) (rfl : v_sl 151 37 = .ref 174) ⟨rfl, rfl, by decide⟩) ?_
      refine s_ek_bk 1 (P := 30) (ls' := [(0, .ref 151), (1, .int v1)]) (st' := [.int v1, .ref 174, .int v1, .ref 160]) (M' := v_mk s) rfl ?_
      obtain ⟨c103, h⟩ := v_ck h
      refine v_ia (i := v1) rfl (v_ai (rfl : v_kd 174 = 13) rfl (by decide) v_all13 (v_cn (rfl : v_ln 174 = 10) c103)) ?_
      obtain ⟨c104, h⟩ := v_ck h
      obtain ⟨s105, es105, h⟩ := v_ld h
      refine v_ist (M' := v_mk s105) (i := v1) rfl (by rw [es105]; exact v_pai (rfl : v_kd 160 = 13) rfl (by decide) v_all13 (v_cn (rfl : v_ln 160 = 11) c104)) ?_
      refine s_ek_bk 1 (P := 33) (ls' := [(0, .ref 151), (1, .int v1)]) (st' := [.ref 151]) (M' := v_mk s105) rfl ?_
      refine v_gf rfl (v_gr (rfl : v_kd 151 = 11) (rfl : v_sl 151 16 = .ref 161) ⟨rfl, rfl, by decide⟩) ?_
      refine s_ek_bk 2 (P := 38) (ls' := [(0, .ref 151), (1, .int v1)]) (st' := [.ref 151, .int v1, .ref 161]) (M' := v_mk s105) rfl ?_
      refine v_gf rfl (v_gr (rfl : v_kd 151 = 11) (rfl : v_sl 151 38 = .ref 175) ⟨rfl, rfl, by decide⟩) ?_
      refine s_ek_bk 1 (P := 42) (ls' := [(0, .ref 151), (1, .int v1)]) (st' := [.int v1, .ref 175, .int v1, .ref 161]) (M' := v_mk s105) rfl ?_
      obtain ⟨c106, h⟩ := v_ck h
      refine v_ia (i := v1) rfl (v_ai (rfl : v_kd 175 = 13) rfl (by decide) v_all13 (v_cn (rfl : v_ln 175 = 10) c106)) ?_
      obtain ⟨c107, h⟩ := v_ck h
      obtain ⟨s108, es108, h⟩ := v_ld h
      refine v_ist (M' := v_mk s108) (i := v1) rfl (by rw [es108]; exact v_pai (rfl : v_kd 161 = 13) rfl (by decide) v_all13 (v_cn (rfl : v_ln 161 = 11) c107)) ?_
      refine s_ek_bk 1 (P := 45) (ls' := [(0, .ref 151), (1, .int v1)]) (st' := [.ref 151]) (M' := v_mk s108) rfl ?_
      refine v_gf rfl (v_gr (rfl : v_kd 151 = 11) (rfl : v_sl 151 17 = .ref 162) ⟨rfl, rfl, by decide⟩) ?_
      refine s_ek_bk 2 (P := 50) (ls' := [(0, .ref 151), (1, .int v1)]) (st' := [.ref 151, .int v1, .ref 162]) (M' := v_mk s108) rfl ?_
      refine v_gf rfl (v_gr (rfl : v_kd 151 = 11) (rfl : v_sl 151 39 = .ref 176) ⟨rfl, rfl, by decide⟩) ?_
      refine s_ek_bk 1 (P := 54) (ls' := [(0, .ref 151), (1, .int v1)]) (st' := [.int v1, .ref 176, .int v1, .ref 162]) (M' := v_mk s108) rfl ?_
      obtain ⟨c109, h⟩ := v_ck h
      refine v_ia (i := v1) rfl (v_ai (rfl : v_kd 176 = 13) rfl (by decide) v_all13 (v_cn (rfl : v_ln 176 = 10) c109)) ?_
      obtain ⟨c110, h⟩ := v_ck h
      obtain ⟨s111, es111, h⟩ := v_ld h
      refine v_ist (M' := v_mk s111) (i := v1) rfl (by rw [es111]; exact v_pai (rfl : v_kd 162 = 13) rfl (by decide) v_all13 (v_cn (rfl : v_ln 162 = 11) c110)) ?_
      refine s_ek_bk 2 (P := 12) (ls' := [(1, .int (v1 + 1)), (0, .ref 151)]) (st' := []) (M' := v_mk s111) rfl ?_
      refine v_ls (ls' := [(0, .ref 151), (1, .int (v1 + 1))]) ⟨rfl, rfl, trivial⟩ (show ([0, 1] : List Nat).Nodup from by decide) ?_
      exact ih _ _ h
set_option maxRecDepth 20000 in
set_option maxHeartbeats 4000000 in
theorem t_Md_back_L64 {L : Nat} {xs : Nat → Int32} {k99 : vS → Option (Int32 × vS)} {D : Nat} (hD : 0 ≤ D) {r : Int32} {s' : vS} (hk99 : ∀ (s : vS), k99 s = some (r, s') → s_Ek (s_rows 3 L xs) D s_e261.1 99 [(0, .ref 151)] [] (v_mk s) (v_Q (some (.int r)) s')) : ∀ (n : Nat) (v1 : Int32) (s : vS), f_Md_back_L64 k99 n v1 s = some (r, s') → s_Ek (s_rows 3 L xs) D s_e261.1 64 [(0, .ref 151), (1, .int v1)] [] (v_mk s) (v_Q (some (.int r)) s') := by
  intro n
  induction n with
  | zero => intro v1 s h; exact nomatch (show (none : Option (Int32 × vS)) = some (r, s') from h)
  | succ n ih =>
    intro v1 s h
    replace h : f_Md_back_L64b k99 (f_Md_back_L64 k99 n) v1 s = some (r, s') := h
    unfold f_Md_back_L64b at h
    refine s_ek_bk 2 (P := 66) (ls' := [(0, .ref 151), (1, .int v1)]) (st' := [.int 3, .int v1]) (M' := v_mk s) rfl ?_
    rcases v_if h with ⟨c203, h⟩ | ⟨c203, h⟩
    · refine v_i2t (T := 99) rfl rfl c203 ?_
      refine v_ls (ls' := [(0, .ref 151)]) ⟨rfl, trivial⟩ (show ([0] : List Nat).Nodup from by decide) ?_
      exact hk99 _ h
    · refine v_i2f (T := 99) rfl rfl c203 ?_
      refine s_ek_bk 1 (P := 70) (ls' := [(0, .ref 151), (1, .int v1)]) (st' := [.ref 151]) (M' := v_mk s) rfl ?_
      refine v_gf rfl (v_gr (rfl : v_kd 151 = 11) (rfl : v_sl 151 20 = .ref 163) ⟨rfl, rfl, by decide⟩) ?_
      refine s_ek_bk 2 (P := 75) (ls' := [(0, .ref 151), (1, .int v1)]) (st' := [.ref 151, .int v1, .ref 163]) (M' := v_mk s) rfl ?_
      refine v_gf rfl (v_gr (rfl : v_kd 151 = 11) (rfl : v_sl 151 40 = .ref 177) ⟨rfl, rfl, by decide⟩) ?_
      refine s_ek_bk 1 (P := 79) (ls' := [(0, .ref 151), (1, .int v1)]) (st' := [.int v1, .ref 177, .int v1, .ref 163]) (M' := v_mk s) rfl ?_
      obtain ⟨c204, h⟩ := v_ck h
      refine v_ia (i := v1) rfl (v_ai (rfl : v_kd 177 = 13) rfl (by decide) v_all13 (v_cn (rfl : v_ln 177 = 3) c204)) ?_
      obtain ⟨c205, h⟩ := v_ck h
      obtain ⟨s206, es206, h⟩ := v_ld h
      refine v_ist (M' := v_mk s206) (i := v1) rfl (by rw [es206]; exact v_pai (rfl : v_kd 163 = 13) rfl (by decide) v_all13 (v_cn (rfl : v_ln 163 = 3) c205)) ?_
      refine s_ek_bk 1 (P := 82) (ls' := [(0, .ref 151), (1, .int v1)]) (st' := [.ref 151]) (M' := v_mk s206) rfl ?_
      refine v_gf rfl (v_gr (rfl : v_kd 151 = 11) (rfl : v_sl 151 21 = .ref 164) ⟨rfl, rfl, by decide⟩) ?_
      refine s_ek_bk 2 (P := 87) (ls' := [(0, .ref 151), (1, .int v1)]) (st' := [.ref 151, .int v1, .ref 164]) (M' := v_mk s206) rfl ?_
      refine v_gf rfl (v_gr (rfl : v_kd 151 = 11) (rfl : v_sl 151 41 = .ref 178) ⟨rfl, rfl, by decide⟩) ?_
      refine s_ek_bk 1 (P := 91) (ls' := [(0, .ref 151), (1, .int v1)]) (st' := [.int v1, .ref 178, .int v1, .ref 164]) (M' := v_mk s206) rfl ?_
      obtain ⟨c207, h⟩ := v_ck h
      refine v_ia (i := v1) rfl (v_ai (rfl : v_kd 178 = 13) rfl (by decide) v_all13 (v_cn (rfl : v_ln 178 = 3) c207)) ?_
      obtain ⟨c208, h⟩ := v_ck h
      obtain ⟨s209, es209, h⟩ := v_ld h
      refine v_ist (M' := v_mk s209) (i := v1) rfl (by rw [es209]; exact v_pai (rfl : v_kd 164 = 13) rfl (by decide) v_all13 (v_cn (rfl : v_ln 164 = 3) c208)) ?_
      refine s_ek_bk 2 (P := 64) (ls' := [(1, .int (v1 + 1)), (0, .ref 151)]) (st' := []) (M' := v_mk s209) rfl ?_
      refine v_ls (ls' := [(0, .ref 151), (1, .int (v1 + 1))]) ⟨rfl, rfl, trivial⟩ (show ([0, 1] : List Nat).Nodup from by decide) ?_
      exact ih _ _ h
set_option maxRecDepth 20000 in
set_option maxHeartbeats 4000000 in
theorem t_Md_back {L : Nat} {xs : Nat → Int32} {D : Nat} {r : Int32} {s s' : vS} (h : f_Md_back s = some (r, s')) (hD : 0 ≤ D) : s_Ek (s_rows 3 L xs) D s_e261.1 0 (lv_args 0 [.ref 151]) [] (v_mk s) (v_Q (some (.int r)) s') := by
  unfold f_Md_back at h
  show s_Ek (s_rows 3 L xs) D s_e261.1 0 [(0, .ref 151)] [] (v_mk s) _
  refine s_ek_bk 1 (P := 1) (ls' := [(0, .ref 151)]) (st' := [.ref 151]) (M' := v_mk s) rfl ?_
  refine v_gf rfl (v_gi (rfl : v_kd 151 = 11) rfl ⟨rfl, rfl, by decide⟩) ?_
  rcases v_if h with ⟨c1, h⟩ | ⟨c1, h⟩
  · refine v_i1f (T := 10) rfl rfl (fun q => q c1) ?_
    refine s_ek_bk 1 (P := 9) (ls' := [(0, .ref 151)]) (st' := [.int (-5)]) (M' := v_mk s) rfl ?_
    obtain ⟨rfl, rfl⟩ := v_so h
    exact v_ret (fun _ => rfl)
  · refine v_i1t (T := 10) rfl rfl c1 ?_
    refine s_ek_bk 2 (P := 12) (ls' := [(1, .int 0), (0, .ref 151)]) (st' := []) (M' := v_mk s) rfl ?_
    refine v_ls (ls' := [(0, .ref 151), (1, .int 0)]) ⟨rfl, rfl, trivial⟩ (show ([0, 1] : List Nat).Nodup from by decide) ?_
    refine t_Md_back_L12 (by omega) (fun s2 h => ?_) 4096 _ _ h
    show s_Ek (s_rows 3 L xs) D s_e261.1 62 [(0, .ref 151)] [] (v_mk s2) _
    refine s_ek_bk 2 (P := 64) (ls' := [(1, .int 0), (0, .ref 151)]) (st' := []) (M' := v_mk s2) rfl ?_
    refine v_ls (ls' := [(0, .ref 151), (1, .int 0)]) ⟨rfl, rfl, trivial⟩ (show ([0, 1] : List Nat).Nodup from by decide) ?_
    refine t_Md_back_L64 (by omega) (fun s3 h => ?_) 4096 _ _ h
    show s_Ek (s_rows 3 L xs) D s_e261.1 99 [(0, .ref 151)] [] (v_mk s3) _
    refine s_ek_bk 2 (P := 101) (ls' := [(0, .ref 151)]) (st' := [.int 0, .ref 151]) (M' := v_mk s3) rfl ?_
    obtain ⟨s4, es4, h⟩ := v_ld h
    refine v_pf (M' := v_mk s4) rfl (by rw [es4]; exact v_pi (rfl : v_kd 151 = 11) rfl ⟨rfl, rfl, by decide⟩ rfl) ?_
    refine s_ek_bk 2 (P := 106) (ls' := [(0, .ref 151)]) (st' := [.int 0, .ref 151]) (M' := v_mk s4) rfl ?_
    obtain ⟨s5, es5, h⟩ := v_ld h
    refine v_pf (M' := v_mk s5) rfl (by rw [es5]; exact v_pi (rfl : v_kd 151 = 11) rfl ⟨rfl, rfl, by decide⟩ rfl) ?_
    refine s_ek_bk 1 (P := 110) (ls' := [(0, .ref 151)]) (st' := [.ref 151]) (M' := v_mk s5) rfl ?_
    refine v_gf rfl (v_gi (rfl : v_kd 151 = 11) rfl ⟨rfl, rfl, by decide⟩) ?_
    obtain ⟨rfl, rfl⟩ := v_so h
    exact v_ret (fun _ => rfl)
noncomputable def f_Md_isBody (b : Int32) (s : vS) : Option (Int32 × vS) := (v_bi (f_Md_in b 0 ((s.1 151 42) - (1 : Int32)) s) (fun r1 s1 => (if r1 = 0 ∨ r1 = 1 then some (r1, s1) else none)))
set_option maxRecDepth 20000 in
set_option maxHeartbeats 4000000 in
theorem t_Md_isBody {L : Nat} {xs : Nat → Int32} {b : Int32} {D : Nat} {r : Int32} {s s' : vS} (h : f_Md_isBody b s = some (r, s')) (hD : 1 ≤ D) : s_Ek (s_rows 3 L xs) D s_e262.1 0 (lv_args 0 [.ref 151, .int b]) [] (v_mk s) (v_Q (some (.int r)) s') := by
  unfold f_Md_isBody at h
  show s_Ek (s_rows 3 L xs) D s_e262.1 0 [(0, .ref 151), (1, .int b)] [] (v_mk s) _
  refine s_ek_bk 3 (P := 3) (ls' := [(0, .ref 151), (1, .int b)]) (st' := [.ref 151, .int 0, .int b]) (M' := v_mk s) rfl ?_
  refine v_gf rfl (v_gi (rfl : v_kd 151 = 11) rfl ⟨rfl, rfl, by decide⟩) ?_
  refine s_ek_bk 2 (P := 8) (ls' := [(0, .ref 151), (1, .int b)]) (st' := [.int ((s.1 151 42) - (1 : Int32)), .int 0, .int b]) (M' := v_mk s) rfl ?_
  obtain ⟨r1, s1, e1, h⟩ := v_bd h
  refine v_cS (ν := s_e181.1) (w := 1451) (as := [.int b, .int 0, .int ((s.1 151 42) - (1 : Int32))]) (r := []) (o := some (.int r1)) (by omega) rfl rfl rfl rfl (t_Md_in e1 (by omega)) ?_
  show s_Ek (s_rows 3 L xs) D s_e262.1 11 [(0, .ref 151), (1, .int b)] [.int r1] (v_mk s1) _
  obtain ⟨c2, h⟩ := v_ck h
  obtain ⟨rfl, rfl⟩ := v_so h
  exact v_zret rfl rfl c2
noncomputable def f_Md_ran (b : Int32) (s : vS) : Option (Unit × vS) := (if 24 ≤ (s.1 151 44).toInt then (v_let (v_w1 s 151 44 ((s.1 151 44) + (1 : Int32))) (fun s2 => (some ((), s2)))) else (if v_in (s.1 151 44) 24 then (v_let (v_w1 s 180 (Int32.toNatClampNeg (s.1 151 44)) b) (fun s4 => (v_let (v_w1 s4 151 44 ((s4.1 151 44) + (1 : Int32))) (fun s5 => (some ((), s5)))))) else none))
set_option maxRecDepth 20000 in
set_option maxHeartbeats 4000000 in
theorem t_Md_ran {L : Nat} {xs : Nat → Int32} {b : Int32} {D : Nat} {r : Unit} {s s' : vS} (h : f_Md_ran b s = some (r, s')) (hD : 0 ≤ D) : s_Ek (s_rows 3 L xs) D s_e263.1 0 (lv_args 0 [.ref 151, .int b]) [] (v_mk s) (v_Q none s') := by
  unfold f_Md_ran at h
  show s_Ek (s_rows 3 L xs) D s_e263.1 0 [(0, .ref 151), (1, .int b)] [] (v_mk s) _
  refine s_ek_bk 1 (P := 1) (ls' := [(0, .ref 151), (1, .int b)]) (st' := [.ref 151]) (M' := v_mk s) rfl ?_
  refine v_gf rfl (v_gi (rfl : v_kd 151 = 11) rfl ⟨rfl, rfl, by decide⟩) ?_
  refine s_ek_bk 1 (P := 6) (ls' := [(0, .ref 151), (1, .int b)]) (st' := [.int 24, .int (s.1 151 44)]) (M' := v_mk s) rfl ?_
  rcases v_if h with ⟨c1, h⟩ | ⟨c1, h⟩
  · refine v_i2t (T := 19) rfl rfl c1 ?_
    refine s_ek_bk 2 (P := 21) (ls' := [(0, .ref 151), (1, .int b)]) (st' := [.ref 151, .ref 151]) (M' := v_mk s) rfl ?_
    refine v_gf rfl (v_gi (rfl : v_kd 151 = 11) rfl ⟨rfl, rfl, by decide⟩) ?_
    refine s_ek_bk 2 (P := 26) (ls' := [(0, .ref 151), (1, .int b)]) (st' := [.int ((s.1 151 44) + (1 : Int32)), .ref 151]) (M' := v_mk s) rfl ?_
    obtain ⟨s2, es2, h⟩ := v_ld h
    refine v_pf (M' := v_mk s2) rfl (by rw [es2]; exact v_pi (rfl : v_kd 151 = 11) rfl ⟨rfl, rfl, by decide⟩ rfl) ?_
    obtain ⟨rfl, rfl⟩ := v_so h
    exact v_ret (fun _ => rfl)
  · refine v_i2f (T := 19) rfl rfl c1 ?_
    refine s_ek_bk 1 (P := 10) (ls' := [(0, .ref 151), (1, .int b)]) (st' := [.ref 151]) (M' := v_mk s) rfl ?_
    refine v_gf rfl (v_gr (rfl : v_kd 151 = 11) (rfl : v_sl 151 45 = .ref 180) ⟨rfl, rfl, by decide⟩) ?_
    refine s_ek_bk 1 (P := 14) (ls' := [(0, .ref 151), (1, .int b)]) (st' := [.ref 151, .ref 180]) (M' := v_mk s) rfl ?_
    refine v_gf rfl (v_gi (rfl : v_kd 151 = 11) rfl ⟨rfl, rfl, by decide⟩) ?_
    refine s_ek_bk 1 (P := 18) (ls' := [(0, .ref 151), (1, .int b)]) (st' := [.int b, .int (s.1 151 44), .ref 180]) (M' := v_mk s) rfl ?_
    obtain ⟨c3, h⟩ := v_ck h
    obtain ⟨s4, es4, h⟩ := v_ld h
    refine v_ist (M' := v_mk s4) (i := (s.1 151 44)) rfl (by rw [es4]; exact v_pai (rfl : v_kd 180 = 13) rfl (by decide) v_all13 (v_cn (rfl : v_ln 180 = 24) c3)) ?_
    refine s_ek_bk 2 (P := 21) (ls' := [(0, .ref 151), (1, .int b)]) (st' := [.ref 151, .ref 151]) (M' := v_mk s4) rfl ?_
    refine v_gf rfl (v_gi (rfl : v_kd 151 = 11) rfl ⟨rfl, rfl, by decide⟩) ?_
    refine s_ek_bk 2 (P := 26) (ls' := [(0, .ref 151), (1, .int b)]) (st' := [.int ((s4.1 151 44) + (1 : Int32)), .ref 151]) (M' := v_mk s4) rfl ?_
    obtain ⟨s5, es5, h⟩ := v_ld h
    refine v_pf (M' := v_mk s5) rfl (by rw [es5]; exact v_pi (rfl : v_kd 151 = 11) rfl ⟨rfl, rfl, by decide⟩ rfl) ?_
    obtain ⟨rfl, rfl⟩ := v_so h
    exact v_ret (fun _ => rfl)
