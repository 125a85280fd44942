/-! functions over the store, and the runs that they stand for: Wd_prepare Wd_word Wd_begin Wd_goOn Wd_number Wd_wouldHold Wd_fits Wd_firstFitting Wd_mightHold Wd_isBarred Wd_barring Ws_move Ws_draw Ws_restore Ol_feed Ol_isDate -/
noncomputable def f_Wd_prepare_L55b (p2 : Int32) (p5 : Int32) (p6 : Int32) (p7 : Nat) (k98 : vS → Option (Unit × vS)) (again : Int32 → vS → Option (Unit × vS)) (v8 : Int32) (s : vS) : Option (Unit × vS) := (if 125 ≤ v8.toInt then (k98 s) else (v_bi (f_Cs_digit v8 p6 s) (fun r309 s309 => (v_bi (f_Wd_compares r309 ((p5 / (5 : Int32)) - (p5 / (5 : Int32)) / (3 : Int32) * (3 : Int32)) (p5 - p5 / (5 : Int32) * (5 : Int32)) s309) (fun r310 s310 => (if r310.toInt = 0 then (again (v8 + 1) s310) else (v_bi (f_Cs_add p7 v8 s310) (fun _ s312 => (again (v8 + 1) s312)))))))))
noncomputable def f_Wd_prepare_L55 (p2 : Int32) (p5 : Int32) (p6 : Int32) (p7 : Nat) (k98 : vS → Option (Unit × vS)) (n : Nat) : Int32 → vS → Option (Unit × vS) := Nat.rec (motive := fun _ => Int32 → vS → Option (Unit × vS)) (fun _ _ => none) (fun _ again => f_Wd_prepare_L55b p2 p5 p6 p7 k98 again) n
noncomputable def f_Wd_prepare_L20b (p2 : Int32) (k104 : vS → Option (Unit × vS)) (again : Int32 → vS → Option (Unit × vS)) (v5 : Int32) (s : vS) : Option (Unit × vS) := (if 45 ≤ v5.toInt then (k104 s) else (v_bi (f_Ws_meaning (v5 / (15 : Int32)) p2 s) (fun r104 s104 => (v_bi (f_Wd_metBy v5 s104) (fun r105 s105 => if v_kd r105 = 0 then (v_bi (f_Cs_clear r105 s105) (fun _ s107 => (f_Wd_prepare_L55 p2 v5 r104 r105 (fun s108 => (again (v5 + 1) s108)) 4096 0 s107))) else none)))))
noncomputable def f_Wd_prepare_L20 (p2 : Int32) (k104 : vS → Option (Unit × vS)) (n : Nat) : Int32 → vS → Option (Unit × vS) := Nat.rec (motive := fun _ => Int32 → vS → Option (Unit × vS)) (fun _ _ => none) (fun _ again => f_Wd_prepare_L20b p2 k104 again) n
noncomputable def f_Wd_prepare (c : Int32) (d : Int32) (e : Int32) (s : vS) : Option (Unit × vS) := (v_let (v_w1 s 79 1 d) (fun s1 => (v_let (v_w1 s1 79 2 e) (fun s2 => (f_Wd_prepare_L20 c (fun s3 => (some ((), s3))) 4096 0 s2)))))
set_option maxRecDepth 20000 in
set_option maxHeartbeats 4000000 in
theorem t_Wd_prepare_L55 {L : Nat} {xs : Nat → Int32} {p2 : Int32} {p5 : Int32} {p6 : Int32} {p7 : Nat} (hp7 : v_kd p7 = 0) {k98 : vS → Option (Unit × vS)} {D : Nat} (hD : 2 ≤ D) {r : Unit} {s' : vS} (hk98 : ∀ (s : vS), k98 s = some (r, s') → s_Ek (s_rows 3 L xs) D s_e113.1 98 [(0, .ref 78), (1, .ref 9), (2, .int p2), (5, .int p5)] [] (v_mk s) (v_Q none s')) : ∀ (n : Nat) (v8 : Int32) (s : vS), f_Wd_prepare_L55 p2 p5 p6 p7 k98 n v8 s = some (r, s') → s_Ek (s_rows 3 L xs) D s_e113.1 55 [(0, .ref 78), (1, .ref 9), (2, .int p2), (5, .int p5), (6, .int p6), (7, .ref p7), (8, .int v8)] [] (v_mk s) (v_Q none s') := by
  intro n
  induction n with
  | zero => intro v8 s h; exact nomatch (show (none : Option (Unit × vS)) = some (r, s') from h)
  | succ n ih =>
    intro v8 s h
    replace h : f_Wd_prepare_L55b p2 p5 p6 p7 k98 (f_Wd_prepare_L55 p2 p5 p6 p7 k98 n) v8 s = some (r, s') := h
    unfold f_Wd_prepare_L55b at h
    refine s_ek_bk 2 (P := 59) (ls' := [(0, .ref 78), (1, .ref 9), (2, .int p2), (5, .int p5), (6, .int p6), (7, .ref p7), (8, .int v8)]) (st' := [.int 125, .int v8]) (M' := v_mk s) rfl ?_
    rcases v_if h with ⟨c308, h⟩ | ⟨c308, h⟩
    · refine v_i2t (T := 98) rfl rfl c308 ?_
      refine v_ls (ls' := [(0, .ref 78), (1, .ref 9), (2, .int p2), (5, .int p5)]) ⟨rfl, rfl, rfl, rfl, trivial⟩ (show ([0, 1, 2, 5] : List Nat).Nodup from by decide) ?_
      exact hk98 _ h
    · refine v_i2f (T := 98) rfl rfl c308 ?_
      refine s_ek_bk 2 (P := 66) (ls' := [(0, .ref 78), (1, .ref 9), (2, .int p2), (5, .int p5), (6, .int p6), (7, .ref p7), (8, .int v8)]) (st' := [.int p6, .int v8]) (M' := v_mk s) rfl ?_
      obtain ⟨r309, s309, e309, h⟩ := v_bd h
      refine v_cS (ν := s_e4.1) (w := 34) (as := [.int v8, .int p6]) (r := []) (o := some (.int r309)) (by omega) rfl rfl rfl rfl (t_Cs_digit e309 (by omega)) ?_
      show s_Ek (s_rows 3 L xs) D s_e113.1 69 [(0, .ref 78), (1, .ref 9), (2, .int p2), (5, .int p5), (6, .int p6), (7, .ref p7), (8, .int v8)] [.int r309] (v_mk s309) _
      refine s_ek_bk 8 (P := 79) (ls' := [(0, .ref 78), (1, .ref 9), (2, .int p2), (5, .int p5), (6, .int p6), (7, .ref p7), (8, .int v8)]) (st' := [.int (p5 - p5 / (5 : Int32) * (5 : Int32)), .int ((p5 / (5 : Int32)) - (p5 / (5 : Int32)) / (3 : Int32) * (3 : Int32)), .int r309]) (M' := v_mk s309) rfl ?_
      obtain ⟨r310, s310, e310, h⟩ := v_bd h
      refine v_cS (ν := s_e114.1) (w := 915) (as := [.int r309, .int ((p5 / (5 : Int32)) - (p5 / (5 : Int32)) / (3 : Int32) * (3 : Int32)), .int (p5 - p5 / (5 : Int32) * (5 : Int32))]) (r := []) (o := some (.int r310)) (by omega) rfl rfl rfl rfl (t_Wd_compares e310 (by omega)) ?_
      show s_Ek (s_rows 3 L xs) D s_e113.1 82 [(0, .ref 78), (1, .ref 9), (2, .int p2), (5, .int p5), (6, .int p6), (7, .ref p7), (8, .int v8)] [.int r310] (v_mk s310) _
      rcases v_if h with ⟨c311, h⟩ | ⟨c311, h⟩
      · refine v_i1t (T := 92) rfl rfl c311 ?_
        refine s_ek_bk 2 (P := 55) (ls' := [(8, .int (v8 + 1)), (0, .ref 78), (1, .ref 9), (2, .int p2), (5, .int p5), (6, .int p6), (7, .ref p7)]) (st' := []) (M' := v_mk s310) rfl ?_
        refine v_ls (ls' := [(0, .ref 78), (1, .ref 9), (2, .int p2), (5, .int p5), (6, .int p6), (7, .ref p7), (8, .int (v8 + 1))]) ⟨rfl, rfl, rfl, rfl, rfl, rfl, rfl, trivial⟩ (show ([0, 1, 2, 5, 6, 7, 8] : List Nat).Nodup from by decide) ?_
        exact ih _ _ h
      · refine v_i1f (T := 92) rfl rfl c311 ?_
        refine s_ek_bk 2 (P := 89) (ls' := [(0, .ref 78), (1, .ref 9), (2, .int p2), (5, .int p5), (6, .int p6), (7, .ref p7), (8, .int v8)]) (st' := [.int v8, .ref p7]) (M' := v_mk s310) rfl ?_
        obtain ⟨r312, s312, e312, h⟩ := v_bd h
        refine v_cV (ν := s_e7.1) (w := 57) (a := p7) (as' := [.int v8]) (r := []) (o := none) (by omega) rfl rfl rfl (v_mk_kd (k := 0) hp7 (by decide)) rfl (t_Cs_add hp7 e312 (by omega)) ?_
        show s_Ek (s_rows 3 L xs) D s_e113.1 92 [(0, .ref 78), (1, .ref 9), (2, .int p2), (5, .int p5), (6, .int p6), (7, .ref p7), (8, .int v8)] [] (v_mk s312) _
        refine s_ek_bk 2 (P := 55) (ls' := [(8, .int (v8 + 1)), (0, .ref 78), (1, .ref 9), (2, .int p2), (5, .int p5), (6, .int p6), (7, .ref p7)]) (st' := []) (M' := v_mk s312) rfl ?_
        refine v_ls (ls' := [(0, .ref 78), (1, .ref 9), (2, .int p2), (5, .int p5), (6, .int p6), (7, .ref p7), (8, .int (v8 + 1))]) ⟨rfl, rfl, rfl, rfl, rfl, rfl, rfl, trivial⟩ (show ([0, 1, 2, 5, 6, 7, 8] : List Nat).Nodup from by decide) ?_
        exact ih _ _ h
set_option maxRecDepth 20000 in
set_option maxHeartbeats 4000000 in
theorem t_Wd_prepare_L20 {L : Nat} {xs : Nat → Int32} {p2 : Int32} {k104 : vS → Option (Unit × vS)} {D : Nat} (hD : 2 ≤ D) {r : Unit} {s' : vS} (hk104 : ∀ (s : vS), k104 s = some (r, s') → s_Ek (s_rows 3 L xs) D s_e113.1 104 [] [] (v_mk s) (v_Q none s')) : ∀ (n : Nat) (v5 : Int32) (s : vS), f_Wd_prepare_L20 p2 k104 n v5 s = some (r, s') → s_Ek (s_rows 3 L xs) D s_e113.1 20 [(0, .ref 78), (1, .ref 9), (2, .int p2), (5, .int v5)] [] (v_mk s) (v_Q none s') := by
  intro n
  induction n with
  | zero => intro v5 s h; exact nomatch (show (none : Option (Unit × vS)) = some (r, s') from h)
  | succ n ih =>
    intro v5 s h
    replace h : f_Wd_prepare_L20b p2 k104 (f_Wd_prepare_L20 p2 k104 n) v5 s = some (r, s') := h
    unfold f_Wd_prepare_L20b at h
    refine s_ek_bk 2 (P := 24) (ls' := [(0, .ref 78), (1, .ref 9), (2, .int p2), (5, .int v5)]) (st' := [.int 45, .int v5]) (M' := v_mk s) rfl ?_
    rcases v_if h with ⟨c103, h⟩ | ⟨c103, h⟩
    · refine v_i2t (T := 104) rfl rfl c103 ?_
      refine v_ls (ls' := []) trivial (show ([] : List Nat).Nodup from by decide) ?_
      exact hk104 _ h
    · refine v_i2f (T := 104) rfl rfl c103 ?_
      refine s_ek_bk 5 (P := 34) (ls' := [(0, .ref 78), (1, .ref 9), (2, .int p2), (5, .int v5)]) (st' := [.int p2, .int (v5 / (15 : Int32)), .ref 9]) (M' := v_mk s) rfl ?_
      obtain ⟨r104, s104, e104, h⟩ := v_bd h
      refine v_cV (ν := s_e130.1) (w := 1042) (a := 9) (as' := [.int (v5 / (15 : Int32)), .int p2]) (r := []) (o := some (.int r104)) (by omega) rfl rfl rfl (v_mk_kd (k := 9) (rfl : v_kd 9 = 9) (by decide)) rfl (t_Ws_meaning e104 (by omega)) ?_
      show s_Ek (s_rows 3 L xs) D s_e113.1 37 [(0, .ref 78), (1, .ref 9), (2, .int p2), (5, .int v5)] [.int r104] (v_mk s104) _
      refine s_ek_bk 3 (P := 42) (ls' := [(6, .int r104), (0, .ref 78), (1, .ref 9), (2, .int p2), (5, .int v5)]) (st' := [.int v5, .ref 78]) (M' := v_mk s104) rfl ?_
      obtain ⟨r105, s105, e105, h⟩ := v_bd h
      refine v_cV (ν := s_e115.1) (w := 921) (a := 78) (as' := [.int v5]) (r := []) (o := some (.ref r105)) (by omega) rfl rfl rfl (v_mk_kd (k := 8) (rfl : v_kd 78 = 8) (by decide)) rfl (t_Wd_metBy e105 (by omega)) ?_
      obtain ⟨c106, h⟩ := v_ck h
      show s_Ek (s_rows 3 L xs) D s_e113.1 45 [(6, .int r104), (0, .ref 78), (1, .ref 9), (2, .int p2), (5, .int v5)] [.ref r105] (v_mk s105) _
      refine s_ek_bk 2 (P := 49) (ls' := [(7, .ref r105), (6, .int r104), (0, .ref 78), (1, .ref 9), (2, .int p2), (5, .int v5)]) (st' := [.ref r105]) (M' := v_mk s105) rfl ?_
      obtain ⟨r107, s107, e107, h⟩ := v_bd h
      refine v_cV (ν := s_e5.1) (w := 40) (a := r105) (as' := []) (r := []) (o := none) (by omega) rfl rfl rfl (v_mk_kd (k := 0) c106 (by decide)) rfl (t_Cs_clear c106 e107 (by omega)) ?_
      show s_Ek (s_rows 3 L xs) D s_e113.1 52 [(7, .ref r105), (6, .int r104), (0, .ref 78), (1, .ref 9), (2, .int p2), (5, .int v5)] [] (v_mk s107) _
      refine s_ek_bk 2 (P := 55) (ls' := [(8, .int 0), (7, .ref r105), (6, .int r104), (0, .ref 78), (1, .ref 9), (2, .int p2), (5, .int v5)]) (st' := []) (M' := v_mk s107) rfl ?_
      refine v_ls (ls' := [(0, .ref 78), (1, .ref 9), (2, .int p2), (5, .int v5), (6, .int r104), (7, .ref r105), (8, .int 0)]) ⟨rfl, rfl, rfl, rfl, rfl, rfl, rfl, trivial⟩ (show ([0, 1, 2, 5, 6, 7, 8] : List Nat).Nodup from by decide) ?_
      refine t_Wd_prepare_L55 c106 (by omega) (fun s108 h => ?_) 4096 _ _ h
      show s_Ek (s_rows 3 L xs) D s_e113.1 98 [(0, .ref 78), (1, .ref 9), (2, .int p2), (5, .int v5)] [] (v_mk s108) _
      refine s_ek_bk 2 (P := 20) (ls' := [(5, .int (v5 + 1)), (0, .ref 78), (1, .ref 9), (2, .int p2)]) (st' := []) (M' := v_mk s108) rfl ?_
      refine v_ls (ls' := [(0, .ref 78), (1, .ref 9), (2, .int p2), (5, .int (v5 + 1))]) ⟨rfl, rfl, rfl, rfl, trivial⟩ (show ([0, 1, 2, 5] : List Nat).Nodup from by decide) ?_
      exact ih _ _ h
set_option maxRecDepth 20000 in
set_option maxHeartbeats 4000000 in
theorem t_Wd_prepare {L : Nat} {xs : Nat → Int32} {c : Int32} {d : Int32} {e : Int32} {D : Nat} {r : Unit} {s s' : vS} (h : f_Wd_prepare c d e s = some (r, s')) (hD : 2 ≤ D) : s_Ek (s_rows 3 L xs) D s_e113.1 0 (lv_args 0 [.ref 78, .ref 9, .int c, .int d, .int e]) [] (v_mk s) (v_Q none s') := by
  unfold f_Wd_prepare at h
  show s_Ek (s_rows 3 L xs) D s_e113.1 0 [(0, .ref 78), (1, .ref 9), (2, .int c), (3, .int d), (4, .int e)] [] (v_mk s) _
  refine s_ek_bk 1 (P := 1) (ls' := [(0, .ref 78), (1, .ref 9), (2, .int c), (3, .int d), (4, .int e)]) (st' := [.ref 78]) (M' := v_mk s) rfl ?_
  refine v_gf rfl (v_gr (rfl : v_kd 78 = 8) (rfl : v_sl 78 0 = .ref 79) ⟨rfl, rfl, by decide⟩) ?_
  refine s_ek_bk 1 (P := 5) (ls' := [(0, .ref 78), (1, .ref 9), (2, .int c), (3, .int d), (4, .int e)]) (st' := [.int d, .ref 79]) (M' := v_mk s) rfl ?_
  obtain ⟨s1, es1, h⟩ := v_ld h
  refine v_pf (M' := v_mk s1) rfl (by rw [es1]; exact v_pi (rfl : v_kd 79 = 4) rfl ⟨rfl, rfl, by decide⟩ rfl) ?_
  refine s_ek_bk 1 (P := 9) (ls' := [(0, .ref 78), (1, .ref 9), (2, .int c), (3, .int d), (4, .int e)]) (st' := [.ref 78]) (M' := v_mk s1) rfl ?_
  refine v_gf rfl (v_gr (rfl : v_kd 78 = 8) (rfl : v_sl 78 0 = .ref 79) ⟨rfl, rfl, by decide⟩) ?_
  refine s_ek_bk 1 (P := 14) (ls' := [(0, .ref 78), (1, .ref 9), (2, .int c), (3, .int d), (4, .int e)]) (st' := [.int e, .ref 79]) (M' := v_mk s1) rfl ?_
  obtain ⟨s2, es2, h⟩ := v_ld h
  refine v_pf (M' := v_mk s2) rfl (by rw [es2]; exact v_pi (rfl : v_kd 79 = 4) rfl ⟨rfl, rfl, by decide⟩ rfl) ?_
  refine s_ek_bk 2 (P := 20) (ls' := [(5, .int 0), (0, .ref 78), (1, .ref 9), (2, .int c), (3, .int d), (4, .int e)]) (st' := []) (M' := v_mk s2) rfl ?_
  refine v_ls (ls' := [(0, .ref 78), (1, .ref 9), (2, .int c), (5, .int 0)]) ⟨rfl, rfl, rfl, rfl, trivial⟩ (show ([0, 1, 2, 5] : List Nat).Nodup from by decide) ?_
  refine t_Wd_prepare_L20 (by omega) (fun s3 h => ?_) 4096 _ _ h
  show s_Ek (s_rows 3 L xs) D s_e113.1 104 [] [] (v_mk s3) _
  obtain ⟨rfl, rfl⟩ := v_so h
  exact v_ret (fun _ => rfl)
noncomputable def f_Wd_word (s : vS) : Option (Unit × vS) := (v_bi (f_Wd_metBy (s.1 78 4) s) (fun r1 s1 => if v_kd r1 = 0 then (v_bi (f_Wd_metBy (s1.1 78 5) s1) (fun r3 s3 => if v_kd r3 = 0 then (v_bi (f_Cs_takeBoth 83 r1 r3 s3) (fun _ s5 => (some ((), s5)))) else none)) else none))
set_option maxRecDepth 20000 in
set_option maxHeartbeats 4000000 in
theorem t_Wd_word {L : Nat} {xs : Nat → Int32} {D : Nat} {r : Unit} {s s' : vS} (h : f_Wd_word s = some (r, s')) (hD : 1 ≤ D) : s_Ek (s_rows 3 L xs) D s_e118.1 0 (lv_args 0 [.ref 78]) [] (v_mk s) (v_Q none s') := by
  unfold f_Wd_word at h
  show s_Ek (s_rows 3 L xs) D s_e118.1 0 [(0, .ref 78)] [] (v_mk s) _
  refine s_ek_bk 1 (P := 1) (ls' := [(0, .ref 78)]) (st' := [.ref 78]) (M' := v_mk s) rfl ?_
  refine v_gf rfl (v_gr (rfl : v_kd 78 = 8) (rfl : v_sl 78 0 = .ref 79) ⟨rfl, rfl, by decide⟩) ?_
  refine v_gf rfl (v_gr (rfl : v_kd 79 = 4) (rfl : v_sl 79 5 = .ref 83) ⟨rfl, rfl, by decide⟩) ?_
  refine s_ek_bk 2 (P := 9) (ls' := [(0, .ref 78)]) (st' := [.ref 78, .ref 78, .ref 83]) (M' := v_mk s) rfl ?_
  refine v_gf rfl (v_gi (rfl : v_kd 78 = 8) rfl ⟨rfl, rfl, by decide⟩) ?_
  obtain ⟨r1, s1, e1, h⟩ := v_bd h
  refine v_cV (ν := s_e115.1) (w := 921) (a := 78) (as' := [.int (s.1 78 4)]) (r := [.ref 83]) (o := some (.ref r1)) (by omega) rfl rfl rfl (v_mk_kd (k := 8) (rfl : v_kd 78 = 8) (by decide)) rfl (t_Wd_metBy e1 (by omega)) ?_
  obtain ⟨c2, h⟩ := v_ck h
  show s_Ek (s_rows 3 L xs) D s_e118.1 15 [(0, .ref 78)] [.ref r1, .ref 83] (v_mk s1) _
  refine s_ek_bk 2 (P := 17) (ls' := [(0, .ref 78)]) (st' := [.ref 78, .ref 78, .ref r1, .ref 83]) (M' := v_mk s1) rfl ?_
  refine v_gf rfl (v_gi (rfl : v_kd 78 = 8) rfl ⟨rfl, rfl, by decide⟩) ?_
  obtain ⟨r3, s3, e3, h⟩ := v_bd h
  refine v_cV (ν := s_e115.1) (w := 921) (a := 78) (as' := [.int (s1.1 78 5)]) (r := [.ref r1, .ref 83]) (o := some (.ref r3)) (by omega) rfl rfl rfl (v_mk_kd (k := 8) (rfl : v_kd 78 = 8) (by decide)) rfl (t_Wd_metBy e3 (by omega)) ?_
  obtain ⟨c4, h⟩ := v_ck h
  show s_Ek (s_rows 3 L xs) D s_e118.1 23 [(0, .ref 78)] [.ref r3, .ref r1, .ref 83] (v_mk s3) _
  obtain ⟨r5, s5, e5, h⟩ := v_bd h
  refine v_cV (ν := s_e9.1) (w := 74) (a := 83) (as' := [.ref r1, .ref r3]) (r := []) (o := none) (by omega) rfl rfl rfl (v_mk_kd (k := 0) (rfl : v_kd 83 = 0) (by decide)) rfl (t_Cs_takeBoth (rfl : v_kd 83 = 0) c2 c4 e5 (by omega)) ?_
  show s_Ek (s_rows 3 L xs) D s_e118.1 26 [(0, .ref 78)] [] (v_mk s5) _
  obtain ⟨rfl, rfl⟩ := v_so h
  exact v_ret (fun _ => rfl)
noncomputable def f_Wd_begin (s : vS) : Option (Unit × vS) := (v_let (v_w1 s 78 4 (-1)) (fun s1 => (v_let (v_w1 s1 78 5 (-1)) (fun s2 => (v_bi (f_Wd_word s2) (fun _ s3 => (some ((), s3))))))))
set_option maxRecDepth 20000 in
set_option maxHeartbeats 4000000 in
theorem t_Wd_begin {L : Nat} {xs : Nat → Int32} {D : Nat} {r : Unit} {s s' : vS} (h : f_Wd_begin s = some (r, s')) (hD : 2 ≤ D) : s_Ek (s_rows 3 L xs) D s_e116.1 0 (lv_args 0 [.ref 78]) [] (v_mk s) (v_Q none s') := by
  unfold f_Wd_begin at h
  show s_Ek (s_rows 3 L xs) D s_e116.1 0 [(0, .ref 78)] [] (v_mk s) _
  refine s_ek_bk 2 (P := 2) (ls' := [(0, .ref 78)]) (st' := [.int (-1), .ref 78]) (M' := v_mk s) rfl ?_
  obtain ⟨s1, es1, h⟩ := v_ld h
  refine v_pf (M' := v_mk s1) rfl (by rw [es1]; exact v_pi (rfl : v_kd 78 = 8) rfl ⟨rfl, rfl, by decide⟩ rfl) ?_
  refine s_ek_bk 2 (P := 7) (ls' := [(0, .ref 78)]) (st' := [.int (-1), .ref 78]) (M' := v_mk s1) rfl ?_
  obtain ⟨s2, es2, h⟩ := v_ld h
  refine v_pf (M' := v_mk s2) rfl (by rw [es2]; exact v_pi (rfl : v_kd 78 = 8) rfl ⟨rfl, rfl, by decide⟩ rfl) ?_
  refine s_ek_bk 1 (P := 11) (ls' := [(0, .ref 78)]) (st' := [.ref 78]) (M' := v_mk s2) rfl ?_
  obtain ⟨r3, s3, e3, h⟩ := v_bd h
  refine v_cV (ν := s_e118.1) (w := 944) (a := 78) (as' := []) (r := []) (o := none) (by omega) rfl rfl rfl (v_mk_kd (k := 8) (rfl : v_kd 78 = 8) (by decide)) rfl (t_Wd_word e3 (by omega)) ?_
  show s_Ek (s_rows 3 L xs) D s_e116.1 14 [(0, .ref 78)] [] (v_mk s3) _
  obtain ⟨rfl, rfl⟩ := v_so h
  exact v_ret (fun _ => rfl)
noncomputable def f_Wd_goOn (s : vS) : Option (Unit × vS) := (if 0 ≤ (s.1 78 5).toInt then (if 0 ≤ (s.1 78 5).toInt then (if 44 ≤ (s.1 78 5).toInt then (v_let (v_w1 s 78 4 ((s.1 78 4) + (1 : Int32))) (fun s4 => (v_let (v_w1 s4 78 5 ((s4.1 78 4) + (1 : Int32))) (fun s5 => (v_bi (f_Wd_word s5) (fun _ s6 => (some ((), s6)))))))) else (v_let (v_w1 s 78 5 ((s.1 78 5) + (1 : Int32))) (fun s7 => (v_bi (f_Wd_word s7) (fun _ s8 => (some ((), s8))))))) else (v_let (v_w1 s 78 4 0) (fun s9 => (v_let (v_w1 s9 78 5 1) (fun s10 => (v_bi (f_Wd_word s10) (fun _ s11 => (some ((), s11))))))))) else (if 44 ≤ (s.1 78 4).toInt then (if 0 ≤ (s.1 78 5).toInt then (if 44 ≤ (s.1 78 5).toInt then (v_let (v_w1 s 78 4 ((s.1 78 4) + (1 : Int32))) (fun s15 => (v_let (v_w1 s15 78 5 ((s15.1 78 4) + (1 : Int32))) (fun s16 => (v_bi (f_Wd_word s16) (fun _ s17 => (some ((), s17)))))))) else (v_let (v_w1 s 78 5 ((s.1 78 5) + (1 : Int32))) (fun s18 => (v_bi (f_Wd_word s18) (fun _ s19 => (some ((), s19))))))) else (v_let (v_w1 s 78 4 0) (fun s20 => (v_let (v_w1 s20 78 5 1) (fun s21 => (v_bi (f_Wd_word s21) (fun _ s22 => (some ((), s22))))))))) else (v_let (v_w1 s 78 4 ((s.1 78 4) + (1 : Int32))) (fun s23 => (v_bi (f_Wd_word s23) (fun _ s24 => (some ((), s24))))))))
set_option maxRecDepth 20000 in
set_option maxHeartbeats 4000000 in
theorem t_Wd_goOn {L : Nat} {xs : Nat → Int32} {D : Nat} {r : Unit} {s s' : vS} (h : f_Wd_goOn s = some (r, s')) (hD : 2 ≤ D) : s_Ek (s_rows 3 L xs) D s_e117.1 0 (lv_args 0 [.ref 78]) [] (v_mk s) (v_Q none s') := by
  unfold f_Wd_goOn at h
  show s_Ek (s_rows 3 L xs) D s_e117.1 0 [(0, .ref 78)] [] (v_mk s) _
  refine s_ek_bk 1 (P := 1) (ls' := [(0, .ref 78)]) (st' := [.ref 78]) (M' := v_mk s) rfl ?_
  refine v_gf rfl (v_gi (rfl : v_kd 78 = 8) rfl ⟨rfl, rfl, by decide⟩) ?_
  rcases v_if h with ⟨c1, h⟩ | ⟨c1, h⟩
  · refine v_i1t (T := 29) rfl rfl c1 ?_
    refine s_ek_bk 1 (P := 30) (ls' := [(0, .ref 78)]) (st' := [.ref 78]) (M' := v_mk s) rfl ?_
    refine v_gf rfl (v_gi (rfl : v_kd 78 = 8) rfl ⟨rfl, rfl, by decide⟩) ?_
    rcases v_if h with ⟨c2, h⟩ | ⟨c2, h⟩
    · refine v_i1t (T := 49) rfl rfl c2 ?_
      refine s_ek_bk 1 (P := 50) (ls' := [(0, .ref 78)]) (st' := [.ref 78]) (M' := v_mk s) rfl ?_
      refine v_gf rfl (v_gi (rfl : v_kd 78 = 8) rfl ⟨rfl, rfl, by decide⟩) ?_
      refine s_ek_bk 1 (P := 55) (ls' := [(0, .ref 78)]) (st' := [.int 44, .int (s.1 78 5)]) (M' := v_mk s) rfl ?_
      rcases v_if h with ⟨c3, h⟩ | ⟨c3, h⟩
      · refine v_i2t (T := 71) rfl rfl c3 ?_
        refine s_ek_bk 2 (P := 73) (ls' := [(0, .ref 78)]) (st' := [.ref 78, .ref 78]) (M' := v_mk s) rfl ?_
        refine v_gf rfl (v_gi (rfl : v_kd 78 = 8) rfl ⟨rfl, rfl, by decide⟩) ?_
        refine s_ek_bk 2 (P := 78) (ls' := [(0, .ref 78)]) (st' := [.int ((s.1 78 4) + (1 : Int32)), .ref 78]) (M' := v_mk s) rfl ?_
        obtain ⟨s4, es4, h⟩ := v_ld h
        refine v_pf (M' := v_mk s4) rfl (by rw [es4]; exact v_pi (rfl : v_kd 78 = 8) rfl ⟨rfl, rfl, by decide⟩ rfl) ?_
        refine s_ek_bk 2 (P := 83) (ls' := [(0, .ref 78)]) (st' := [.ref 78, .ref 78]) (M' := v_mk s4) rfl ?_
        refine v_gf rfl (v_gi (rfl : v_kd 78 = 8) rfl ⟨rfl, rfl, by decide⟩) ?_
        refine s_ek_bk 2 (P := 88) (ls' := [(0, .ref 78)]) (st' := [.int ((s4.1 78 4) + (1 : Int32)), .ref 78]) (M' := v_mk s4) rfl ?_
        obtain ⟨s5, es5, h⟩ := v_ld h
        refine v_pf (M' := v_mk s5) rfl (by rw [es5]; exact v_pi (rfl : v_kd 78 = 8) rfl ⟨rfl, rfl, by decide⟩ rfl) ?_
        refine s_ek_bk 1 (P := 92) (ls' := [(0, .ref 78)]) (st' := [.ref 78]) (M' := v_mk s5) rfl ?_
        obtain ⟨r6, s6, e6, h⟩ := v_bd h
        refine v_cV (ν := s_e118.1) (w := 944) (a := 78) (as' := []) (r := []) (o := none) (by omega) rfl rfl rfl (v_mk_kd (k := 8) (rfl : v_kd 78 = 8) (by decide)) rfl (t_Wd_word e6 (by omega)) ?_
        show s_Ek (s_rows 3 L xs) D s_e117.1 95 [(0, .ref 78)] [] (v_mk s6) _
        obtain ⟨rfl, rfl⟩ := v_so h
        exact v_ret (fun _ => rfl)
      · refine v_i2f (T := 71) rfl rfl c3 ?_
        refine s_ek_bk 2 (P := 60) (ls' := [(0, .ref 78)]) (st' := [.ref 78, .ref 78]) (M' := v_mk s) rfl ?_
        refine v_gf rfl (v_gi (rfl : v_kd 78 = 8) rfl ⟨rfl, rfl, by decide⟩) ?_
        refine s_ek_bk 2 (P := 65) (ls' := [(0, .ref 78)]) (st' := [.int ((s.1 78 5) + (1 : Int32)), .ref 78]) (M' := v_mk s) rfl ?_
        obtain ⟨s7, es7, h⟩ := v_ld h
        refine v_pf (M' := v_mk s7) rfl (by rw [es7]; exact v_pi (rfl : v_kd 78 = 8) rfl ⟨rfl, rfl, by decide⟩ rfl) ?_
        refine s_ek_bk 2 (P := 92) (ls' := [(0, .ref 78)]) (st' := [.ref 78]) (M' := v_mk s7) rfl ?_
        obtain ⟨r8, s8, e8, h⟩ := v_bd h
        refine v_cV (ν := s_e118.1) (w := 944) (a := 78) (as' := []) (r := []) (o := none) (by omega) rfl rfl rfl (v_mk_kd (k := 8) (rfl : v_kd 78 = 8) (by decide)) rfl (t_Wd_word e8 (by omega)) ?_
        show s_Ek (s_rows 3 L xs) D s_e117.1 95 [(0, .ref 78)] [] (v_mk s8) _
        obtain ⟨rfl, rfl⟩ := v_so h
        exact v_ret (fun _ => rfl)
    · refine v_i1f (T := 49) rfl rfl c2 ?_
      refine s_ek_bk 2 (P := 38) (ls' := [(0, .ref 78)]) (st' := [.int 0, .ref 78]) (M' := v_mk s) rfl ?_
      obtain ⟨s9, es9, h⟩ := v_ld h
      refine v_pf (M' := v_mk s9) rfl (by rw [es9]; exact v_pi (rfl : v_kd 78 = 8) rfl ⟨rfl, rfl, by decide⟩ rfl) ?_
      refine s_ek_bk 2 (P := 43) (ls' := [(0, .ref 78)]) (st' := [.int 1, .ref 78]) (M' := v_mk s9) rfl ?_
      obtain ⟨s10, es10, h⟩ := v_ld h
      refine v_pf (M' := v_mk s10) rfl (by rw [es10]; exact v_pi (rfl : v_kd 78 = 8) rfl ⟨rfl, rfl, by decide⟩ rfl) ?_
      refine s_ek_bk 2 (P := 92) (ls' := [(0, .ref 78)]) (st' := [.ref 78]) (M' := v_mk s10) rfl ?_
      obtain ⟨r11, s11, e11, h⟩ := v_bd h
      refine v_cV (ν := s_e118.1) (w := 944) (a := 78) (as' := []) (r := []) (o := none) (by omega) rfl rfl rfl (v_mk_kd (k := 8) (rfl : v_kd 78 = 8) (by decide)) rfl (t_Wd_word e11 (by omega)) ?_
      show s_Ek (s_rows 3 L xs) D s_e117.1 95 [(0, .ref 78)] [] (v_mk s11) _
      obtain ⟨rfl, rfl⟩ := v_so h
      exact v_ret (fun _ => rfl)
  · refine v_i1f (T := 29) rfl rfl c1 ?_
    refine s_ek_bk 1 (P := 8) (ls' := [(0, .ref 78)]) (st' := [.ref 78]) (M' := v_mk s) rfl ?_
    refine v_gf rfl (v_gi (rfl : v_kd 78 = 8) rfl ⟨rfl, rfl, by decide⟩) ?_
    refine s_ek_bk 1 (P := 13) (ls' := [(0, .ref 78)]) (st' := [.int 44, .int (s.1 78 4)]) (M' := v_mk s) rfl ?_
    rcases v_if h with ⟨c12, h⟩ | ⟨c12, h⟩
    · refine v_i2t (T := 29) rfl rfl c12 ?_
      refine s_ek_bk 1 (P := 30) (ls' := [(0, .ref 78)]) (st' := [.ref 78]) (M' := v_mk s) rfl ?_
      refine v_gf rfl (v_gi (rfl : v_kd 78 = 8) rfl ⟨rfl, rfl, by decide⟩) ?_
      rcases v_if h with ⟨c13, h⟩ | ⟨c13, h⟩
      · refine v_i1t (T := 49) rfl rfl c13 ?_
        refine s_ek_bk 1 (P := 50) (ls' := [(0, .ref 78)]) (st' := [.ref 78]) (M' := v_mk s) rfl ?_
        refine v_gf rfl (v_gi (rfl : v_kd 78 = 8) rfl ⟨rfl, rfl, by decide⟩) ?_
        refine s_ek_bk 1 (P := 55) (ls' := [(0, .ref 78)]) (st' := [.int 44, .int (s.1 78 5)]) (M' := v_mk s) rfl ?_
        rcases v_if h with ⟨c14, h⟩ | ⟨c14, h⟩
        · refine v_i2t (T := 71) rfl rfl c14 ?_
          refine s_ek_bk 2 (P := 73) (ls' := [(0, .ref 78)]) (st' := [.ref 78, .ref 78]) (M' := v_mk s) rfl ?_
          refine v_gf rfl (v_gi (rfl : v_kd 78 = 8) rfl ⟨rfl, rfl, by decide⟩) ?_
          refine s_ek_bk 2 (P := 78) (ls' := [(0, .ref 78)]) (st' := [.int ((s.1 78 4) + (1 : Int32)), .ref 78]) (M' := v_mk s) rfl ?_
          obtain ⟨s15, es15, h⟩ := v_ld h
          refine v_pf (M' := v_mk s15) rfl (by rw [es15]; exact v_pi (rfl : v_kd 78 = 8) rfl ⟨rfl, rfl, by decide⟩ rfl) ?_
          refine s_ek_bk 2 (P := 83) (ls' := [(0, .ref 78)]) (st' := [.ref 78, .ref 78]) (M' := v_mk s15) rfl ?_
          refine v_gf rfl (v_gi (rfl : v_kd 78 = 8) rfl ⟨rfl, rfl, by decide⟩) ?_
          refine s_ek_bk 2 (P := 88) (ls' := [(0, .ref 78)]) (st' := [.int ((s15.1 78 4) + (1 : Int32)), .ref 78]) (M' := v_mk s15) rfl ?_
          obtain ⟨s16, es16, h⟩ := v_ld h
          refine v_pf (M' := v_mk s16) rfl (by rw [es16]; exact v_pi (rfl : v_kd 78 = 8) rfl ⟨rfl, rfl, by decide⟩ rfl) ?_
          refine s_ek_bk 1 (P := 92) (ls' := [(0, .ref 78)]) (st' := [.ref 78]) (M' := v_mk s16) rfl ?_
          obtain ⟨r17, s17, e17, h⟩ := v_bd h
          refine v_cV (ν := s_e118.1) (w := 944) (a := 78) (as' := []) (r := []) (o := none) (by omega) rfl rfl rfl (v_mk_kd (k := 8) (rfl : v_kd 78 = 8) (by decide)) rfl (t_Wd_word e17 (by omega)) ?_
          show s_Ek (s_rows 3 L xs) D s_e117.1 95 [(0, .ref 78)] [] (v_mk s17) _
          obtain ⟨rfl, rfl⟩ := v_so h
          exact v_ret (fun _ => rfl)
        · refine v_i2f (T := 71) rfl rfl c14 ?_
          refine s_ek_bk 2 (P := 60) (ls' := [(0, .ref 78)]) (st' := [.ref 78, .ref 78]) (M' := v_mk s) rfl ?_
          refine v_gf rfl (v_gi (rfl : v_kd 78 = 8) rfl ⟨rfl, rfl, by decide⟩) ?_
          refine s_ek_bk 2 (P := 65) (ls' := [(0, .ref 78)]) (st' := [.int ((s.1 78 5) + (1 : Int32)), .ref 78]) (M' := v_mk s) rfl ?_
          obtain ⟨s18, es18, h⟩ := v_ld h
          refine v_pf (M' := v_mk s18) rfl (by rw [es18]; exact v_pi (rfl : v_kd 78 = 8) rfl ⟨rfl, rfl, by decide⟩ rfl) ?_
          refine s_ek_bk 2 (P := 92) (ls' := [(0, .ref 78)]) (st' := [.ref 78]) (M' := v_mk s18) rfl ?_
          obtain ⟨r19, s19, e19, h⟩ := v_bd h
          refine v_cV (ν := s_e118.1) (w := 944) (a := 78) (as' := []) (r := []) (o := none) (by omega) rfl rfl rfl (v_mk_kd (k := 8) (rfl : v_kd 78 = 8) (by decide)) rfl (t_Wd_word e19 (by omega)) ?_
          show s_Ek (s_rows 3 L xs) D s_e117.1 95 [(0, .ref 78)] [] (v_mk s19) _
          obtain ⟨rfl, rfl⟩ := v_so h
          exact v_ret (fun _ => rfl)
      · refine v_i1f (T := 49) rfl rfl c13 ?_
        refine s_ek_bk 2 (P := 38) (ls' := [(0, .ref 78)]) (st' := [.int 0, .ref 78]) (M' := v_mk s) rfl ?_
        obtain ⟨s20, es20, h⟩ := v_ld h
        refine v_pf (M' := v_mk s20) rfl (by rw [es20]; exact v_pi (rfl : v_kd 78 = 8) rfl ⟨rfl, rfl, by decide⟩ rfl) ?_
        refine s_ek_bk 2 (P := 43) (ls' := [(0, .ref 78)]) (st' := [.int 1, .ref 78]) (M' := v_mk s20) rfl ?_
        obtain ⟨s21, es21, h⟩ := v_ld h
        refine v_pf (M' := v_mk s21) rfl (by rw [es21]; exact v_pi (rfl : v_kd 78 = 8) rfl ⟨rfl, rfl, by decide⟩ rfl) ?_
        refine s_ek_bk 2 (P := 92) (ls' := [(0, .ref 78)]) (st' := [.ref 78]) (M' := v_mk s21) rfl ?_
        obtain ⟨r22, s22, e22, h⟩ := v_bd h
        refine v_cV (ν := s_e118.1) (w := 944) (a := 78) (as' := []) (r := []) (o := none) (by omega) rfl rfl rfl (v_mk_kd (k := 8) (rfl : v_kd 78 = 8) (by decide)) rfl (t_Wd_word e22 (by omega)) ?_
        show s_Ek (s_rows 3 L xs) D s_e117.1 95 [(0, .ref 78)] [] (v_mk s22) _
        obtain ⟨rfl, rfl⟩ := v_so h
        exact v_ret (fun _ => rfl)
    · refine v_i2f (T := 29) rfl rfl c12 ?_
      refine s_ek_bk 2 (P := 18) (ls' := [(0, .ref 78)]) (st' := [.ref 78, .ref 78]) (M' := v_mk s) rfl ?_
      refine v_gf rfl (v_gi (rfl : v_kd 78 = 8) rfl ⟨rfl, rfl, by decide⟩) ?_
      refine s_ek_bk 2 (P := 23) (ls' := [(0, .ref 78)]) (st' := [.int ((s.1 78 4) + (1 : Int32)), .ref 78]) (M' := v_mk s) rfl ?_
      obtain ⟨s23, es23, h⟩ := v_ld h
      refine v_pf (M' := v_mk s23) rfl (by rw [es23]; exact v_pi (rfl : v_kd 78 = 8) rfl ⟨rfl, rfl, by decide⟩ rfl) ?_
      refine s_ek_bk 2 (P := 92) (ls' := [(0, .ref 78)]) (st' := [.ref 78]) (M' := v_mk s23) rfl ?_
      obtain ⟨r24, s24, e24, h⟩ := v_bd h
      refine v_cV (ν := s_e118.1) (w := 944) (a := 78) (as' := []) (r := []) (o := none) (by omega) rfl rfl rfl (v_mk_kd (k := 8) (rfl : v_kd 78 = 8) (by decide)) rfl (t_Wd_word e24 (by omega)) ?_
      show s_Ek (s_rows 3 L xs) D s_e117.1 95 [(0, .ref 78)] [] (v_mk s24) _
      obtain ⟨rfl, rfl⟩ := v_so h
      exact v_ret (fun _ => rfl)
noncomputable def f_Wd_number (s : vS) : Option (Int32 × vS) := (some (((((100 : Int32) * ((s.1 78 4) + (1 : Int32))) + (s.1 78 5)) + (1 : Int32)), s))
set_option maxRecDepth 20000 in
set_option maxHeartbeats 4000000 in
theorem t_Wd_number {L : Nat} {xs : Nat → Int32} {D : Nat} {r : Int32} {s s' : vS} (h : f_Wd_number s = some (r, s')) (hD : 0 ≤ D) : s_Ek (s_rows 3 L xs) D s_e119.1 0 (lv_args 0 [.ref 78]) [] (v_mk s) (v_Q (some (.int r)) s') := by
  unfold f_Wd_number at h
  show s_Ek (s_rows 3 L xs) D s_e119.1 0 [(0, .ref 78)] [] (v_mk s) _
  refine s_ek_bk 2 (P := 3) (ls' := [(0, .ref 78)]) (st' := [.ref 78, .int 100]) (M' := v_mk s) rfl ?_
  refine v_gf rfl (v_gi (rfl : v_kd 78 = 8) rfl ⟨rfl, rfl, by decide⟩) ?_
  refine s_ek_bk 4 (P := 10) (ls' := [(0, .ref 78)]) (st' := [.ref 78, .int ((100 : Int32) * ((s.1 78 4) + (1 : Int32)))]) (M' := v_mk s) rfl ?_
  refine v_gf rfl (v_gi (rfl : v_kd 78 = 8) rfl ⟨rfl, rfl, by decide⟩) ?_
  refine s_ek_bk 3 (P := 16) (ls' := [(0, .ref 78)]) (st' := [.int ((((100 : Int32) * ((s.1 78 4) + (1 : Int32))) + (s.1 78 5)) + (1 : Int32))]) (M' := v_mk s) rfl ?_
  obtain ⟨rfl, rfl⟩ := v_so h
  exact v_ret (fun _ => rfl)
noncomputable def f_Wd_wouldHold (b : Int32) (c : Option Nat) (d : Int32) (s : vS) : Option (Int32 × vS) := (v_bi (f_Cs_has 83 b s) (fun r1 s1 => (if r1.toInt = 0 then (some (0, s1)) else (v_on c (some (1, s1)) (fun b3 => if v_kd b3 = 4 then (v_bi (f_Lw_goesAhead 79 b3 d s1) (fun r6 s6 => (if r6.toInt = 0 then (some (0, s6)) else (some (1, s6))))) else none)))))
set_option maxRecDepth 20000 in
set_option maxHeartbeats 4000000 in
theorem t_Wd_wouldHold {L : Nat} {xs : Nat → Int32} {b : Int32} {c : Option Nat} {d : Int32} {D : Nat} {r : Int32} {s s' : vS} (h : f_Wd_wouldHold b c d s = some (r, s')) (hD : 3 ≤ D) : s_Ek (s_rows 3 L xs) D s_e122.1 0 (lv_args 0 [.ref 78, .int b, v_nu c, .int d]) [] (v_mk s) (v_Q (some (.int r)) s') := by
  unfold f_Wd_wouldHold at h
  have hls : lv_args 0 [.ref 78, .int b, v_nu c, .int d] = [(0, .ref 78), (1, .int b), (2, v_nu c), (3, .int d)] := by cases c <;> rfl
  rw [hls]
  show s_Ek (s_rows 3 L xs) D s_e122.1 0 [(0, .ref 78), (1, .int b), (2, v_nu c), (3, .int d)] [] (v_mk s) _
  refine s_ek_bk 1 (P := 1) (ls' := [(0, .ref 78), (1, .int b), (2, v_nu c), (3, .int d)]) (st' := [.ref 78]) (M' := v_mk s) rfl ?_
  refine v_gf rfl (v_gr (rfl : v_kd 78 = 8) (rfl : v_sl 78 0 = .ref 79) ⟨rfl, rfl, by decide⟩) ?_
  refine v_gf rfl (v_gr (rfl : v_kd 79 = 4) (rfl : v_sl 79 5 = .ref 83) ⟨rfl, rfl, by decide⟩) ?_
  refine s_ek_bk 1 (P := 8) (ls' := [(0, .ref 78), (1, .int b), (2, v_nu c), (3, .int d)]) (st' := [.int b, .ref 83]) (M' := v_mk s) rfl ?_
  obtain ⟨r1, s1, e1, h⟩ := v_bd h
  refine v_cV (ν := s_e8.1) (w := 65) (a := 83) (as' := [.int b]) (r := []) (o := some (.int r1)) (by omega) rfl rfl rfl (v_mk_kd (k := 0) (rfl : v_kd 83 = 0) (by decide)) rfl (t_Cs_has (rfl : v_kd 83 = 0) e1 (by omega)) ?_
  show s_Ek (s_rows 3 L xs) D s_e122.1 11 [(0, .ref 78), (1, .int b), (2, v_nu c), (3, .int d)] [.int r1] (v_mk s1) _
  rcases v_if h with ⟨c2, h⟩ | ⟨c2, h⟩
  · refine v_i1t (T := 34) rfl rfl c2 ?_
    refine s_ek_bk 1 (P := 35) (ls' := [(0, .ref 78), (1, .int b), (2, v_nu c), (3, .int d)]) (st' := [.int 0]) (M' := v_mk s1) rfl ?_
    obtain ⟨rfl, rfl⟩ := v_so h
    exact v_ret (fun _ => rfl)
  · refine v_i1f (T := 34) rfl rfl c2 ?_
    rcases v_od h with ⟨rfl, hz5⟩ | ⟨b3, rfl, hz5⟩
    · have h := hz5
      show s_Ek (s_rows 3 L xs) D s_e122.1 14 [(0, .ref 78), (1, .int b), (2, .null), (3, .int d)] [] (v_mk s1) _
      refine s_ek_bk 4 (P := 35) (ls' := [(0, .ref 78), (1, .int b), (2, .null), (3, .int d)]) (st' := [.int 1]) (M' := v_mk s1) rfl ?_
      obtain ⟨rfl, rfl⟩ := v_so h
      exact v_ret (fun _ => rfl)
    · have h := hz5
      obtain ⟨c4, h⟩ := v_ck h
      show s_Ek (s_rows 3 L xs) D s_e122.1 14 [(0, .ref 78), (1, .int b), (2, .ref b3), (3, .int d)] [] (v_mk s1) _
      refine s_ek_bk 3 (P := 19) (ls' := [(0, .ref 78), (1, .int b), (2, .ref b3), (3, .int d)]) (st' := [.ref 78]) (M' := v_mk s1) rfl ?_
      refine v_gf rfl (v_gr (rfl : v_kd 78 = 8) (rfl : v_sl 78 0 = .ref 79) ⟨rfl, rfl, by decide⟩) ?_
      refine s_ek_bk 2 (P := 24) (ls' := [(0, .ref 78), (1, .int b), (2, .ref b3), (3, .int d)]) (st' := [.int d, .ref b3, .ref 79]) (M' := v_mk s1) rfl ?_
      obtain ⟨r6, s6, e6, h⟩ := v_bd h
      refine v_cV (ν := s_e62.1) (w := 498) (a := 79) (as' := [.ref b3, .int d]) (r := []) (o := some (.int r6)) (by omega) rfl rfl rfl (v_mk_kd (k := 4) (rfl : v_kd 79 = 4) (by decide)) rfl (t_Lw_goesAhead (rfl : v_kd 79 = 4) c4 e6 (by omega)) ?_
      show s_Ek (s_rows 3 L xs) D s_e122.1 27 [(0, .ref 78), (1, .int b), (2, .ref b3), (3, .int d)] [.int r6] (v_mk s6) _
      rcases v_if h with ⟨c7, h⟩ | ⟨c7, h⟩
      · refine v_i1t (T := 34) rfl rfl c7 ?_
        refine s_ek_bk 1 (P := 35) (ls' := [(0, .ref 78), (1, .int b), (2, .ref b3), (3, .int d)]) (st' := [.int 0]) (M' := v_mk s6) rfl ?_
        obtain ⟨rfl, rfl⟩ := v_so h
        exact v_ret (fun _ => rfl)
      · refine v_i1f (T := 34) rfl rfl c7 ?_
        refine s_ek_bk 2 (P := 35) (ls' := [(0, .ref 78), (1, .int b), (2, .ref b3), (3, .int d)]) (st' := [.int 1]) (M' := v_mk s6) rfl ?_
        obtain ⟨rfl, rfl⟩ := v_so h
        exact v_ret (fun _ => rfl)
noncomputable def f_Wd_fits_L2b (p1 : Nat) (k89 : vS → Option (Int32 × vS)) (again : Int32 → vS → Option (Int32 × vS)) (v3 : Int32) (s : vS) : Option (Int32 × vS) := (v_bi (f_Sh_twos p1 s) (fun r101 s101 => (if r101.toInt ≤ v3.toInt then (k89 s101) else (if 31 ≤ v3.toInt then (k89 s101) else (if v_in v3 31 then (if 0 ≤ (s101.1 86 (Int32.toNatClampNeg v3)).toInt then (if v_in v3 31 then (v_bi (f_Ct_at (s101.1 86 (Int32.toNatClampNeg v3)) s101) (fun r107 s107 => if v_kd r107 = 4 then (v_bi (f_Sh_placeOfTwo p1 v3 s107) (fun r109 s109 => (v_bi (f_Wd_wouldHold r109 (some r107) (s109.1 8 2) s109) (fun r110 s110 => (if r110.toInt = 0 then (v_bi (f_Sh_verdictOfTwo p1 v3 s110) (fun r112 s112 => (v_bi (f_Ct_verdictOf (some r107) s112) (fun r113 s113 => (if r112.toInt = r113.toInt then (again (v3 + 1) s113) else (some (0, s113))))))) else (v_bi (f_Sh_verdictOfTwo p1 v3 s110) (fun r115 s115 => (v_bi (f_Ct_verdictOf (some 79) s115) (fun r116 s116 => (if r115.toInt = r116.toInt then (again (v3 + 1) s116) else (some (0, s116)))))))))))) else none)) else none) else (v_bi (f_Sh_placeOfTwo p1 v3 s101) (fun r118 s118 => (v_bi (f_Wd_wouldHold r118 none (s118.1 8 2) s118) (fun r119 s119 => (if r119.toInt = 0 then (v_bi (f_Sh_verdictOfTwo p1 v3 s119) (fun r121 s121 => (v_bi (f_Ct_verdictOf none s121) (fun r122 s122 => (if r121.toInt = r122.toInt then (again (v3 + 1) s122) else (some (0, s122))))))) else (v_bi (f_Sh_verdictOfTwo p1 v3 s119) (fun r124 s124 => (v_bi (f_Ct_verdictOf (some 79) s124) (fun r125 s125 => (if r124.toInt = r125.toInt then (again (v3 + 1) s125) else (some (0, s125))))))))))))) else none)))))
noncomputable def f_Wd_fits_L2 (p1 : Nat) (k89 : vS → Option (Int32 × vS)) (n : Nat) : Int32 → vS → Option (Int32 × vS) := Nat.rec (motive := fun _ => Int32 → vS → Option (Int32 × vS)) (fun _ _ => none) (fun _ again => f_Wd_fits_L2b p1 k89 again) n
noncomputable def f_Wd_fits (b : Nat) (s : vS) : Option (Int32 × vS) := (f_Wd_fits_L2 b (fun s1 => (some (1, s1))) 4096 0 s)
set_option maxRecDepth 20000 in
set_option maxHeartbeats 4000000 in
theorem t_Wd_fits_L2 {L : Nat} {xs : Nat → Int32} {p1 : Nat} (hp1 : v_kd p1 = 6) {k89 : vS → Option (Int32 × vS)} {D : Nat} (hD : 4 ≤ D) {r : Int32} {s' : vS} (hk89 : ∀ (s : vS), k89 s = some (r, s') → s_Ek (s_rows 3 L xs) D s_e121.1 89 [] [] (v_mk s) (v_Q (some (.int r)) s')) : ∀ (n : Nat) (v3 : Int32) (s : vS), f_Wd_fits_L2 p1 k89 n v3 s = some (r, s') → s_Ek (s_rows 3 L xs) D s_e121.1 2 [(0, .ref 78), (1, .ref p1), (2, .ref 8), (3, .int v3)] [] (v_mk s) (v_Q (some (.int r)) s') := by
  intro n
  induction n with
  | zero => intro v3 s h; exact nomatch (show (none : Option (Int32 × vS)) = some (r, s') from h)
  | succ n ih =>
    intro v3 s h
    replace h : f_Wd_fits_L2b p1 k89 (f_Wd_fits_L2 p1 k89 n) v3 s = some (r, s') := h
    unfold f_Wd_fits_L2b at h
    refine s_ek_bk 2 (P := 4) (ls' := [(0, .ref 78), (1, .ref p1), (2, .ref 8), (3, .int v3)]) (st' := [.ref p1, .int v3]) (M' := v_mk s) rfl ?_
    obtain ⟨r101, s101, e101, h⟩ := v_bd h
    refine v_cV (ν := s_e94.1) (w := 752) (a := p1) (as' := []) (r := [.int v3]) (o := some (.int r101)) (by omega) rfl rfl rfl (v_mk_kd (k := 6) hp1 (by decide)) rfl (t_Sh_twos hp1 e101 (by omega)) ?_
    show s_Ek (s_rows 3 L xs) D s_e121.1 7 [(0, .ref 78), (1, .ref p1), (2, .ref 8), (3, .int v3)] [.int r101, .int v3] (v_mk s101) _
    rcases v_if h with ⟨c102, h⟩ | ⟨c102, h⟩
    · refine v_i2t (T := 89) rfl rfl c102 ?_
      refine v_ls (ls' := []) trivial (show ([] : List Nat).Nodup from by decide) ?_
      exact hk89 _ h
    · refine v_i2f (T := 89) rfl rfl c102 ?_
      refine s_ek_bk 2 (P := 12) (ls' := [(0, .ref 78), (1, .ref p1), (2, .ref 8), (3, .int v3)]) (st' := [.ref 78, .int v3]) (M' := v_mk s101) rfl ?_
      refine v_gf rfl (v_gr (rfl : v_kd 78 = 8) (rfl : v_sl 78 3 = .ref 86) ⟨rfl, rfl, by decide⟩) ?_
      refine v_alen (x := 31) rfl (by rw [v_len (rfl : v_kd 86 = 13) (by decide), (rfl : v_ln 86 = 31)]; rfl) ?_
      rcases v_if h with ⟨c103, h⟩ | ⟨c103, h⟩
      · refine v_i2t (T := 89) rfl rfl c103 ?_
        refine v_ls (ls' := []) trivial (show ([] : List Nat).Nodup from by decide) ?_
        exact hk89 _ h
      · refine v_i2f (T := 89) rfl rfl c103 ?_
        refine s_ek_bk 1 (P := 20) (ls' := [(0, .ref 78), (1, .ref p1), (2, .ref 8), (3, .int v3)]) (st' := [.ref 78]) (M' := v_mk s101) rfl ?_
        refine v_gf rfl (v_gr (rfl : v_kd 78 = 8) (rfl : v_sl 78 3 = .ref 86) ⟨rfl, rfl, by decide⟩) ?_
        refine s_ek_bk 1 (P := 24) (ls' := [(0, .ref 78), (1, .ref p1), (2, .ref 8), (3, .int v3)]) (st' := [.int v3, .ref 86]) (M' := v_mk s101) rfl ?_
        obtain ⟨c104, h⟩ := v_ck h
        refine v_ia (i := v3) rfl (v_ai (rfl : v_kd 86 = 13) rfl (by decide) v_all13 (v_cn (rfl : v_ln 86 = 31) c104)) ?_
        rcases v_if h with ⟨c105, h⟩ | ⟨c105, h⟩
        · refine v_i1t (T := 32) rfl rfl c105 ?_
          refine s_ek_bk 2 (P := 34) (ls' := [(0, .ref 78), (1, .ref p1), (2, .ref 8), (3, .int v3)]) (st' := [.ref 78, .ref 8]) (M' := v_mk s101) rfl ?_
          refine v_gf rfl (v_gr (rfl : v_kd 78 = 8) (rfl : v_sl 78 3 = .ref 86) ⟨rfl, rfl, by decide⟩) ?_
          refine s_ek_bk 1 (P := 38) (ls' := [(0, .ref 78), (1, .ref p1), (2, .ref 8), (3, .int v3)]) (st' := [.int v3, .ref 86, .ref 8]) (M' := v_mk s101) rfl ?_
          obtain ⟨c106, h⟩ := v_ck h
          refine v_ia (i := v3) rfl (v_ai (rfl : v_kd 86 = 13) rfl (by decide) v_all13 (v_cn (rfl : v_ln 86 = 31) c106)) ?_
          obtain ⟨r107, s107, e107, h⟩ := v_bd h
          refine v_cV (ν := s_e41.1) (w := 329) (a := 8) (as' := [.int (s101.1 86 (Int32.toNatClampNeg v3))]) (r := []) (o := some (.ref r107)) (by omega) rfl rfl rfl (v_mk_kd (k := 3) (rfl : v_kd 8 = 3) (by decide)) rfl (t_Ct_at e107 (by omega)) ?_
          obtain ⟨c108, h⟩ := v_ck h
          show s_Ek (s_rows 3 L xs) D s_e121.1 42 [(0, .ref 78), (1, .ref p1), (2, .ref 8), (3, .int v3)] [.ref r107] (v_mk s107) _
          refine s_ek_bk 4 (P := 47) (ls' := [(4, .ref r107), (0, .ref 78), (1, .ref p1), (2, .ref 8), (3, .int v3)]) (st' := [.int v3, .ref p1, .ref 78]) (M' := v_mk s107) rfl ?_
          obtain ⟨r109, s109, e109, h⟩ := v_bd h
          refine v_cV (ν := s_e97.1) (w := 777) (a := p1) (as' := [.int v3]) (r := [.ref 78]) (o := some (.int r109)) (by omega) rfl rfl rfl (v_mk_kd (k := 6) hp1 (by decide)) rfl (t_Sh_placeOfTwo hp1 e109 (by omega)) ?_
          show s_Ek (s_rows 3 L xs) D s_e121.1 50 [(4, .ref r107), (0, .ref 78), (1, .ref p1), (2, .ref 8), (3, .int v3)] [.int r109, .ref 78] (v_mk s109) _
          refine s_ek_bk 2 (P := 53) (ls' := [(4, .ref r107), (0, .ref 78), (1, .ref p1), (2, .ref 8), (3, .int v3)]) (st' := [.ref 8, .ref r107, .int r109, .ref 78]) (M' := v_mk s109) rfl ?_
          refine v_gf rfl (v_gi (rfl : v_kd 8 = 3) rfl ⟨rfl, rfl, by decide⟩) ?_
          obtain ⟨r110, s110, e110, h⟩ := v_bd h
          refine v_cV (ν := s_e122.1) (w := 979) (a := 78) (as' := [.int r109, .ref r107, .int (s109.1 8 2)]) (r := []) (o := some (.int r110)) (by omega) rfl rfl rfl (v_mk_kd (k := 8) (rfl : v_kd 78 = 8) (by decide)) rfl (t_Wd_wouldHold e110 (by omega)) ?_
          show s_Ek (s_rows 3 L xs) D s_e121.1 59 [(4, .ref r107), (0, .ref 78), (1, .ref p1), (2, .ref 8), (3, .int v3)] [.int r110] (v_mk s110) _
          rcases v_if h with ⟨c111, h⟩ | ⟨c111, h⟩
          · refine v_i1t (T := 68) rfl rfl c111 ?_
            refine s_ek_bk 2 (P := 70) (ls' := [(4, .ref r107), (0, .ref 78), (1, .ref p1), (2, .ref 8), (3, .int v3)]) (st' := [.int v3, .ref p1]) (M' := v_mk s110) rfl ?_
            obtain ⟨r112, s112, e112, h⟩ := v_bd h
            refine v_cV (ν := s_e98.1) (w := 785) (a := p1) (as' := [.int v3]) (r := []) (o := some (.int r112)) (by omega) rfl rfl rfl (v_mk_kd (k := 6) hp1 (by decide)) rfl (t_Sh_verdictOfTwo hp1 e112 (by omega)) ?_
            show s_Ek (s_rows 3 L xs) D s_e121.1 73 [(4, .ref r107), (0, .ref 78), (1, .ref p1), (2, .ref 8), (3, .int v3)] [.int r112] (v_mk s112) _
            refine s_ek_bk 1 (P := 75) (ls' := [(4, .ref r107), (0, .ref 78), (1, .ref p1), (2, .ref 8), (3, .int v3)]) (st' := [.ref r107, .int r112]) (M' := v_mk s112) rfl ?_
            obtain ⟨r113, s113, e113, h⟩ := v_bd h
            refine v_cS (ν := s_e54.1) (w := 433) (as := [.ref r107]) (r := [.int r112]) (o := some (.int r113)) (by omega) rfl rfl rfl rfl (t_Ct_verdictOf e113 (by omega)) ?_
            show s_Ek (s_rows 3 L xs) D s_e121.1 78 [(4, .ref r107), (0, .ref 78), (1, .ref p1), (2, .ref 8), (3, .int v3)] [.int r113, .int r112] (v_mk s113) _
            rcases v_if h with ⟨c114, h⟩ | ⟨c114, h⟩
            · refine v_i2t (T := 83) rfl rfl c114 ?_
              refine s_ek_bk 2 (P := 2) (ls' := [(3, .int (v3 + 1)), (4, .ref r107), (0, .ref 78), (1, .ref p1), (2, .ref 8)]) (st' := []) (M' := v_mk s113) rfl ?_
              refine v_ls (ls' := [(0, .ref 78), (1, .ref p1), (2, .ref 8), (3, .int (v3 + 1))]) ⟨rfl, rfl, rfl, rfl, trivial⟩ (show ([0, 1, 2, 3] : List Nat).Nodup from by decide) ?_
              exact ih _ _ h
            · refine v_i2f (T := 83) rfl rfl c114 ?_
              refine s_ek_bk 1 (P := 82) (ls' := [(4, .ref r107), (0, .ref 78), (1, .ref p1), (2, .ref 8), (3, .int v3)]) (st' := [.int 0]) (M' := v_mk s113) rfl ?_
              obtain ⟨rfl, rfl⟩ := v_so h
              exact v_ret (fun _ => rfl)
          · refine v_i1f (T := 68) rfl rfl c111 ?_
            refine s_ek_bk 1 (P := 63) (ls' := [(4, .ref r107), (0, .ref 78), (1, .ref p1), (2, .ref 8), (3, .int v3)]) (st' := [.ref 78]) (M' := v_mk s110) rfl ?_
            refine v_gf rfl (v_gr (rfl : v_kd 78 = 8) (rfl : v_sl 78 0 = .ref 79) ⟨rfl, rfl, by decide⟩) ?_
            refine s_ek_bk 3 (P := 70) (ls' := [(4, .ref 79), (0, .ref 78), (1, .ref p1), (2, .ref 8), (3, .int v3)]) (st' := [.int v3, .ref p1]) (M' := v_mk s110) rfl ?_
            obtain ⟨r115, s115, e115, h⟩ := v_bd h
            refine v_cV (ν := s_e98.1) (w := 785) (a := p1) (as' := [.int v3]) (r := []) (o := some (.int r115)) (by omega) rfl rfl rfl (v_mk_kd (k := 6) hp1 (by decide)) rfl (t_Sh_verdictOfTwo hp1 e115 (by omega)) ?_
            show s_Ek (s_rows 3 L xs) D s_e121.1 73 [(4, .ref 79), (0, .ref 78), (1, .ref p1), (2, .ref 8), (3, .int v3)] [.int r115] (v_mk s115) _
            refine s_ek_bk 1 (P := 75) (ls' := [(4, .ref 79), (0, .ref 78), (1, .ref p1), (2, .ref 8), (3, .int v3)]) (st' := [.ref 79, .int r115]) (M' := v_mk s115) rfl ?_
            obtain ⟨r116, s116, e116, h⟩ := v_bd h
            refine v_cS (ν := s_e54.1) (w := 433) (as := [.ref 79]) (r := [.int r115]) (o := some (.int r116)) (by omega) rfl rfl rfl rfl (t_Ct_verdictOf e116 (by omega)) ?_
            show s_Ek (s_rows 3 L xs) D s_e121.1 78 [(4, .ref 79), (0, .ref 78), (1, .ref p1), (2, .ref 8), (3, .int v3)] [.int r116, .int r115] (v_mk s116) _
            rcases v_if h with ⟨c117, h⟩ | ⟨c117, h⟩
            · refine v_i2t (T := 83) rfl rfl c117 ?_
              refine s_ek_bk 2 (P := 2) (ls' := [(3, .int (v3 + 1)), (4, .ref 79), (0, .ref 78), (1, .ref p1), (2, .ref 8)]) (st' := []) (M' := v_mk s116) rfl ?_
              refine v_ls (ls' := [(0, .ref 78), (1, .ref p1), (2, .ref 8), (3, .int (v3 + 1))]) ⟨rfl, rfl, rfl, rfl, trivial⟩ (show ([0, 1, 2, 3] : List Nat).Nodup from by decide) ?_
              exact ih _ _ h
            · refine v_i2f (T := 83) rfl rfl c117 ?_
              refine s_ek_bk 1 (P := 82) (ls' := [(4, .ref 79), (0, .ref 78), (1, .ref p1), (2, .ref 8), (3, .int v3)]) (st' := [.int 0]) (M' := v_mk s116) rfl ?_
              obtain ⟨rfl, rfl⟩ := v_so h
              exact v_ret (fun _ => rfl)
        · refine v_i1f (T := 32) rfl rfl c105 ?_
          refine s_ek_bk 6 (P := 47) (ls' := [(4, .null), (0, .ref 78), (1, .ref p1), (2, .ref 8), (3, .int v3)]) (st' := [.int v3, .ref p1, .ref 78]) (M' := v_mk s101) rfl ?_
          obtain ⟨r118, s118, e118, h⟩ := v_bd h
          refine v_cV (ν := s_e97.1) (w := 777) (a := p1) (as' := [.int v3]) (r := [.ref 78]) (o := some (.int r118)) (by omega) rfl rfl rfl (v_mk_kd (k := 6) hp1 (by decide)) rfl (t_Sh_placeOfTwo hp1 e118 (by omega)) ?_
          show s_Ek (s_rows 3 L xs) D s_e121.1 50 [(4, .null), (0, .ref 78), (1, .ref p1), (2, .ref 8), (3, .int v3)] [.int r118, .ref 78] (v_mk s118) _
          refine s_ek_bk 2 (P := 53) (ls' := [(4, .null), (0, .ref 78), (1, .ref p1), (2, .ref 8), (3, .int v3)]) (st' := [.ref 8, .null, .int r118, .ref 78]) (M' := v_mk s118) rfl ?_
          refine v_gf rfl (v_gi (rfl : v_kd 8 = 3) rfl ⟨rfl, rfl, by decide⟩) ?_
          obtain ⟨r119, s119, e119, h⟩ := v_bd h
          refine v_cV (ν := s_e122.1) (w := 979) (a := 78) (as' := [.int r118, .null, .int (s118.1 8 2)]) (r := []) (o := some (.int r119)) (by omega) rfl rfl rfl (v_mk_kd (k := 8) (rfl : v_kd 78 = 8) (by decide)) rfl (t_Wd_wouldHold e119 (by omega)) ?_
          show s_Ek (s_rows 3 L xs) D s_e121.1 59 [(4, .null), (0, .ref 78), (1, .ref p1), (2, .ref 8), (3, .int v3)] [.int r119] (v_mk s119) _
          rcases v_if h with ⟨c120, h⟩ | ⟨c120, h⟩
          · refine v_i1t (T := 68) rfl rfl c120 ?_
            refine s_ek_bk 2 (P := 70) (ls' := [(4, .null), (0, .ref 78), (1, .ref p1), (2, .ref 8), (3, .int v3)]) (st' := [.int v3, .ref p1]) (M' := v_mk s119) rfl ?_
            obtain ⟨r121, s121, e121, h⟩ := v_bd h
            refine v_cV (ν := s_e98.1) (w := 785) (a := p1) (as' := [.int v3]) (r := []) (o := some (.int r121)) (by omega) rfl rfl rfl (v_mk_kd (k := 6) hp1 (by decide)) rfl (t_Sh_verdictOfTwo hp1 e121 (by omega)) ?_
            show s_Ek (s_rows 3 L xs) D s_e121.1 73 [(4, .null), (0, .ref 78), (1, .ref p1), (2, .ref 8), (3, .int v3)] [.int r121] (v_mk s121) _
            refine s_ek_bk 1 (P := 75) (ls' := [(4, .null), (0, .ref 78), (1, .ref p1), (2, .ref 8), (3, .int v3)]) (st' := [.null, .int r121]) (M' := v_mk s121) rfl ?_
            obtain ⟨r122, s122, e122, h⟩ := v_bd h
            refine v_cS (ν := s_e54.1) (w := 433) (as := [.null]) (r := [.int r121]) (o := some (.int r122)) (by omega) rfl rfl rfl rfl (t_Ct_verdictOf e122 (by omega)) ?_
            show s_Ek (s_rows 3 L xs) D s_e121.1 78 [(4, .null), (0, .ref 78), (1, .ref p1), (2, .ref 8), (3, .int v3)] [.int r122, .int r121] (v_mk s122) _
            rcases v_if h with ⟨c123, h⟩ | ⟨c123, h⟩
            · refine v_i2t (T := 83) rfl rfl c123 ?_
              refine s_ek_bk 2 (P := 2) (ls' := [(3, .int (v3 + 1)), (4, .null), (0, .ref 78), (1, .ref p1), (2, .ref 8)]) (st' := []) (M' := v_mk s122) rfl ?_
              refine v_ls (ls' := [(0, .ref 78), (1, .ref p1), (2, .ref 8), (3, .int (v3 + 1))]) ⟨rfl, rfl, rfl, rfl, trivial⟩ (show ([0, 1, 2, 3] : List Nat).Nodup from by decide) ?_
              exact ih _ _ h
            · refine v_i2f (T := 83) rfl rfl c123 ?_
              refine s_ek_bk 1 (P := 82) (ls' := [(4, .null), (0, .ref 78), (1, .ref p1), (2, .ref 8), (3, .int v3)]) (st' := [.int 0]) (M' := v_mk s122) rfl ?_
              obtain ⟨rfl, rfl⟩ := v_so h
              exact v_ret (fun _ => rfl)
          · refine v_i1f (T := 68) rfl rfl c120 ?_
            refine s_ek_bk 1 (P := 63) (ls' := [(4, .null), (0, .ref 78), (1, .ref p1), (2, .ref 8), (3, .int v3)]) (st' := [.ref 78]) (M' := v_mk s119) rfl ?_
            refine v_gf rfl (v_gr (rfl : v_kd 78 = 8) (rfl : v_sl 78 0 = .ref 79) ⟨rfl, rfl, by decide⟩) ?_
            refine s_ek_bk 3 (P := 70) (ls' := [(4, .ref 79), (0, .ref 78), (1, .ref p1), (2, .ref 8), (3, .int v3)]) (st' := [.int v3, .ref p1]) (M' := v_mk s119) rfl ?_
            obtain ⟨r124, s124, e124, h⟩ := v_bd h
            refine v_cV (ν := s_e98.1) (w := 785) (a := p1) (as' := [.int v3]) (r := []) (o := some (.int r124)) (by omega) rfl rfl rfl (v_mk_kd (k := 6) hp1 (by decide)) rfl (t_Sh_verdictOfTwo hp1 e124 (by omega)) ?_
            show s_Ek (s_rows 3 L xs) D s_e121.1 73 [(4, .ref 79), (0, .ref 78), (1, .ref p1), (2, .ref 8), (3, .int v3)] [.int r124] (v_mk s124) _
            refine s_ek_bk 1 (P := 75) (ls' := [(4, .ref 79), (0, .ref 78), (1, .ref p1), (2, .ref 8), (3, .int v3)]) (st' := [.ref 79, .int r124]) (M' := v_mk s124) rfl ?_
            obtain ⟨r125, s125, e125, h⟩ := v_bd h
            refine v_cS (ν := s_e54.1) (w := 433) (as := [.ref 79]) (r := [.int r124]) (o := some (.int r125)) (by omega) rfl rfl rfl rfl (t_Ct_verdictOf e125 (by omega)) ?_
            show s_Ek (s_rows 3 L xs) D s_e121.1 78 [(4, .ref 79), (0, .ref 78), (1, .ref p1), (2, .ref 8), (3, .int v3)] [.int r125, .int r124] (v_mk s125) _
            rcases v_if h with ⟨c126, h⟩ | ⟨c126, h⟩
            · refine v_i2t (T := 83) rfl rfl c126 ?_
              refine s_ek_bk 2 (P := 2) (ls' := [(3, .int (v3 + 1)), (4, .ref 79), (0, .ref 78), (1, .ref p1), (2, .ref 8)]) (st' := []) (M' := v_mk s125) rfl ?_
              refine v_ls (ls' := [(0, .ref 78), (1, .ref p1), (2, .ref 8), (3, .int (v3 + 1))]) ⟨rfl, rfl, rfl, rfl, trivial⟩ (show ([0, 1, 2, 3] : List Nat).Nodup from by decide) ?_
              exact ih _ _ h
            · refine v_i2f (T := 83) rfl rfl c126 ?_
              refine s_ek_bk 1 (P := 82) (ls' := [(4, .ref 79), (0, .ref 78), (1, .ref p1), (2, .ref 8), (3, .int v3)]) (st' := [.int 0]) (M' := v_mk s125) rfl ?_
              obtain ⟨rfl, rfl⟩ := v_so h
              exact v_ret (fun _ => rfl)
set_option maxRecDepth 20000 in
set_option maxHeartbeats 4000000 in
theorem t_Wd_fits {L : Nat} {xs : Nat → Int32} {b : Nat} (hb : v_kd b = 6) {D : Nat} {r : Int32} {s s' : vS} (h : f_Wd_fits b s = some (r, s')) (hD : 4 ≤ D) : s_Ek (s_rows 3 L xs) D s_e121.1 0 (lv_args 0 [.ref 78, .ref b, .ref 8]) [] (v_mk s) (v_Q (some (.int r)) s') := by
  unfold f_Wd_fits at h
  show s_Ek (s_rows 3 L xs) D s_e121.1 0 [(0, .ref 78), (1, .ref b), (2, .ref 8)] [] (v_mk s) _
  refine s_ek_bk 2 (P := 2) (ls' := [(3, .int 0), (0, .ref 78), (1, .ref b), (2, .ref 8)]) (st' := []) (M' := v_mk s) rfl ?_
  refine v_ls (ls' := [(0, .ref 78), (1, .ref b), (2, .ref 8), (3, .int 0)]) ⟨rfl, rfl, rfl, rfl, trivial⟩ (show ([0, 1, 2, 3] : List Nat).Nodup from by decide) ?_
  refine t_Wd_fits_L2 hb (by omega) (fun s1 h => ?_) 4096 _ _ h
  show s_Ek (s_rows 3 L xs) D s_e121.1 89 [] [] (v_mk s1) _
  refine s_ek_bk 1 (P := 90) (ls' := []) (st' := [.int 1]) (M' := v_mk s1) rfl ?_
  obtain ⟨rfl, rfl⟩ := v_so h
  exact v_ret (fun _ => rfl)
noncomputable def f_Wd_firstFitting_L2b (p1 : Nat) (k60 : vS → Option (Int32 × vS)) (again : Int32 → vS → Option (Int32 × vS)) (v3 : Int32) (s : vS) : Option (Int32 × vS) := (v_bi (f_Sh_twos p1 s) (fun r101 s101 => (if r101.toInt ≤ v3.toInt then (k60 s101) else (if 31 ≤ v3.toInt then (k60 s101) else (v_bi (f_Sh_placeOfTwo p1 v3 s101) (fun r104 s104 => (v_bi (f_Ct_holder r104 (s104.1 8 2) s104) (fun r105 s105 => v_on r105 (if v_in v3 31 then (v_let (v_w1 s105 86 (Int32.toNatClampNeg v3) (-1)) (fun s110 => (again (v3 + 1) s110))) else none) (fun b106 => if v_kd b106 = 4 then (if v_in v3 31 then (v_let (v_w1 s105 86 (Int32.toNatClampNeg v3) (s105.1 b106 0)) (fun s112 => (again (v3 + 1) s112))) else none) else none)))))))))
noncomputable def f_Wd_firstFitting_L2 (p1 : Nat) (k60 : vS → Option (Int32 × vS)) (n : Nat) : Int32 → vS → Option (Int32 × vS) := Nat.rec (motive := fun _ => Int32 → vS → Option (Int32 × vS)) (fun _ _ => none) (fun _ again => f_Wd_firstFitting_L2b p1 k60 again) n
noncomputable def f_Wd_firstFitting_L66b (p1 : Nat) (k97 : vS → Option (Int32 × vS)) (again : Int32 → vS → Option (Int32 × vS)) (v3 : Int32) (s : vS) : Option (Int32 × vS) := (if 1036 ≤ v3.toInt then (k97 s) else (v_bi (f_Wd_fits p1 s) (fun r204 s204 => (if r204.toInt = 0 then (v_bi (f_Wd_goOn s204) (fun _ s206 => (again (v3 + 1) s206))) else (v_bi (f_Wd_number s204) (fun r207 s207 => (some (r207, s207))))))))
noncomputable def f_Wd_firstFitting_L66 (p1 : Nat) (k97 : vS → Option (Int32 × vS)) (n : Nat) : Int32 → vS → Option (Int32 × vS) := Nat.rec (motive := fun _ => Int32 → vS → Option (Int32 × vS)) (fun _ _ => none) (fun _ again => f_Wd_firstFitting_L66b p1 k97 again) n
noncomputable def f_Wd_firstFitting (b : Nat) (s : vS) : Option (Int32 × vS) := (f_Wd_firstFitting_L2 b (fun s1 => (v_bi (f_Wd_begin s1) (fun _ s2 => (f_Wd_firstFitting_L66 b (fun s3 => (some ((-2), s3))) 4096 0 s2)))) 4096 0 s)
set_option maxRecDepth 20000 in
set_option maxHeartbeats 4000000 in
theorem t_Wd_firstFitting_L2 {L : Nat} {xs : Nat → Int32} {p1 : Nat} (hp1 : v_kd p1 = 6) {k60 : vS → Option (Int32 × vS)} {D : Nat} (hD : 5 ≤ D) {r : Int32} {s' : vS} (hk60 : ∀ (s : vS), k60 s = some (r, s') → s_Ek (s_rows 3 L xs) D s_e120.1 60 [(0, .ref 78), (1, .ref p1), (2, .ref 8)] [] (v_mk s) (v_Q (some (.int r)) s')) : ∀ (n : Nat) (v3 : Int32) (s : vS), f_Wd_firstFitting_L2 p1 k60 n v3 s = some (r, s') → s_Ek (s_rows 3 L xs) D s_e120.1 2 [(0, .ref 78), (1, .ref p1), (2, .ref 8), (3, .int v3)] [] (v_mk s) (v_Q (some (.int r)) s') := by
  intro n
  induction n with
  | zero => intro v3 s h; exact nomatch (show (none : Option (Int32 × vS)) = some (r, s') from h)
  | succ n ih =>
    intro v3 s h
    replace h : f_Wd_firstFitting_L2b p1 k60 (f_Wd_firstFitting_L2 p1 k60 n) v3 s = some (r, s') := h
    unfold f_Wd_firstFitting_L2b at h
    refine s_ek_bk 2 (P := 4) (ls' := [(0, .ref 78), (1, .ref p1), (2, .ref 8), (3, .int v3)]) (st' := [.ref p1, .int v3]) (M' := v_mk s) rfl ?_
    obtain ⟨r101, s101, e101, h⟩ := v_bd h
    refine v_cV (ν := s_e94.1) (w := 752) (a := p1) (as' := []) (r := [.int v3]) (o := some (.int r101)) (by omega) rfl rfl rfl (v_mk_kd (k := 6) hp1 (by decide)) rfl (t_Sh_twos hp1 e101 (by omega)) ?_
    show s_Ek (s_rows 3 L xs) D s_e120.1 7 [(0, .ref 78), (1, .ref p1), (2, .ref 8), (3, .int v3)] [.int r101, .int v3] (v_mk s101) _
    rcases v_if h with ⟨c102, h⟩ | ⟨c102, h⟩
    · refine v_i2t (T := 60) rfl rfl c102 ?_
      refine v_ls (ls' := [(0, .ref 78), (1, .ref p1), (2, .ref 8)]) ⟨rfl, rfl, rfl, trivial⟩ (show ([0, 1, 2] : List Nat).Nodup from by decide) ?_
      exact hk60 _ h
    · refine v_i2f (T := 60) rfl rfl c102 ?_
      refine s_ek_bk 2 (P := 12) (ls' := [(0, .ref 78), (1, .ref p1), (2, .ref 8), (3, .int v3)]) (st' := [.ref 78, .int v3]) (M' := v_mk s101) rfl ?_
      refine v_gf rfl (v_gr (rfl : v_kd 78 = 8) (rfl : v_sl 78 3 = .ref 86) ⟨rfl, rfl, by decide⟩) ?_
      refine v_alen (x := 31) rfl (by rw [v_len (rfl : v_kd 86 = 13) (by decide), (rfl : v_ln 86 = 31)]; rfl) ?_
      rcases v_if h with ⟨c103, h⟩ | ⟨c103, h⟩
      · refine v_i2t (T := 60) rfl rfl c103 ?_
        refine v_ls (ls' := [(0, .ref 78), (1, .ref p1), (2, .ref 8)]) ⟨rfl, rfl, rfl, trivial⟩ (show ([0, 1, 2] : List Nat).Nodup from by decide) ?_
        exact hk60 _ h
      · refine v_i2f (T := 60) rfl rfl c103 ?_
        refine s_ek_bk 3 (P := 22) (ls' := [(0, .ref 78), (1, .ref p1), (2, .ref 8), (3, .int v3)]) (st' := [.int v3, .ref p1, .ref 8]) (M' := v_mk s101) rfl ?_
        obtain ⟨r104, s104, e104, h⟩ := v_bd h
        refine v_cV (ν := s_e97.1) (w := 777) (a := p1) (as' := [.int v3]) (r := [.ref 8]) (o := some (.int r104)) (by omega) rfl rfl rfl (v_mk_kd (k := 6) hp1 (by decide)) rfl (t_Sh_placeOfTwo hp1 e104 (by omega)) ?_
        show s_Ek (s_rows 3 L xs) D s_e120.1 25 [(0, .ref 78), (1, .ref p1), (2, .ref 8), (3, .int v3)] [.int r104, .ref 8] (v_mk s104) _
        refine s_ek_bk 1 (P := 26) (ls' := [(0, .ref 78), (1, .ref p1), (2, .ref 8), (3, .int v3)]) (st' := [.ref 8, .int r104, .ref 8]) (M' := v_mk s104) rfl ?_
        refine v_gf rfl (v_gi (rfl : v_kd 8 = 3) rfl ⟨rfl, rfl, by decide⟩) ?_
        obtain ⟨r105, s105, e105, h⟩ := v_bd h
        refine v_cV (ν := s_e52.1) (w := 418) (a := 8) (as' := [.int r104, .int (s104.1 8 2)]) (r := []) (o := some (v_nu r105)) (by omega) rfl rfl rfl (v_mk_kd (k := 3) (rfl : v_kd 8 = 3) (by decide)) rfl (t_Ct_holder e105 (by omega)) ?_
        rcases v_od h with ⟨rfl, hz108⟩ | ⟨b106, rfl, hz108⟩
        · have h := hz108
          show s_Ek (s_rows 3 L xs) D s_e120.1 32 [(0, .ref 78), (1, .ref p1), (2, .ref 8), (3, .int v3)] [.null] (v_mk s105) _
          refine s_ek_bk 2 (P := 35) (ls' := [(4, .null), (0, .ref 78), (1, .ref p1), (2, .ref 8), (3, .int v3)]) (st' := [.ref 78]) (M' := v_mk s105) rfl ?_
          refine v_gf rfl (v_gr (rfl : v_kd 78 = 8) (rfl : v_sl 78 3 = .ref 86) ⟨rfl, rfl, by decide⟩) ?_
          refine s_ek_bk 5 (P := 53) (ls' := [(4, .null), (0, .ref 78), (1, .ref p1), (2, .ref 8), (3, .int v3)]) (st' := [.int (-1), .int v3, .ref 86]) (M' := v_mk s105) rfl ?_
          obtain ⟨c109, h⟩ := v_ck h
          obtain ⟨s110, es110, h⟩ := v_ld h
          refine v_ist (M' := v_mk s110) (i := v3) rfl (by rw [es110]; exact v_pai (rfl : v_kd 86 = 13) rfl (by decide) v_all13 (v_cn (rfl : v_ln 86 = 31) c109)) ?_
          refine s_ek_bk 2 (P := 2) (ls' := [(3, .int (v3 + 1)), (4, .null), (0, .ref 78), (1, .ref p1), (2, .ref 8)]) (st' := []) (M' := v_mk s110) rfl ?_
          refine v_ls (ls' := [(0, .ref 78), (1, .ref p1), (2, .ref 8), (3, .int (v3 + 1))]) ⟨rfl, rfl, rfl, rfl, trivial⟩ (show ([0, 1, 2, 3] : List Nat).Nodup from by decide) ?_
          exact ih _ _ h
        · have h := hz108
          obtain ⟨c107, h⟩ := v_ck h
          show s_Ek (s_rows 3 L xs) D s_e120.1 32 [(0, .ref 78), (1, .ref p1), (2, .ref 8), (3, .int v3)] [.ref b106] (v_mk s105) _
          refine s_ek_bk 2 (P := 35) (ls' := [(4, .ref b106), (0, .ref 78), (1, .ref p1), (2, .ref 8), (3, .int v3)]) (st' := [.ref 78]) (M' := v_mk s105) rfl ?_
          refine v_gf rfl (v_gr (rfl : v_kd 78 = 8) (rfl : v_sl 78 3 = .ref 86) ⟨rfl, rfl, by decide⟩) ?_
          refine s_ek_bk 4 (P := 50) (ls' := [(4, .ref b106), (0, .ref 78), (1, .ref p1), (2, .ref 8), (3, .int v3)]) (st' := [.ref b106, .int v3, .ref 86]) (M' := v_mk s105) rfl ?_
          refine v_gf rfl (v_gi c107 (v_tK (j := 0) v_is4 (by decide) c107) ⟨rfl, rfl, by decide⟩) ?_
          obtain ⟨c111, h⟩ := v_ck h
          obtain ⟨s112, es112, h⟩ := v_ld h
          refine v_ist (M' := v_mk s112) (i := v3) rfl (by rw [es112]; exact v_pai (rfl : v_kd 86 = 13) rfl (by decide) v_all13 (v_cn (rfl : v_ln 86 = 31) c111)) ?_
          refine s_ek_bk 2 (P := 2) (ls' := [(3, .int (v3 + 1)), (4, .ref b106), (0, .ref 78), (1, .ref p1), (2, .ref 8)]) (st' := []) (M' := v_mk s112) rfl ?_
          refine v_ls (ls' := [(0, .ref 78), (1, .ref p1), (2, .ref 8), (3, .int (v3 + 1))]) ⟨rfl, rfl, rfl, rfl, trivial⟩ (show ([0, 1, 2, 3] : List Nat).Nodup from by decide) ?_
          exact ih _ _ h
set_option maxRecDepth 20000 in
set_option maxHeartbeats 4000000 in
theorem t_Wd_firstFitting_L66 {L : Nat} {xs : Nat → Int32} {p1 : Nat} (hp1 : v_kd p1 = 6) {k97 : vS → Option (Int32 × vS)} {D : Nat} (hD : 5 ≤ D) {r : Int32} {s' : vS} (hk97 : ∀ (s : vS), k97 s = some (r, s') → s_Ek (s_rows 3 L xs) D s_e120.1 97 [] [] (v_mk s) (v_Q (some (.int r)) s')) : ∀ (n : Nat) (v3 : Int32) (s : vS), f_Wd_firstFitting_L66 p1 k97 n v3 s = some (r, s') → s_Ek (s_rows 3 L xs) D s_e120.1 66 [(0, .ref 78), (1, .ref p1), (2, .ref 8), (3, .int v3)] [] (v_mk s) (v_Q (some (.int r)) s') := by
  intro n
  induction n with
  | zero => intro v3 s h; exact nomatch (show (none : Option (Int32 × vS)) = some (r, s') from h)
  | succ n ih =>
    intro v3 s h
    replace h : f_Wd_firstFitting_L66b p1 k97 (f_Wd_firstFitting_L66 p1 k97 n) v3 s = some (r, s') := h
    unfold f_Wd_firstFitting_L66b at h
    refine s_ek_bk 2 (P := 70) (ls' := [(0, .ref 78), (1, .ref p1), (2, .ref 8), (3, .int v3)]) (st' := [.int 1036, .int v3]) (M' := v_mk s) rfl ?_
    rcases v_if h with ⟨c203, h⟩ | ⟨c203, h⟩
    · refine v_i2t (T := 97) rfl rfl c203 ?_
      refine v_ls (ls' := []) trivial (show ([] : List Nat).Nodup from by decide) ?_
      exact hk97 _ h
    · refine v_i2f (T := 97) rfl rfl c203 ?_
      refine s_ek_bk 3 (P := 76) (ls' := [(0, .ref 78), (1, .ref p1), (2, .ref 8), (3, .int v3)]) (st' := [.ref 8, .ref p1, .ref 78]) (M' := v_mk s) rfl ?_
      obtain ⟨r204, s204, e204, h⟩ := v_bd h
      refine v_cV (ν := s_e121.1) (w := 970) (a := 78) (as' := [.ref p1, .ref 8]) (r := []) (o := some (.int r204)) (by omega) rfl rfl rfl (v_mk_kd (k := 8) (rfl : v_kd 78 = 8) (by decide)) rfl (t_Wd_fits hp1 e204 (by omega)) ?_
      show s_Ek (s_rows 3 L xs) D s_e120.1 79 [(0, .ref 78), (1, .ref p1), (2, .ref 8), (3, .int v3)] [.int r204] (v_mk s204) _
      rcases v_if h with ⟨c205, h⟩ | ⟨c205, h⟩
      · refine v_i1t (T := 87) rfl rfl c205 ?_
        refine s_ek_bk 1 (P := 88) (ls' := [(0, .ref 78), (1, .ref p1), (2, .ref 8), (3, .int v3)]) (st' := [.ref 78]) (M' := v_mk s204) rfl ?_
        obtain ⟨r206, s206, e206, h⟩ := v_bd h
        refine v_cV (ν := s_e117.1) (w := 936) (a := 78) (as' := []) (r := []) (o := none) (by omega) rfl rfl rfl (v_mk_kd (k := 8) (rfl : v_kd 78 = 8) (by decide)) rfl (t_Wd_goOn e206 (by omega)) ?_
        show s_Ek (s_rows 3 L xs) D s_e120.1 91 [(0, .ref 78), (1, .ref p1), (2, .ref 8), (3, .int v3)] [] (v_mk s206) _
        refine s_ek_bk 2 (P := 66) (ls' := [(3, .int (v3 + 1)), (0, .ref 78), (1, .ref p1), (2, .ref 8)]) (st' := []) (M' := v_mk s206) rfl ?_
        refine v_ls (ls' := [(0, .ref 78), (1, .ref p1), (2, .ref 8), (3, .int (v3 + 1))]) ⟨rfl, rfl, rfl, rfl, trivial⟩ (show ([0, 1, 2, 3] : List Nat).Nodup from by decide) ?_
        exact ih _ _ h
      · refine v_i1f (T := 87) rfl rfl c205 ?_
        refine s_ek_bk 1 (P := 83) (ls' := [(0, .ref 78), (1, .ref p1), (2, .ref 8), (3, .int v3)]) (st' := [.ref 78]) (M' := v_mk s204) rfl ?_
        obtain ⟨r207, s207, e207, h⟩ := v_bd h
        refine v_cV (ν := s_e119.1) (w := 952) (a := 78) (as' := []) (r := []) (o := some (.int r207)) (by omega) rfl rfl rfl (v_mk_kd (k := 8) (rfl : v_kd 78 = 8) (by decide)) rfl (t_Wd_number e207 (by omega)) ?_
        show s_Ek (s_rows 3 L xs) D s_e120.1 86 [(0, .ref 78), (1, .ref p1), (2, .ref 8), (3, .int v3)] [.int r207] (v_mk s207) _
        obtain ⟨rfl, rfl⟩ := v_so h
        exact v_ret (fun _ => rfl)
set_option maxRecDepth 20000 in
set_option maxHeartbeats 4000000 in
theorem t_Wd_firstFitting {L : Nat} {xs : Nat → Int32} {b : Nat} (hb : v_kd b = 6) {D : Nat} {r : Int32} {s s' : vS} (h : f_Wd_firstFitting b s = some (r, s')) (hD : 5 ≤ D) : s_Ek (s_rows 3 L xs) D s_e120.1 0 (lv_args 0 [.ref 78, .ref b, .ref 8]) [] (v_mk s) (v_Q (some (.int r)) s') := by
  unfold f_Wd_firstFitting at h
  show s_Ek (s_rows 3 L xs) D s_e120.1 0 [(0, .ref 78), (1, .ref b), (2, .ref 8)] [] (v_mk s) _
  refine s_ek_bk 2 (P := 2) (ls' := [(3, .int 0), (0, .ref 78), (1, .ref b), (2, .ref 8)]) (st' := []) (M' := v_mk s) rfl ?_
  refine v_ls (ls' := [(0, .ref 78), (1, .ref b), (2, .ref 8), (3, .int 0)]) ⟨rfl, rfl, rfl, rfl, trivial⟩ (show ([0, 1, 2, 3] : List Nat).Nodup from by decide) ?_
  refine t_Wd_firstFitting_L2 hb (by omega) (fun s1 h => ?_) 4096 _ _ h
  show s_Ek (s_rows 3 L xs) D s_e120.1 60 [(0, .ref 78), (1, .ref b), (2, .ref 8)] [] (v_mk s1) _
  refine s_ek_bk 1 (P := 61) (ls' := [(0, .ref 78), (1, .ref b), (2, .ref 8)]) (st' := [.ref 78]) (M' := v_mk s1) rfl ?_
  obtain ⟨r2, s2, e2, h⟩ := v_bd h
  refine v_cV (ν := s_e116.1) (w := 928) (a := 78) (as' := []) (r := []) (o := none) (by omega) rfl rfl rfl (v_mk_kd (k := 8) (rfl : v_kd 78 = 8) (by decide)) rfl (t_Wd_begin e2 (by omega)) ?_
  show s_Ek (s_rows 3 L xs) D s_e120.1 64 [(0, .ref 78), (1, .ref b), (2, .ref 8)] [] (v_mk s2) _
  refine s_ek_bk 2 (P := 66) (ls' := [(3, .int 0), (0, .ref 78), (1, .ref b), (2, .ref 8)]) (st' := []) (M' := v_mk s2) rfl ?_
  refine v_ls (ls' := [(0, .ref 78), (1, .ref b), (2, .ref 8), (3, .int 0)]) ⟨rfl, rfl, rfl, rfl, trivial⟩ (show ([0, 1, 2, 3] : List Nat).Nodup from by decide) ?_
  refine t_Wd_firstFitting_L66 hb (by omega) (fun s3 h => ?_) 4096 _ _ h
  show s_Ek (s_rows 3 L xs) D s_e120.1 97 [] [] (v_mk s3) _
  refine s_ek_bk 1 (P := 99) (ls' := []) (st' := [.int (-2)]) (M' := v_mk s3) rfl ?_
  obtain ⟨rfl, rfl⟩ := v_so h
  exact v_ret (fun _ => rfl)
noncomputable def f_Wd_mightHold_L7b (p1 : Int32) (p2 : Option Nat) (p3 : Int32) (k37 : vS → Option (Int32 × vS)) (again : Int32 → vS → Option (Int32 × vS)) (v4 : Int32) (s : vS) : Option (Int32 × vS) := (if 1036 ≤ v4.toInt then (k37 s) else (v_on p2 (v_bi (f_Wd_wouldHold p1 none p3 s) (fun r106 s106 => (if r106.toInt = 0 then (v_bi (f_Wd_goOn s106) (fun _ s108 => (again (v4 + 1) s108))) else (some (1, s106))))) (fun b103 => if v_kd b103 = 4 then (v_bi (f_Wd_wouldHold p1 (some b103) p3 s) (fun r109 s109 => (if r109.toInt = 0 then (v_bi (f_Wd_goOn s109) (fun _ s111 => (again (v4 + 1) s111))) else (some (1, s109))))) else none)))
noncomputable def f_Wd_mightHold_L7 (p1 : Int32) (p2 : Option Nat) (p3 : Int32) (k37 : vS → Option (Int32 × vS)) (n : Nat) : Int32 → vS → Option (Int32 × vS) := Nat.rec (motive := fun _ => Int32 → vS → Option (Int32 × vS)) (fun _ _ => none) (fun _ again => f_Wd_mightHold_L7b p1 p2 p3 k37 again) n
noncomputable def f_Wd_mightHold (b : Int32) (c : Option Nat) (d : Int32) (s : vS) : Option (Int32 × vS) := (v_bi (f_Wd_begin s) (fun _ s1 => (f_Wd_mightHold_L7 b c d (fun s2 => (some (0, s2))) 4096 0 s1)))
set_option maxRecDepth 20000 in
set_option maxHeartbeats 4000000 in
theorem t_Wd_mightHold_L7 {L : Nat} {xs : Nat → Int32} {p1 : Int32} {p2 : Option Nat} {p3 : Int32} {k37 : vS → Option (Int32 × vS)} {D : Nat} (hD : 4 ≤ D) {r : Int32} {s' : vS} (hk37 : ∀ (s : vS), k37 s = some (r, s') → s_Ek (s_rows 3 L xs) D s_e125.1 37 [] [] (v_mk s) (v_Q (some (.int r)) s')) : ∀ (n : Nat) (v4 : Int32) (s : vS), f_Wd_mightHold_L7 p1 p2 p3 k37 n v4 s = some (r, s') → s_Ek (s_rows 3 L xs) D s_e125.1 7 [(0, .ref 78), (1, .int p1), (2, v_nu p2), (3, .int p3), (4, .int v4)] [] (v_mk s) (v_Q (some (.int r)) s') := by
  intro n
  induction n with
  | zero => intro v4 s h; exact nomatch (show (none : Option (Int32 × vS)) = some (r, s') from h)
  | succ n ih =>
    intro v4 s h
    replace h : f_Wd_mightHold_L7b p1 p2 p3 k37 (f_Wd_mightHold_L7 p1 p2 p3 k37 n) v4 s = some (r, s') := h
    unfold f_Wd_mightHold_L7b at h
    refine s_ek_bk 2 (P := 12) (ls' := [(0, .ref 78), (1, .int p1), (2, v_nu p2), (3, .int p3), (4, .int v4)]) (st' := [.int 1036, .int v4]) (M' := v_mk s) rfl ?_
    rcases v_if h with ⟨c102, h⟩ | ⟨c102, h⟩
    · refine v_i2t (T := 37) rfl rfl c102 ?_
      refine v_ls (ls' := []) trivial (show ([] : List Nat).Nodup from by decide) ?_
      exact hk37 _ h
    · refine v_i2f (T := 37) rfl rfl c102 ?_
      refine s_ek_bk 2 (P := 17) (ls' := [(0, .ref 78), (1, .int p1), (2, v_nu p2), (3, .int p3), (4, .int v4)]) (st' := [.int p1, .ref 78]) (M' := v_mk s) rfl ?_
      rcases v_od h with ⟨rfl, hz105⟩ | ⟨b103, rfl, hz105⟩
      · have h := hz105
        show s_Ek (s_rows 3 L xs) D s_e125.1 17 [(0, .ref 78), (1, .int p1), (2, .null), (3, .int p3), (4, .int v4)] [.int p1, .ref 78] (v_mk s) _
        refine s_ek_bk 2 (P := 19) (ls' := [(0, .ref 78), (1, .int p1), (2, .null), (3, .int p3), (4, .int v4)]) (st' := [.int p3, .null, .int p1, .ref 78]) (M' := v_mk s) rfl ?_
        obtain ⟨r106, s106, e106, h⟩ := v_bd h
        refine v_cV (ν := s_e122.1) (w := 979) (a := 78) (as' := [.int p1, .null, .int p3]) (r := []) (o := some (.int r106)) (by omega) rfl rfl rfl (v_mk_kd (k := 8) (rfl : v_kd 78 = 8) (by decide)) rfl (t_Wd_wouldHold e106 (by omega)) ?_
        show s_Ek (s_rows 3 L xs) D s_e125.1 22 [(0, .ref 78), (1, .int p1), (2, .null), (3, .int p3), (4, .int v4)] [.int r106] (v_mk s106) _
        rcases v_if h with ⟨c107, h⟩ | ⟨c107, h⟩
        · refine v_i1t (T := 27) rfl rfl c107 ?_
          refine s_ek_bk 1 (P := 28) (ls' := [(0, .ref 78), (1, .int p1), (2, .null), (3, .int p3), (4, .int v4)]) (st' := [.ref 78]) (M' := v_mk s106) rfl ?_
          obtain ⟨r108, s108, e108, h⟩ := v_bd h
          refine v_cV (ν := s_e117.1) (w := 936) (a := 78) (as' := []) (r := []) (o := none) (by omega) rfl rfl rfl (v_mk_kd (k := 8) (rfl : v_kd 78 = 8) (by decide)) rfl (t_Wd_goOn e108 (by omega)) ?_
          show s_Ek (s_rows 3 L xs) D s_e125.1 31 [(0, .ref 78), (1, .int p1), (2, .null), (3, .int p3), (4, .int v4)] [] (v_mk s108) _
          refine s_ek_bk 2 (P := 7) (ls' := [(4, .int (v4 + 1)), (0, .ref 78), (1, .int p1), (2, .null), (3, .int p3)]) (st' := []) (M' := v_mk s108) rfl ?_
          refine v_ls (ls' := [(0, .ref 78), (1, .int p1), (2, .null), (3, .int p3), (4, .int (v4 + 1))]) ⟨rfl, rfl, rfl, rfl, rfl, trivial⟩ (show ([0, 1, 2, 3, 4] : List Nat).Nodup from by decide) ?_
          exact ih _ _ h
        · refine v_i1f (T := 27) rfl rfl c107 ?_
          refine s_ek_bk 1 (P := 26) (ls' := [(0, .ref 78), (1, .int p1), (2, .null), (3, .int p3), (4, .int v4)]) (st' := [.int 1]) (M' := v_mk s106) rfl ?_
          obtain ⟨rfl, rfl⟩ := v_so h
          exact v_ret (fun _ => rfl)
      · have h := hz105
        obtain ⟨c104, h⟩ := v_ck h
        show s_Ek (s_rows 3 L xs) D s_e125.1 17 [(0, .ref 78), (1, .int p1), (2, .ref b103), (3, .int p3), (4, .int v4)] [.int p1, .ref 78] (v_mk s) _
        refine s_ek_bk 2 (P := 19) (ls' := [(0, .ref 78), (1, .int p1), (2, .ref b103), (3, .int p3), (4, .int v4)]) (st' := [.int p3, .ref b103, .int p1, .ref 78]) (M' := v_mk s) rfl ?_
        obtain ⟨r109, s109, e109, h⟩ := v_bd h
        refine v_cV (ν := s_e122.1) (w := 979) (a := 78) (as' := [.int p1, .ref b103, .int p3]) (r := []) (o := some (.int r109)) (by omega) rfl rfl rfl (v_mk_kd (k := 8) (rfl : v_kd 78 = 8) (by decide)) rfl (t_Wd_wouldHold e109 (by omega)) ?_
        show s_Ek (s_rows 3 L xs) D s_e125.1 22 [(0, .ref 78), (1, .int p1), (2, .ref b103), (3, .int p3), (4, .int v4)] [.int r109] (v_mk s109) _
        rcases v_if h with ⟨c110, h⟩ | ⟨c110, h⟩
        · refine v_i1t (T := 27) rfl rfl c110 ?_
          refine s_ek_bk 1 (P := 28) (ls' := [(0, .ref 78), (1, .int p1), (2, .ref b103), (3, .int p3), (4, .int v4)]) (st' := [.ref 78]) (M' := v_mk s109) rfl ?_
          obtain ⟨r111, s111, e111, h⟩ := v_bd h
          refine v_cV (ν := s_e117.1) (w := 936) (a := 78) (as' := []) (r := []) (o := none) (by omega) rfl rfl rfl (v_mk_kd (k := 8) (rfl : v_kd 78 = 8) (by decide)) rfl (t_Wd_goOn e111 (by omega)) ?_
          show s_Ek (s_rows 3 L xs) D s_e125.1 31 [(0, .ref 78), (1, .int p1), (2, .ref b103), (3, .int p3), (4, .int v4)] [] (v_mk s111) _
          refine s_ek_bk 2 (P := 7) (ls' := [(4, .int (v4 + 1)), (0, .ref 78), (1, .int p1), (2, .ref b103), (3, .int p3)]) (st' := []) (M' := v_mk s111) rfl ?_
          refine v_ls (ls' := [(0, .ref 78), (1, .int p1), (2, .ref b103), (3, .int p3), (4, .int (v4 + 1))]) ⟨rfl, rfl, rfl, rfl, rfl, trivial⟩ (show ([0, 1, 2, 3, 4] : List Nat).Nodup from by decide) ?_
          exact ih _ _ h
        · refine v_i1f (T := 27) rfl rfl c110 ?_
          refine s_ek_bk 1 (P := 26) (ls' := [(0, .ref 78), (1, .int p1), (2, .ref b103), (3, .int p3), (4, .int v4)]) (st' := [.int 1]) (M' := v_mk s109) rfl ?_
          obtain ⟨rfl, rfl⟩ := v_so h
          exact v_ret (fun _ => rfl)
set_option maxRecDepth 20000 in
set_option maxHeartbeats 4000000 in
theorem t_Wd_mightHold {L : Nat} {xs : Nat → Int32} {b : Int32} {c : Option Nat} {d : Int32} {D : Nat} {r : Int32} {s s' : vS} (h : f_Wd_mightHold b c d s = some (r, s')) (hD : 4 ≤ D) : s_Ek (s_rows 3 L xs) D s_e125.1 0 (lv_args 0 [.ref 78, .int b, v_nu c, .int d]) [] (v_mk s) (v_Q (some (.int r)) s') := by
  unfold f_Wd_mightHold at h
  have hls : lv_args 0 [.ref 78, .int b, v_nu c, .int d] = [(0, .ref 78), (1, .int b), (2, v_nu c), (3, .int d)] := by cases c <;> rfl
  rw [hls]
  show s_Ek (s_rows 3 L xs) D s_e125.1 0 [(0, .ref 78), (1, .int b), (2, v_nu c), (3, .int d)] [] (v_mk s) _
  refine s_ek_bk 1 (P := 1) (ls' := [(0, .ref 78), (1, .int b), (2, v_nu c), (3, .int d)]) (st' := [.ref 78]) (M' := v_mk s) rfl ?_
  obtain ⟨r1, s1, e1, h⟩ := v_bd h
  refine v_cV (ν := s_e116.1) (w := 928) (a := 78) (as' := []) (r := []) (o := none) (by omega) rfl rfl rfl (v_mk_kd (k := 8) (rfl : v_kd 78 = 8) (by decide)) rfl (t_Wd_begin e1 (by omega)) ?_
  show s_Ek (s_rows 3 L xs) D s_e125.1 4 [(0, .ref 78), (1, .int b), (2, v_nu c), (3, .int d)] [] (v_mk s1) _
  refine s_ek_bk 2 (P := 7) (ls' := [(4, .int 0), (0, .ref 78), (1, .int b), (2, v_nu c), (3, .int d)]) (st' := []) (M' := v_mk s1) (by cases c <;> rfl) ?_
  refine v_ls (ls' := [(0, .ref 78), (1, .int b), (2, v_nu c), (3, .int d), (4, .int 0)]) ⟨rfl, rfl, rfl, rfl, rfl, trivial⟩ (show ([0, 1, 2, 3, 4] : List Nat).Nodup from by decide) ?_
  refine t_Wd_mightHold_L7 (by omega) (fun s2 h => ?_) 4096 _ _ h
  show s_Ek (s_rows 3 L xs) D s_e125.1 37 [] [] (v_mk s2) _
  refine s_ek_bk 1 (P := 38) (ls' := []) (st' := [.int 0]) (M' := v_mk s2) rfl ?_
  obtain ⟨rfl, rfl⟩ := v_so h
  exact v_ret (fun _ => rfl)
noncomputable def f_Wd_isBarred (b : Nat) (c : Int32) (d : Option Nat) (e : Int32) (s : vS) : Option (Int32 × vS) := (v_bi (f_Sh_verdictOfTwo b c s) (fun r1 s1 => (v_on d (v_bi (f_Ct_verdictOf none s1) (fun r5 s5 => (if r1.toInt = r5.toInt then (some (0, s5)) else (if r1.toInt = (s5.1 79 2).toInt then (v_bi (f_Sh_placeOfTwo b c s5) (fun r8 s8 => (v_bi (f_Wd_mightHold r8 none e s8) (fun r9 s9 => (if r9.toInt = 0 then (some (1, s9)) else (some (0, s9))))))) else (some (1, s5)))))) (fun b2 => if v_kd b2 = 4 then (v_bi (f_Ct_verdictOf (some b2) s1) (fun r11 s11 => (if r1.toInt = r11.toInt then (some (0, s11)) else (if r1.toInt = (s11.1 79 2).toInt then (v_bi (f_Sh_placeOfTwo b c s11) (fun r14 s14 => (v_bi (f_Wd_mightHold r14 (some b2) e s14) (fun r15 s15 => (if r15.toInt = 0 then (some (1, s15)) else (some (0, s15))))))) else (some (1, s11)))))) else none))))
set_option maxRecDepth 20000 in
set_option maxHeartbeats 4000000 in
theorem t_Wd_isBarred {L : Nat} {xs : Nat → Int32} {b : Nat} {c : Int32} {d : Option Nat} {e : Int32} (hb : v_kd b = 6) {D : Nat} {r : Int32} {s s' : vS} (h : f_Wd_isBarred b c d e s = some (r, s')) (hD : 5 ≤ D) : s_Ek (s_rows 3 L xs) D s_e124.1 0 (lv_args 0 [.ref 78, .ref b, .int c, v_nu d, .int e]) [] (v_mk s) (v_Q (some (.int r)) s') := by
  unfold f_Wd_isBarred at h
  have hls : lv_args 0 [.ref 78, .ref b, .int c, v_nu d, .int e] = [(0, .ref 78), (1, .ref b), (2, .int c), (3, v_nu d), (4, .int e)] := by cases d <;> rfl
  rw [hls]
  show s_Ek (s_rows 3 L xs) D s_e124.1 0 [(0, .ref 78), (1, .ref b), (2, .int c), (3, v_nu d), (4, .int e)] [] (v_mk s) _
  refine s_ek_bk 2 (P := 2) (ls' := [(0, .ref 78), (1, .ref b), (2, .int c), (3, v_nu d), (4, .int e)]) (st' := [.int c, .ref b]) (M' := v_mk s) rfl ?_
  obtain ⟨r1, s1, e1, h⟩ := v_bd h
  refine v_cV (ν := s_e98.1) (w := 785) (a := b) (as' := [.int c]) (r := []) (o := some (.int r1)) (by omega) rfl rfl rfl (v_mk_kd (k := 6) hb (by decide)) rfl (t_Sh_verdictOfTwo hb e1 (by omega)) ?_
  show s_Ek (s_rows 3 L xs) D s_e124.1 5 [(0, .ref 78), (1, .ref b), (2, .int c), (3, v_nu d), (4, .int e)] [.int r1] (v_mk s1) _
  refine s_ek_bk 2 (P := 9) (ls' := [(5, .int r1), (0, .ref 78), (1, .ref b), (2, .int c), (3, v_nu d), (4, .int e)]) (st' := [.int r1]) (M' := v_mk s1) (by cases d <;> rfl) ?_
  rcases v_od h with ⟨rfl, hz4⟩ | ⟨b2, rfl, hz4⟩
  · have h := hz4
    show s_Ek (s_rows 3 L xs) D s_e124.1 9 [(5, .int r1), (0, .ref 78), (1, .ref b), (2, .int c), (3, .null), (4, .int e)] [.int r1] (v_mk s1) _
    refine s_ek_bk 1 (P := 10) (ls' := [(5, .int r1), (0, .ref 78), (1, .ref b), (2, .int c), (3, .null), (4, .int e)]) (st' := [.null, .int r1]) (M' := v_mk s1) rfl ?_
    obtain ⟨r5, s5, e5, h⟩ := v_bd h
    refine v_cS (ν := s_e54.1) (w := 433) (as := [.null]) (r := [.int r1]) (o := some (.int r5)) (by omega) rfl rfl rfl rfl (t_Ct_verdictOf e5 (by omega)) ?_
    show s_Ek (s_rows 3 L xs) D s_e124.1 13 [(5, .int r1), (0, .ref 78), (1, .ref b), (2, .int c), (3, .null), (4, .int e)] [.int r5, .int r1] (v_mk s5) _
    rcases v_if h with ⟨c6, h⟩ | ⟨c6, h⟩
    · refine v_i2f (T := 18) rfl rfl (fun q => q c6) ?_
      refine s_ek_bk 1 (P := 17) (ls' := [(5, .int r1), (0, .ref 78), (1, .ref b), (2, .int c), (3, .null), (4, .int e)]) (st' := [.int 0]) (M' := v_mk s5) rfl ?_
      obtain ⟨rfl, rfl⟩ := v_so h
      exact v_ret (fun _ => rfl)
    · refine v_i2t (T := 18) rfl rfl c6 ?_
      refine s_ek_bk 2 (P := 21) (ls' := [(5, .int r1), (0, .ref 78), (1, .ref b), (2, .int c), (3, .null), (4, .int e)]) (st' := [.ref 78, .int r1]) (M' := v_mk s5) rfl ?_
      refine v_gf rfl (v_gr (rfl : v_kd 78 = 8) (rfl : v_sl 78 0 = .ref 79) ⟨rfl, rfl, by decide⟩) ?_
      refine v_gf rfl (v_gi (rfl : v_kd 79 = 4) rfl ⟨rfl, rfl, by decide⟩) ?_
      rcases v_if h with ⟨c7, h⟩ | ⟨c7, h⟩
      · refine v_i2f (T := 45) rfl rfl (fun q => q c7) ?_
        refine s_ek_bk 3 (P := 33) (ls' := [(5, .int r1), (0, .ref 78), (1, .ref b), (2, .int c), (3, .null), (4, .int e)]) (st' := [.int c, .ref b, .ref 78]) (M' := v_mk s5) rfl ?_
        obtain ⟨r8, s8, e8, h⟩ := v_bd h
        refine v_cV (ν := s_e97.1) (w := 777) (a := b) (as' := [.int c]) (r := [.ref 78]) (o := some (.int r8)) (by omega) rfl rfl rfl (v_mk_kd (k := 6) hb (by decide)) rfl (t_Sh_placeOfTwo hb e8 (by omega)) ?_
        show s_Ek (s_rows 3 L xs) D s_e124.1 36 [(5, .int r1), (0, .ref 78), (1, .ref b), (2, .int c), (3, .null), (4, .int e)] [.int r8, .ref 78] (v_mk s8) _
        refine s_ek_bk 2 (P := 39) (ls' := [(5, .int r1), (0, .ref 78), (1, .ref b), (2, .int c), (3, .null), (4, .int e)]) (st' := [.int e, .null, .int r8, .ref 78]) (M' := v_mk s8) rfl ?_
        obtain ⟨r9, s9, e9, h⟩ := v_bd h
        refine v_cV (ν := s_e125.1) (w := 1003) (a := 78) (as' := [.int r8, .null, .int e]) (r := []) (o := some (.int r9)) (by omega) rfl rfl rfl (v_mk_kd (k := 8) (rfl : v_kd 78 = 8) (by decide)) rfl (t_Wd_mightHold e9 (by omega)) ?_
        show s_Ek (s_rows 3 L xs) D s_e124.1 42 [(5, .int r1), (0, .ref 78), (1, .ref b), (2, .int c), (3, .null), (4, .int e)] [.int r9] (v_mk s9) _
        rcases v_if h with ⟨c10, h⟩ | ⟨c10, h⟩
        · refine v_i1f (T := 49) rfl rfl (fun q => q c10) ?_
          refine s_ek_bk 2 (P := 50) (ls' := [(5, .int r1), (0, .ref 78), (1, .ref b), (2, .int c), (3, .null), (4, .int e)]) (st' := [.int 1]) (M' := v_mk s9) rfl ?_
          obtain ⟨rfl, rfl⟩ := v_so h
          exact v_ret (fun _ => rfl)
        · refine v_i1t (T := 49) rfl rfl c10 ?_
          refine s_ek_bk 1 (P := 50) (ls' := [(5, .int r1), (0, .ref 78), (1, .ref b), (2, .int c), (3, .null), (4, .int e)]) (st' := [.int 0]) (M' := v_mk s9) rfl ?_
          obtain ⟨rfl, rfl⟩ := v_so h
          exact v_ret (fun _ => rfl)
      · refine v_i2t (T := 45) rfl rfl c7 ?_
        refine s_ek_bk 2 (P := 50) (ls' := [(5, .int r1), (0, .ref 78), (1, .ref b), (2, .int c), (3, .null), (4, .int e)]) (st' := [.int 1]) (M' := v_mk s5) rfl ?_
        obtain ⟨rfl, rfl⟩ := v_so h
        exact v_ret (fun _ => rfl)
  · have h := hz4
    obtain ⟨c3, h⟩ := v_ck h
    show s_Ek (s_rows 3 L xs) D s_e124.1 9 [(5, .int r1), (0, .ref 78), (1, .ref b), (2, .int c), (3, .ref b2), (4, .int e)] [.int r1] (v_mk s1) _
    refine s_ek_bk 1 (P := 10) (ls' := [(5, .int r1), (0, .ref 78), (1, .ref b), (2, .int c), (3, .ref b2), (4, .int e)]) (st' := [.ref b2, .int r1]) (M' := v_mk s1) rfl ?_
    obtain ⟨r11, s11, e11, h⟩ := v_bd h
    refine v_cS (ν := s_e54.1) (w := 433) (as := [.ref b2]) (r := [.int r1]) (o := some (.int r11)) (by omega) rfl rfl rfl rfl (t_Ct_verdictOf e11 (by omega)) ?_
    show s_Ek (s_rows 3 L xs) D s_e124.1 13 [(5, .int r1), (0, .ref 78), (1, .ref b), (2, .int c), (3, .ref b2), (4, .int e)] [.int r11, .int r1] (v_mk s11) _
    rcases v_if h with ⟨c12, h⟩ | ⟨c12, h⟩
    · refine v_i2f (T := 18) rfl rfl (fun q => q c12) ?_
      refine s_ek_bk 1 (P := 17) (ls' := [(5, .int r1), (0, .ref 78), (1, .ref b), (2, .int c), (3, .ref b2), (4, .int e)]) (st' := [.int 0]) (M' := v_mk s11) rfl ?_
      obtain ⟨rfl, rfl⟩ := v_so h
      exact v_ret (fun _ => rfl)
    · refine v_i2t (T := 18) rfl rfl c12 ?_
      refine s_ek_bk 2 (P := 21) (ls' := [(5, .int r1), (0, .ref 78), (1, .ref b), (2, .int c), (3, .ref b2), (4, .int e)]) (st' := [.ref 78, .int r1]) (M' := v_mk s11) rfl ?_
      refine v_gf rfl (v_gr (rfl : v_kd 78 = 8) (rfl : v_sl 78 0 = .ref 79) ⟨rfl, rfl, by decide⟩) ?_
      refine v_gf rfl (v_gi (rfl : v_kd 79 = 4) rfl ⟨rfl, rfl, by decide⟩) ?_
      rcases v_if h with ⟨c13, h⟩ | ⟨c13, h⟩
      · refine v_i2f (T := 45) rfl rfl (fun q => q c13) ?_
        refine s_ek_bk 3 (P := 33) (ls' := [(5, .int r1), (0, .ref 78), (1, .ref b), (2, .int c), (3, .ref b2), (4, .int e)]) (st' := [.int c, .ref b, .ref 78]) (M' := v_mk s11) rfl ?_
        obtain ⟨r14, s14, e14, h⟩ := v_bd h
        refine v_cV (ν := s_e97.1) (w := 777) (a := b) (as' := [.int c]) (r := [.ref 78]) (o := some (.int r14)) (by omega) rfl rfl rfl (v_mk_kd (k := 6) hb (by decide)) rfl (t_Sh_placeOfTwo hb e14 (by omega)) ?_
        show s_Ek (s_rows 3 L xs) D s_e124.1 36 [(5, .int r1), (0, .ref 78), (1, .ref b), (2, .int c), (3, .ref b2), (4, .int e)] [.int r14, .ref 78] (v_mk s14) _
        refine s_ek_bk 2 (P := 39) (ls' := [(5, .int r1), (0, .ref 78), (1, .ref b), (2, .int c), (3, .ref b2), (4, .int e)]) (st' := [.int e, .ref b2, .int r14, .ref 78]) (M' := v_mk s14) rfl ?_
        obtain ⟨r15, s15, e15, h⟩ := v_bd h
        refine v_cV (ν := s_e125.1) (w := 1003) (a := 78) (as' := [.int r14, .ref b2, .int e]) (r := []) (o := some (.int r15)) (by omega) rfl rfl rfl (v_mk_kd (k := 8) (rfl : v_kd 78 = 8) (by decide)) rfl (t_Wd_mightHold e15 (by omega)) ?_
        show s_Ek (s_rows 3 L xs) D s_e124.1 42 [(5, .int r1), (0, .ref 78), (1, .ref b), (2, .int c), (3, .ref b2), (4, .int e)] [.int r15] (v_mk s15) _
        rcases v_if h with ⟨c16, h⟩ | ⟨c16, h⟩
        · refine v_i1f (T := 49) rfl rfl (fun q => q c16) ?_
          refine s_ek_bk 2 (P := 50) (ls' := [(5, .int r1), (0, .ref 78), (1, .ref b), (2, .int c), (3, .ref b2), (4, .int e)]) (st' := [.int 1]) (M' := v_mk s15) rfl ?_
          obtain ⟨rfl, rfl⟩ := v_so h
          exact v_ret (fun _ => rfl)
        · refine v_i1t (T := 49) rfl rfl c16 ?_
          refine s_ek_bk 1 (P := 50) (ls' := [(5, .int r1), (0, .ref 78), (1, .ref b), (2, .int c), (3, .ref b2), (4, .int e)]) (st' := [.int 0]) (M' := v_mk s15) rfl ?_
          obtain ⟨rfl, rfl⟩ := v_so h
          exact v_ret (fun _ => rfl)
      · refine v_i2t (T := 45) rfl rfl c13 ?_
        refine s_ek_bk 2 (P := 50) (ls' := [(5, .int r1), (0, .ref 78), (1, .ref b), (2, .int c), (3, .ref b2), (4, .int e)]) (st' := [.int 1]) (M' := v_mk s11) rfl ?_
        obtain ⟨rfl, rfl⟩ := v_so h
        exact v_ret (fun _ => rfl)
noncomputable def f_Wd_barring_L2b (p1 : Nat) (k59 : vS → Option ((Option Nat) × vS)) (again : Int32 → vS → Option ((Option Nat) × vS)) (v3 : Int32) (s : vS) : Option ((Option Nat) × vS) := (v_bi (f_Sh_twos p1 s) (fun r101 s101 => (if r101.toInt ≤ v3.toInt then (k59 s101) else (v_bi (f_Sh_isTwo p1 v3 s101) (fun r103 s103 => (if r103.toInt = 0 then (some (none, s103)) else (v_bi (f_Sh_placeOfTwo p1 v3 s103) (fun r105 s105 => (v_bi (f_Ct_holder r105 (s105.1 8 2) s105) (fun r106 s106 => v_on r106 (v_bi (f_Wd_isBarred p1 v3 none (s106.1 8 2) s106) (fun r110 s110 => (if r110.toInt = 0 then (again (v3 + 1) s110) else (some (none, s110))))) (fun b107 => if v_kd b107 = 4 then (v_bi (f_Wd_isBarred p1 v3 (some b107) (s106.1 8 2) s106) (fun r112 s112 => (if r112.toInt = 0 then (again (v3 + 1) s112) else (some (some b107, s112))))) else none)))))))))))
noncomputable def f_Wd_barring_L2 (p1 : Nat) (k59 : vS → Option ((Option Nat) × vS)) (n : Nat) : Int32 → vS → Option ((Option Nat) × vS) := Nat.rec (motive := fun _ => Int32 → vS → Option ((Option Nat) × vS)) (fun _ _ => none) (fun _ again => f_Wd_barring_L2b p1 k59 again) n
noncomputable def f_Wd_barring (b : Nat) (s : vS) : Option ((Option Nat) × vS) := (f_Wd_barring_L2 b (fun s1 => (some (none, s1))) 4096 0 s)
set_option maxRecDepth 20000 in
set_option maxHeartbeats 4000000 in
theorem t_Wd_barring_L2 {L : Nat} {xs : Nat → Int32} {p1 : Nat} (hp1 : v_kd p1 = 6) {k59 : vS → Option ((Option Nat) × vS)} {D : Nat} (hD : 6 ≤ D) {r : (Option Nat)} {s' : vS} (hk59 : ∀ (s : vS), k59 s = some (r, s') → s_Ek (s_rows 3 L xs) D s_e123.1 59 [] [] (v_mk s) (v_Q (some (v_nu r)) s')) : ∀ (n : Nat) (v3 : Int32) (s : vS), f_Wd_barring_L2 p1 k59 n v3 s = some (r, s') → s_Ek (s_rows 3 L xs) D s_e123.1 2 [(0, .ref 78), (1, .ref p1), (2, .ref 8), (3, .int v3)] [] (v_mk s) (v_Q (some (v_nu r)) s') := by
  intro n
  induction n with
  | zero => intro v3 s h; exact nomatch (show (none : Option ((Option Nat) × vS)) = some (r, s') from h)
  | succ n ih =>
    intro v3 s h
    replace h : f_Wd_barring_L2b p1 k59 (f_Wd_barring_L2 p1 k59 n) v3 s = some (r, s') := h
    unfold f_Wd_barring_L2b at h
    refine s_ek_bk 2 (P := 4) (ls' := [(0, .ref 78), (1, .ref p1), (2, .ref 8), (3, .int v3)]) (st' := [.ref p1, .int v3]) (M' := v_mk s) rfl ?_
    obtain ⟨r101, s101, e101, h⟩ := v_bd h
    refine v_cV (ν := s_e94.1) (w := 752) (a := p1) (as' := []) (r := [.int v3]) (o := some (.int r101)) (by omega) rfl rfl rfl (v_mk_kd (k := 6) hp1 (by decide)) rfl (t_Sh_twos hp1 e101 (by omega)) ?_
    show s_Ek (s_rows 3 L xs) D s_e123.1 7 [(0, .ref 78), (1, .ref p1), (2, .ref 8), (3, .int v3)] [.int r101, .int v3] (v_mk s101) _
    rcases v_if h with ⟨c102, h⟩ | ⟨c102, h⟩
    · refine v_i2t (T := 59) rfl rfl c102 ?_
      refine v_ls (ls' := []) trivial (show ([] : List Nat).Nodup from by decide) ?_
      exact hk59 _ h
    · refine v_i2f (T := 59) rfl rfl c102 ?_
      refine s_ek_bk 2 (P := 12) (ls' := [(0, .ref 78), (1, .ref p1), (2, .ref 8), (3, .int v3)]) (st' := [.int v3, .ref p1]) (M' := v_mk s101) rfl ?_
      obtain ⟨r103, s103, e103, h⟩ := v_bd h
      refine v_cV (ν := s_e95.1) (w := 761) (a := p1) (as' := [.int v3]) (r := []) (o := some (.int r103)) (by omega) rfl rfl rfl (v_mk_kd (k := 6) hp1 (by decide)) rfl (t_Sh_isTwo hp1 e103 (by omega)) ?_
      show s_Ek (s_rows 3 L xs) D s_e123.1 15 [(0, .ref 78), (1, .ref p1), (2, .ref 8), (3, .int v3)] [.int r103] (v_mk s103) _
      rcases v_if h with ⟨c104, h⟩ | ⟨c104, h⟩
      · refine v_i1f (T := 20) rfl rfl (fun q => q c104) ?_
        refine s_ek_bk 1 (P := 19) (ls' := [(0, .ref 78), (1, .ref p1), (2, .ref 8), (3, .int v3)]) (st' := [.null]) (M' := v_mk s103) rfl ?_
        obtain ⟨rfl, rfl⟩ := v_so h
        exact v_ret (fun _ => rfl)
      · refine v_i1t (T := 20) rfl rfl c104 ?_
        refine s_ek_bk 3 (P := 23) (ls' := [(0, .ref 78), (1, .ref p1), (2, .ref 8), (3, .int v3)]) (st' := [.int v3, .ref p1, .ref 8]) (M' := v_mk s103) rfl ?_
        obtain ⟨r105, s105, e105, h⟩ := v_bd h
        refine v_cV (ν := s_e97.1) (w := 777) (a := p1) (as' := [.int v3]) (r := [.ref 8]) (o := some (.int r105)) (by omega) rfl rfl rfl (v_mk_kd (k := 6) hp1 (by decide)) rfl (t_Sh_placeOfTwo hp1 e105 (by omega)) ?_
        show s_Ek (s_rows 3 L xs) D s_e123.1 26 [(0, .ref 78), (1, .ref p1), (2, .ref 8), (3, .int v3)] [.int r105, .ref 8] (v_mk s105) _
        refine s_ek_bk 1 (P := 27) (ls' := [(0, .ref 78), (1, .ref p1), (2, .ref 8), (3, .int v3)]) (st' := [.ref 8, .int r105, .ref 8]) (M' := v_mk s105) rfl ?_
        refine v_gf rfl (v_gi (rfl : v_kd 8 = 3) rfl ⟨rfl, rfl, by decide⟩) ?_
        obtain ⟨r106, s106, e106, h⟩ := v_bd h
        refine v_cV (ν := s_e52.1) (w := 418) (a := 8) (as' := [.int r105, .int (s105.1 8 2)]) (r := []) (o := some (v_nu r106)) (by omega) rfl rfl rfl (v_mk_kd (k := 3) (rfl : v_kd 8 = 3) (by decide)) rfl (t_Ct_holder e106 (by omega)) ?_
        rcases v_od h with ⟨rfl, hz109⟩ | ⟨b107, rfl, hz109⟩
        · have h := hz109
          show s_Ek (s_rows 3 L xs) D s_e123.1 33 [(0, .ref 78), (1, .ref p1), (2, .ref 8), (3, .int v3)] [.null] (v_mk s106) _
          refine s_ek_bk 6 (P := 41) (ls' := [(4, .null), (0, .ref 78), (1, .ref p1), (2, .ref 8), (3, .int v3)]) (st' := [.ref 8, .null, .int v3, .ref p1, .ref 78]) (M' := v_mk s106) rfl ?_
          refine v_gf rfl (v_gi (rfl : v_kd 8 = 3) rfl ⟨rfl, rfl, by decide⟩) ?_
          obtain ⟨r110, s110, e110, h⟩ := v_bd h
          refine v_cV (ν := s_e124.1) (w := 996) (a := 78) (as' := [.ref p1, .int v3, .null, .int (s106.1 8 2)]) (r := []) (o := some (.int r110)) (by omega) rfl rfl rfl (v_mk_kd (k := 8) (rfl : v_kd 78 = 8) (by decide)) rfl (t_Wd_isBarred hp1 e110 (by omega)) ?_
          show s_Ek (s_rows 3 L xs) D s_e123.1 47 [(4, .null), (0, .ref 78), (1, .ref p1), (2, .ref 8), (3, .int v3)] [.int r110] (v_mk s110) _
          rcases v_if h with ⟨c111, h⟩ | ⟨c111, h⟩
          · refine v_i1t (T := 53) rfl rfl c111 ?_
            refine s_ek_bk 2 (P := 2) (ls' := [(3, .int (v3 + 1)), (4, .null), (0, .ref 78), (1, .ref p1), (2, .ref 8)]) (st' := []) (M' := v_mk s110) rfl ?_
            refine v_ls (ls' := [(0, .ref 78), (1, .ref p1), (2, .ref 8), (3, .int (v3 + 1))]) ⟨rfl, rfl, rfl, rfl, trivial⟩ (show ([0, 1, 2, 3] : List Nat).Nodup from by decide) ?_
            exact ih _ _ h
          · refine v_i1f (T := 53) rfl rfl c111 ?_
            refine s_ek_bk 1 (P := 52) (ls' := [(4, .null), (0, .ref 78), (1, .ref p1), (2, .ref 8), (3, .int v3)]) (st' := [.null]) (M' := v_mk s110) rfl ?_
            obtain ⟨rfl, rfl⟩ := v_so h
            exact v_ret (fun _ => rfl)
        · have h := hz109
          obtain ⟨c108, h⟩ := v_ck h
          show s_Ek (s_rows 3 L xs) D s_e123.1 33 [(0, .ref 78), (1, .ref p1), (2, .ref 8), (3, .int v3)] [.ref b107] (v_mk s106) _
          refine s_ek_bk 6 (P := 41) (ls' := [(4, .ref b107), (0, .ref 78), (1, .ref p1), (2, .ref 8), (3, .int v3)]) (st' := [.ref 8, .ref b107, .int v3, .ref p1, .ref 78]) (M' := v_mk s106) rfl ?_
          refine v_gf rfl (v_gi (rfl : v_kd 8 = 3) rfl ⟨rfl, rfl, by decide⟩) ?_
          obtain ⟨r112, s112, e112, h⟩ := v_bd h
          refine v_cV (ν := s_e124.1) (w := 996) (a := 78) (as' := [.ref p1, .int v3, .ref b107, .int (s106.1 8 2)]) (r := []) (o := some (.int r112)) (by omega) rfl rfl rfl (v_mk_kd (k := 8) (rfl : v_kd 78 = 8) (by decide)) rfl (t_Wd_isBarred hp1 e112 (by omega)) ?_
          show s_Ek (s_rows 3 L xs) D s_e123.1 47 [(4, .ref b107), (0, .ref 78), (1, .ref p1), (2, .ref 8), (3, .int v3)] [.int r112] (v_mk s112) _
          rcases v_if h with ⟨c113, h⟩ | ⟨c113, h⟩
          · refine v_i1t (T := 53) rfl rfl c113 ?_
            refine s_ek_bk 2 (P := 2) (ls' := [(3, .int (v3 + 1)), (4, .ref b107), (0, .ref 78), (1, .ref p1), (2, .ref 8)]) (st' := []) (M' := v_mk s112) rfl ?_
            refine v_ls (ls' := [(0, .ref 78), (1, .ref p1), (2, .ref 8), (3, .int (v3 + 1))]) ⟨rfl, rfl, rfl, rfl, trivial⟩ (show ([0, 1, 2, 3] : List Nat).Nodup from by decide) ?_
            exact ih _ _ h
          · refine v_i1f (T := 53) rfl rfl c113 ?_
            refine s_ek_bk 1 (P := 52) (ls' := [(4, .ref b107), (0, .ref 78), (1, .ref p1), (2, .ref 8), (3, .int v3)]) (st' := [.ref b107]) (M' := v_mk s112) rfl ?_
            obtain ⟨rfl, rfl⟩ := v_so h
            exact v_ret (fun _ => rfl)
set_option maxRecDepth 20000 in
set_option maxHeartbeats 4000000 in
theorem t_Wd_barring {L : Nat} {xs : Nat → Int32} {b : Nat} (hb : v_kd b = 6) {D : Nat} {r : (Option Nat)} {s s' : vS} (h : f_Wd_barring b s = some (r, s')) (hD : 6 ≤ D) : s_Ek (s_rows 3 L xs) D s_e123.1 0 (lv_args 0 [.ref 78, .ref b, .ref 8]) [] (v_mk s) (v_Q (some (v_nu r)) s') := by
  unfold f_Wd_barring at h
  show s_Ek (s_rows 3 L xs) D s_e123.1 0 [(0, .ref 78), (1, .ref b), (2, .ref 8)] [] (v_mk s) _
  refine s_ek_bk 2 (P := 2) (ls' := [(3, .int 0), (0, .ref 78), (1, .ref b), (2, .ref 8)]) (st' := []) (M' := v_mk s) rfl ?_
  refine v_ls (ls' := [(0, .ref 78), (1, .ref b), (2, .ref 8), (3, .int 0)]) ⟨rfl, rfl, rfl, rfl, trivial⟩ (show ([0, 1, 2, 3] : List Nat).Nodup from by decide) ?_
  refine t_Wd_barring_L2 hb (by omega) (fun s1 h => ?_) 4096 _ _ h
  show s_Ek (s_rows 3 L xs) D s_e123.1 59 [] [] (v_mk s1) _
  refine s_ek_bk 1 (P := 60) (ls' := []) (st' := [.null]) (M' := v_mk s1) rfl ?_
  obtain ⟨rfl, rfl⟩ := v_so h
  exact v_ret (fun _ => rfl)
noncomputable def f_Ws_move (b : Int32) (c : Int32) (d : Int32) (s : vS) : Option (Unit × vS) := (if b.toInt < 0 then (some ((), s)) else (if 3 ≤ b.toInt then (some ((), s)) else (if v_in b 3 then (v_let (v_w1 s 10 (Int32.toNatClampNeg b) c) (fun s4 => (if v_in b 3 then (v_let (v_w1 s4 11 (Int32.toNatClampNeg b) d) (fun s6 => (some ((), s6)))) else none))) else none)))
set_option maxRecDepth 20000 in
set_option maxHeartbeats 4000000 in
theorem t_Ws_move {L : Nat} {xs : Nat → Int32} {b : Int32} {c : Int32} {d : Int32} {D : Nat} {r : Unit} {s s' : vS} (h : f_Ws_move b c d s = some (r, s')) (hD : 0 ≤ D) : s_Ek (s_rows 3 L xs) D s_e127.1 0 (lv_args 0 [.ref 9, .int b, .int c, .int d]) [] (v_mk s) (v_Q none s') := by
  unfold f_Ws_move at h
  show s_Ek (s_rows 3 L xs) D s_e127.1 0 [(0, .ref 9), (1, .int b), (2, .int c), (3, .int d)] [] (v_mk s) _
  refine s_ek_bk 1 (P := 1) (ls' := [(0, .ref 9), (1, .int b), (2, .int c), (3, .int d)]) (st' := [.int b]) (M' := v_mk s) rfl ?_
  rcases v_if h with ⟨c1, h⟩ | ⟨c1, h⟩
  · refine v_i1t (T := 23) rfl rfl c1 ?_
    obtain ⟨rfl, rfl⟩ := v_so h
    exact v_ret (fun _ => rfl)
  · refine v_i1f (T := 23) rfl rfl c1 ?_
    refine s_ek_bk 2 (P := 6) (ls' := [(0, .ref 9), (1, .int b), (2, .int c), (3, .int d)]) (st' := [.int 3, .int b]) (M' := v_mk s) rfl ?_
    rcases v_if h with ⟨c2, h⟩ | ⟨c2, h⟩
    · refine v_i2t (T := 23) rfl rfl c2 ?_
      obtain ⟨rfl, rfl⟩ := v_so h
      exact v_ret (fun _ => rfl)
    · refine v_i2f (T := 23) rfl rfl c2 ?_
      refine s_ek_bk 1 (P := 10) (ls' := [(0, .ref 9), (1, .int b), (2, .int c), (3, .int d)]) (st' := [.ref 9]) (M' := v_mk s) rfl ?_
      refine v_gf rfl (v_gr (rfl : v_kd 9 = 9) (rfl : v_sl 9 0 = .ref 10) ⟨rfl, rfl, by decide⟩) ?_
      refine s_ek_bk 2 (P := 15) (ls' := [(0, .ref 9), (1, .int b), (2, .int c), (3, .int d)]) (st' := [.int c, .int b, .ref 10]) (M' := v_mk s) rfl ?_
      obtain ⟨c3, h⟩ := v_ck h
      obtain ⟨s4, es4, h⟩ := v_ld h
      refine v_ist (M' := v_mk s4) (i := b) rfl (by rw [es4]; exact v_pai (rfl : v_kd 10 = 13) rfl (by decide) v_all13 (v_cn (rfl : v_ln 10 = 3) c3)) ?_
      refine s_ek_bk 1 (P := 17) (ls' := [(0, .ref 9), (1, .int b), (2, .int c), (3, .int d)]) (st' := [.ref 9]) (M' := v_mk s4) rfl ?_
      refine v_gf rfl (v_gr (rfl : v_kd 9 = 9) (rfl : v_sl 9 1 = .ref 11) ⟨rfl, rfl, by decide⟩) ?_
      refine s_ek_bk 2 (P := 22) (ls' := [(0, .ref 9), (1, .int b), (2, .int c), (3, .int d)]) (st' := [.int d, .int b, .ref 11]) (M' := v_mk s4) rfl ?_
      obtain ⟨c5, h⟩ := v_ck h
      obtain ⟨s6, es6, h⟩ := v_ld h
      refine v_ist (M' := v_mk s6) (i := b) rfl (by rw [es6]; exact v_pai (rfl : v_kd 11 = 13) rfl (by decide) v_all13 (v_cn (rfl : v_ln 11 = 3) c5)) ?_
      obtain ⟨rfl, rfl⟩ := v_so h
      exact v_ret (fun _ => rfl)
noncomputable def f_Ws_draw (s : vS) : Option (Unit × vS) := (if v_cok (0 : Int32) (0 : Int32) (3 : Int32) 3 3 then (v_let (v_cp1 s 10 0 12 0 3) (fun s2 => (if v_cok (0 : Int32) (0 : Int32) (3 : Int32) 3 3 then (v_let (v_cp1 s2 11 0 13 0 3) (fun s4 => (some ((), s4)))) else none))) else none)
set_option maxRecDepth 20000 in
set_option maxHeartbeats 4000000 in
theorem t_Ws_draw {L : Nat} {xs : Nat → Int32} {D : Nat} {r : Unit} {s s' : vS} (h : f_Ws_draw s = some (r, s')) (hD : 1 ≤ D) : s_Ek (s_rows 3 L xs) D s_e131.1 0 (lv_args 0 [.ref 9]) [] (v_mk s) (v_Q none s') := by
  unfold f_Ws_draw at h
  show s_Ek (s_rows 3 L xs) D s_e131.1 0 [(0, .ref 9)] [] (v_mk s) _
  refine s_ek_bk 1 (P := 1) (ls' := [(0, .ref 9)]) (st' := [.ref 9]) (M' := v_mk s) rfl ?_
  refine v_gf rfl (v_gr (rfl : v_kd 9 = 9) (rfl : v_sl 9 0 = .ref 10) ⟨rfl, rfl, by decide⟩) ?_
  refine s_ek_bk 2 (P := 6) (ls' := [(0, .ref 9)]) (st' := [.ref 9, .int 0, .ref 10]) (M' := v_mk s) rfl ?_
  refine v_gf rfl (v_gr (rfl : v_kd 9 = 9) (rfl : v_sl 9 2 = .ref 12) ⟨rfl, rfl, by decide⟩) ?_
  refine s_ek_bk 2 (P := 11) (ls' := [(0, .ref 9)]) (st' := [.int 3, .int 0, .ref 12, .int 0, .ref 10]) (M' := v_mk s) rfl ?_
  obtain ⟨c1, h⟩ := v_ck h
  obtain ⟨s2, es2, h⟩ := v_ld h
  refine v_acp (by omega) (M2 := v_mk s2) (r := []) rfl (by rw [es2]; exact v_ac1 (rfl : v_kd 10 = 13) (rfl : v_kd 12 = 13) (v_ckn (rfl : v_ln 10 = 3) (rfl : v_ln 12 = 3) c1) rfl) v_keep ?_
  refine s_ek_bk 1 (P := 15) (ls' := [(0, .ref 9)]) (st' := [.ref 9]) (M' := v_mk s2) rfl ?_
  refine v_gf rfl (v_gr (rfl : v_kd 9 = 9) (rfl : v_sl 9 1 = .ref 11) ⟨rfl, rfl, by decide⟩) ?_
  refine s_ek_bk 2 (P := 20) (ls' := [(0, .ref 9)]) (st' := [.ref 9, .int 0, .ref 11]) (M' := v_mk s2) rfl ?_
  refine v_gf rfl (v_gr (rfl : v_kd 9 = 9) (rfl : v_sl 9 3 = .ref 13) ⟨rfl, rfl, by decide⟩) ?_
  refine s_ek_bk 2 (P := 25) (ls' := [(0, .ref 9)]) (st' := [.int 3, .int 0, .ref 13, .int 0, .ref 11]) (M' := v_mk s2) rfl ?_
  obtain ⟨c3, h⟩ := v_ck h
  obtain ⟨s4, es4, h⟩ := v_ld h
  refine v_acp (by omega) (M2 := v_mk s4) (r := []) rfl (by rw [es4]; exact v_ac1 (rfl : v_kd 11 = 13) (rfl : v_kd 13 = 13) (v_ckn (rfl : v_ln 11 = 3) (rfl : v_ln 13 = 3) c3) rfl) v_keep ?_
  obtain ⟨rfl, rfl⟩ := v_so h
  exact v_ret (fun _ => rfl)
noncomputable def f_Ws_restore (s : vS) : Option (Unit × vS) := (if v_cok (0 : Int32) (0 : Int32) (3 : Int32) 3 3 then (v_let (v_cp1 s 12 0 10 0 3) (fun s2 => (if v_cok (0 : Int32) (0 : Int32) (3 : Int32) 3 3 then (v_let (v_cp1 s2 13 0 11 0 3) (fun s4 => (some ((), s4)))) else none))) else none)
set_option maxRecDepth 20000 in
set_option maxHeartbeats 4000000 in
theorem t_Ws_restore {L : Nat} {xs : Nat → Int32} {D : Nat} {r : Unit} {s s' : vS} (h : f_Ws_restore s = some (r, s')) (hD : 1 ≤ D) : s_Ek (s_rows 3 L xs) D s_e132.1 0 (lv_args 0 [.ref 9]) [] (v_mk s) (v_Q none s') := by
  unfold f_Ws_restore at h
  show s_Ek (s_rows 3 L xs) D s_e132.1 0 [(0, .ref 9)] [] (v_mk s) _
  refine s_ek_bk 1 (P := 1) (ls' := [(0, .ref 9)]) (st' := [.ref 9]) (M' := v_mk s) rfl ?_
  refine v_gf rfl (v_gr (rfl : v_kd 9 = 9) (rfl : v_sl 9 2 = .ref 12) ⟨rfl, rfl, by decide⟩) ?_
  refine s_ek_bk 2 (P := 6) (ls' := [(0, .ref 9)]) (st' := [.ref 9, .int 0, .ref 12]) (M' := v_mk s) rfl ?_
  refine v_gf rfl (v_gr (rfl : v_kd 9 = 9) (rfl : v_sl 9 0 = .ref 10) ⟨rfl, rfl, by decide⟩) ?_
  refine s_ek_bk 2 (P := 11) (ls' := [(0, .ref 9)]) (st' := [.int 3, .int 0, .ref 10, .int 0, .ref 12]) (M' := v_mk s) rfl ?_
  obtain ⟨c1, h⟩ := v_ck h
  obtain ⟨s2, es2, h⟩ := v_ld h
  refine v_acp (by omega) (M2 := v_mk s2) (r := []) rfl (by rw [es2]; exact v_ac1 (rfl : v_kd 12 = 13) (rfl : v_kd 10 = 13) (v_ckn (rfl : v_ln 12 = 3) (rfl : v_ln 10 = 3) c1) rfl) v_keep ?_
  refine s_ek_bk 1 (P := 15) (ls' := [(0, .ref 9)]) (st' := [.ref 9]) (M' := v_mk s2) rfl ?_
  refine v_gf rfl (v_gr (rfl : v_kd 9 = 9) (rfl : v_sl 9 3 = .ref 13) ⟨rfl, rfl, by decide⟩) ?_
  refine s_ek_bk 2 (P := 20) (ls' := [(0, .ref 9)]) (st' := [.ref 9, .int 0, .ref 13]) (M' := v_mk s2) rfl ?_
  refine v_gf rfl (v_gr (rfl : v_kd 9 = 9) (rfl : v_sl 9 1 = .ref 11) ⟨rfl, rfl, by decide⟩) ?_
  refine s_ek_bk 2 (P := 25) (ls' := [(0, .ref 9)]) (st' := [.int 3, .int 0, .ref 11, .int 0, .ref 13]) (M' := v_mk s2) rfl ?_
  obtain ⟨c3, h⟩ := v_ck h
  obtain ⟨s4, es4, h⟩ := v_ld h
  refine v_acp (by omega) (M2 := v_mk s4) (r := []) rfl (by rw [es4]; exact v_ac1 (rfl : v_kd 13 = 13) (rfl : v_kd 11 = 13) (v_ckn (rfl : v_ln 13 = 3) (rfl : v_ln 11 = 3) c3) rfl) v_keep ?_
  obtain ⟨rfl, rfl⟩ := v_so h
  exact v_ret (fun _ => rfl)
noncomputable def f_Ol_feed (b : Int32) (s : vS) : Option (Int32 × vS) := (if b.toInt < 0 then (some ((-1), s)) else (if b.toInt ≤ 255 then (if (s.1 0 1).toInt < 0 then (some ((-3), s)) else (if (s.1 0 1).toInt < 60 then (if v_in (s.1 0 1) 60 then (v_let (v_w1 s 1 (Int32.toNatClampNeg (s.1 0 1)) b) (fun s6 => (v_let (v_w1 s6 0 1 ((s6.1 0 1) + (1 : Int32))) (fun s7 => (some ((s7.1 0 1), s7)))))) else none) else (some ((-3), s)))) else (some ((-1), s))))
set_option maxRecDepth 20000 in
set_option maxHeartbeats 4000000 in
theorem t_Ol_feed {L : Nat} {xs : Nat → Int32} {b : Int32} {D : Nat} {r : Int32} {s s' : vS} (h : f_Ol_feed b s = some (r, s')) (hD : 0 ≤ D) : s_Ek (s_rows 3 L xs) D s_e134.1 0 (lv_args 0 [.ref 0, .int b]) [] (v_mk s) (v_Q (some (.int r)) s') := by
  unfold f_Ol_feed at h
  show s_Ek (s_rows 3 L xs) D s_e134.1 0 [(0, .ref 0), (1, .int b)] [] (v_mk s) _
  refine s_ek_bk 1 (P := 1) (ls' := [(0, .ref 0), (1, .int b)]) (st' := [.int b]) (M' := v_mk s) rfl ?_
  rcases v_if h with ⟨c1, h⟩ | ⟨c1, h⟩
  · refine v_i1t (T := 11) rfl rfl c1 ?_
    refine s_ek_bk 1 (P := 12) (ls' := [(0, .ref 0), (1, .int b)]) (st' := [.int (-1)]) (M' := v_mk s) rfl ?_
    obtain ⟨rfl, rfl⟩ := v_so h
    exact v_ret (fun _ => rfl)
  · refine v_i1f (T := 11) rfl rfl c1 ?_
    refine s_ek_bk 2 (P := 8) (ls' := [(0, .ref 0), (1, .int b)]) (st' := [.int 255, .int b]) (M' := v_mk s) rfl ?_
    rcases v_if h with ⟨c2, h⟩ | ⟨c2, h⟩
    · refine v_i2t (T := 13) rfl rfl c2 ?_
      refine s_ek_bk 1 (P := 14) (ls' := [(0, .ref 0), (1, .int b)]) (st' := [.ref 0]) (M' := v_mk s) rfl ?_
      refine v_gf rfl (v_gi (rfl : v_kd 0 = 10) rfl ⟨rfl, rfl, by decide⟩) ?_
      rcases v_if h with ⟨c3, h⟩ | ⟨c3, h⟩
      · refine v_i1t (T := 32) rfl rfl c3 ?_
        refine s_ek_bk 1 (P := 34) (ls' := [(0, .ref 0), (1, .int b)]) (st' := [.int (-3)]) (M' := v_mk s) rfl ?_
        obtain ⟨rfl, rfl⟩ := v_so h
        exact v_ret (fun _ => rfl)
      · refine v_i1f (T := 32) rfl rfl c3 ?_
        refine s_ek_bk 1 (P := 21) (ls' := [(0, .ref 0), (1, .int b)]) (st' := [.ref 0]) (M' := v_mk s) rfl ?_
        refine v_gf rfl (v_gi (rfl : v_kd 0 = 10) rfl ⟨rfl, rfl, by decide⟩) ?_
        refine s_ek_bk 1 (P := 25) (ls' := [(0, .ref 0), (1, .int b)]) (st' := [.ref 0, .int (s.1 0 1)]) (M' := v_mk s) rfl ?_
        refine v_gf rfl (v_gr (rfl : v_kd 0 = 10) (rfl : v_sl 0 0 = .ref 1) ⟨rfl, rfl, by decide⟩) ?_
        refine v_alen (x := 60) rfl (by rw [v_len (rfl : v_kd 1 = 13) (by decide), (rfl : v_ln 1 = 60)]; rfl) ?_
        rcases v_if h with ⟨c4, h⟩ | ⟨c4, h⟩
        · refine v_i2t (T := 35) rfl rfl c4 ?_
          refine s_ek_bk 1 (P := 36) (ls' := [(0, .ref 0), (1, .int b)]) (st' := [.ref 0]) (M' := v_mk s) rfl ?_
          refine v_gf rfl (v_gr (rfl : v_kd 0 = 10) (rfl : v_sl 0 0 = .ref 1) ⟨rfl, rfl, by decide⟩) ?_
          refine s_ek_bk 1 (P := 40) (ls' := [(0, .ref 0), (1, .int b)]) (st' := [.ref 0, .ref 1]) (M' := v_mk s) rfl ?_
          refine v_gf rfl (v_gi (rfl : v_kd 0 = 10) rfl ⟨rfl, rfl, by decide⟩) ?_
          refine s_ek_bk 1 (P := 44) (ls' := [(0, .ref 0), (1, .int b)]) (st' := [.int b, .int (s.1 0 1), .ref 1]) (M' := v_mk s) rfl ?_
          obtain ⟨c5, h⟩ := v_ck h
          obtain ⟨s6, es6, h⟩ := v_ld h
          refine v_ist (M' := v_mk s6) (i := (s.1 0 1)) rfl (by rw [es6]; exact v_pai (rfl : v_kd 1 = 13) rfl (by decide) v_all13 (v_cn (rfl : v_ln 1 = 60) c5)) ?_
          refine s_ek_bk 2 (P := 47) (ls' := [(0, .ref 0), (1, .int b)]) (st' := [.ref 0, .ref 0]) (M' := v_mk s6) rfl ?_
          refine v_gf rfl (v_gi (rfl : v_kd 0 = 10) rfl ⟨rfl, rfl, by decide⟩) ?_
          refine s_ek_bk 2 (P := 52) (ls' := [(0, .ref 0), (1, .int b)]) (st' := [.int ((s6.1 0 1) + (1 : Int32)), .ref 0]) (M' := v_mk s6) rfl ?_
          obtain ⟨s7, es7, h⟩ := v_ld h
          refine v_pf (M' := v_mk s7) rfl (by rw [es7]; exact v_pi (rfl : v_kd 0 = 10) rfl ⟨rfl, rfl, by decide⟩ rfl) ?_
          refine s_ek_bk 1 (P := 56) (ls' := [(0, .ref 0), (1, .int b)]) (st' := [.ref 0]) (M' := v_mk s7) rfl ?_
          refine v_gf rfl (v_gi (rfl : v_kd 0 = 10) rfl ⟨rfl, rfl, by decide⟩) ?_
          obtain ⟨rfl, rfl⟩ := v_so h
          exact v_ret (fun _ => rfl)
        · refine v_i2f (T := 35) rfl rfl c4 ?_
          refine s_ek_bk 1 (P := 34) (ls' := [(0, .ref 0), (1, .int b)]) (st' := [.int (-3)]) (M' := v_mk s) rfl ?_
          obtain ⟨rfl, rfl⟩ := v_so h
          exact v_ret (fun _ => rfl)
    · refine v_i2f (T := 13) rfl rfl c2 ?_
      refine s_ek_bk 1 (P := 12) (ls' := [(0, .ref 0), (1, .int b)]) (st' := [.int (-1)]) (M' := v_mk s) rfl ?_
      obtain ⟨rfl, rfl⟩ := v_so h
      exact v_ret (fun _ => rfl)
noncomputable def f_Ol_isDate (b : Int32) (s : vS) : Option (Int32 × vS) := (if b.toInt < 0 then (some (0, s)) else (if 99 < b.toInt then (some (0, s)) else (some (1, s))))
set_option maxRecDepth 20000 in
set_option maxHeartbeats 4000000 in
theorem t_Ol_isDate {L : Nat} {xs : Nat → Int32} {b : Int32} {D : Nat} {r : Int32} {s s' : vS} (h : f_Ol_isDate b s = some (r, s')) (hD : 0 ≤ D) : s_Ek (s_rows 3 L xs) D s_e169.1 0 (lv_args 0 [.int b]) [] (v_mk s) (v_Q (some (.int r)) s') := by
  unfold f_Ol_isDate at h
  show s_Ek (s_rows 3 L xs) D s_e169.1 0 [(0, .int b)] [] (v_mk s) _
  refine s_ek_bk 1 (P := 1) (ls' := [(0, .int b)]) (st' := [.int b]) (M' := v_mk s) rfl ?_
  rcases v_if h with ⟨c1, h⟩ | ⟨c1, h⟩
  · refine v_i1t (T := 14) rfl rfl c1 ?_
    refine s_ek_bk 1 (P := 15) (ls' := [(0, .int b)]) (st' := [.int 0]) (M' := v_mk s) rfl ?_
    obtain ⟨rfl, rfl⟩ := v_so h
    exact v_ret (fun _ => rfl)
  · refine v_i1f (T := 14) rfl rfl c1 ?_
    refine s_ek_bk 2 (P := 7) (ls' := [(0, .int b)]) (st' := [.int 99, .int b]) (M' := v_mk s) rfl ?_
    rcases v_if h with ⟨c2, h⟩ | ⟨c2, h⟩
    · refine v_i2t (T := 14) rfl rfl c2 ?_
      refine s_ek_bk 1 (P := 15) (ls' := [(0, .int b)]) (st' := [.int 0]) (M' := v_mk s) rfl ?_
      obtain ⟨rfl, rfl⟩ := v_so h
      exact v_ret (fun _ => rfl)
    · refine v_i2f (T := 14) rfl rfl c2 ?_
      refine s_ek_bk 2 (P := 15) (ls' := [(0, .int b)]) (st' := [.int 1]) (M' := v_mk s) rfl ?_
      obtain ⟨rfl, rfl⟩ := v_so h
      exact v_ret (fun _ => rfl)
