/-! functions over the store, and the runs that they stand for: Ol_unlike Ol_rings Ol_image Ol_back Ol_undo Ol_redo Ol_body Ol_act Ol_trace Ol_keep Ol_row Ol_refusalOfElement Ol_put Ol_element Ol_shift Ol_taken Ol_count Md_in Md_bitsOf Md_feed Md_look Md_faulty -/
noncomputable def f_Ol_unlike_L49b (p1 : Int32) (p2 : Int32) (k96 : vS → Option (Int32 × vS)) (again : Int32 → vS → Option (Int32 × vS)) (v3 : Int32) (s : vS) : Option (Int32 × vS) := (if 125 ≤ v3.toInt then (k96 s) else (v_bi (f_Ct_verdictIn v3 (p1 / (10 : Int32)) s) (fun r111 s111 => (v_bi (f_Ct_verdictIn v3 (p1 - p1 / (10 : Int32) * (10 : Int32)) s111) (fun r112 s112 => (if r111.toInt = r112.toInt then (again (v3 + 1) s112) else (v_bi (f_Cs_add 138 v3 s112) (fun _ s114 => (again (v3 + 1) s114)))))))))
noncomputable def f_Ol_unlike_L49 (p1 : Int32) (p2 : Int32) (k96 : vS → Option (Int32 × vS)) (n : Nat) : Int32 → vS → Option (Int32 × vS) := Nat.rec (motive := fun _ => Int32 → vS → Option (Int32 × vS)) (fun _ _ => none) (fun _ again => f_Ol_unlike_L49b p1 p2 k96 again) n
noncomputable def f_Ol_unlike (b : Int32) (c : Int32) (s : vS) : Option (Int32 × vS) := (if b.toInt < 0 then (some ((-1), s)) else (v_bi (f_Ol_isRule (b / (10 : Int32)) s) (fun r2 s2 => (if r2.toInt = 0 then (some ((-1), s2)) else (v_bi (f_Ol_isRule (b - b / (10 : Int32) * (10 : Int32)) s2) (fun r4 s4 => (if r4.toInt = 0 then (some ((-1), s4)) else (v_bi (f_Ol_isEither c s4) (fun r6 s6 => (if r6.toInt = 0 then (some ((-1), s6)) else (v_bi (f_Ct_hear s6) (fun _ s8 => (v_bi (f_Cs_clear 138 s8) (fun _ s9 => (f_Ol_unlike_L49 b c (fun s10 => (if c.toInt = 0 then (v_bi (f_Cs_size 138 s10) (fun r12 s12 => (some (r12, s12)))) else (v_bi (f_Cs_first 138 s10) (fun r13 s13 => (some (r13, s13)))))) 4096 0 s9)))))))))))))))
set_option maxRecDepth 20000 in
set_option maxHeartbeats 4000000 in
theorem t_Ol_unlike_L49 {L : Nat} {xs : Nat → Int32} {p1 : Int32} {p2 : Int32} {k96 : vS → Option (Int32 × vS)} {D : Nat} (hD : 6 ≤ D) {r : Int32} {s' : vS} (hk96 : ∀ (s : vS), k96 s = some (r, s') → s_Ek (s_rows 3 L xs) D s_e153.1 96 [(0, .ref 0), (2, .int p2)] [] (v_mk s) (v_Q (some (.int r)) s')) : ∀ (n : Nat) (v3 : Int32) (s : vS), f_Ol_unlike_L49 p1 p2 k96 n v3 s = some (r, s') → s_Ek (s_rows 3 L xs) D s_e153.1 49 [(0, .ref 0), (1, .int p1), (2, .int p2), (3, .int v3)] [] (v_mk s) (v_Q (some (.int r)) s') := by
  intro n
  induction n with
  | zero => intro v3 s h; exact nomatch (show (none : Option (Int32 × vS)) = some (r, s') from h)
  | succ n ih =>
    intro v3 s h
    replace h : f_Ol_unlike_L49b p1 p2 k96 (f_Ol_unlike_L49 p1 p2 k96 n) v3 s = some (r, s') := h
    unfold f_Ol_unlike_L49b at h
    refine s_ek_bk 2 (P := 52) (ls' := [(0, .ref 0), (1, .int p1), (2, .int p2), (3, .int v3)]) (st' := [.int 125, .int v3]) (M' := v_mk s) rfl ?_
    rcases v_if h with ⟨c110, h⟩ | ⟨c110, h⟩
    · refine v_i2t (T := 96) rfl rfl c110 ?_
      refine v_ls (ls' := [(0, .ref 0), (2, .int p2)]) ⟨rfl, rfl, trivial⟩ (show ([0, 2] : List Nat).Nodup from by decide) ?_
      exact hk96 _ h
    · refine v_i2f (T := 96) rfl rfl c110 ?_
      refine s_ek_bk 1 (P := 56) (ls' := [(0, .ref 0), (1, .int p1), (2, .int p2), (3, .int v3)]) (st' := [.ref 0]) (M' := v_mk s) rfl ?_
      refine v_gf rfl (v_gr (rfl : v_kd 0 = 10) (rfl : v_sl 0 4 = .ref 8) ⟨rfl, rfl, by decide⟩) ?_
      refine s_ek_bk 4 (P := 64) (ls' := [(0, .ref 0), (1, .int p1), (2, .int p2), (3, .int v3)]) (st' := [.int (p1 / (10 : Int32)), .int v3, .ref 8]) (M' := v_mk s) rfl ?_
      obtain ⟨r111, s111, e111, h⟩ := v_bd h
      refine v_cV (ν := s_e53.1) (w := 426) (a := 8) (as' := [.int v3, .int (p1 / (10 : Int32))]) (r := []) (o := some (.int r111)) (by omega) rfl rfl rfl (v_mk_kd (k := 3) (rfl : v_kd 8 = 3) (by decide)) rfl (t_Ct_verdictIn e111 (by omega)) ?_
      show s_Ek (s_rows 3 L xs) D s_e153.1 67 [(0, .ref 0), (1, .int p1), (2, .int p2), (3, .int v3)] [.int r111] (v_mk s111) _
      refine s_ek_bk 1 (P := 68) (ls' := [(0, .ref 0), (1, .int p1), (2, .int p2), (3, .int v3)]) (st' := [.ref 0, .int r111]) (M' := v_mk s111) rfl ?_
      refine v_gf rfl (v_gr (rfl : v_kd 0 = 10) (rfl : v_sl 0 4 = .ref 8) ⟨rfl, rfl, by decide⟩) ?_
      refine s_ek_bk 4 (P := 76) (ls' := [(0, .ref 0), (1, .int p1), (2, .int p2), (3, .int v3)]) (st' := [.int (p1 - p1 / (10 : Int32) * (10 : Int32)), .int v3, .ref 8, .int r111]) (M' := v_mk s111) rfl ?_
      obtain ⟨r112, s112, e112, h⟩ := v_bd h
      refine v_cV (ν := s_e53.1) (w := 426) (a := 8) (as' := [.int v3, .int (p1 - p1 / (10 : Int32) * (10 : Int32))]) (r := [.int r111]) (o := some (.int r112)) (by omega) rfl rfl rfl (v_mk_kd (k := 3) (rfl : v_kd 8 = 3) (by decide)) rfl (t_Ct_verdictIn e112 (by omega)) ?_
      show s_Ek (s_rows 3 L xs) D s_e153.1 79 [(0, .ref 0), (1, .int p1), (2, .int p2), (3, .int v3)] [.int r112, .int r111] (v_mk s112) _
      rcases v_if h with ⟨c113, h⟩ | ⟨c113, h⟩
      · refine v_i2t (T := 90) rfl rfl c113 ?_
        refine s_ek_bk 2 (P := 49) (ls' := [(3, .int (v3 + 1)), (0, .ref 0), (1, .int p1), (2, .int p2)]) (st' := []) (M' := v_mk s112) rfl ?_
        refine v_ls (ls' := [(0, .ref 0), (1, .int p1), (2, .int p2), (3, .int (v3 + 1))]) ⟨rfl, rfl, rfl, rfl, trivial⟩ (show ([0, 1, 2, 3] : List Nat).Nodup from by decide) ?_
        exact ih _ _ h
      · refine v_i2f (T := 90) rfl rfl c113 ?_
        refine s_ek_bk 1 (P := 83) (ls' := [(0, .ref 0), (1, .int p1), (2, .int p2), (3, .int v3)]) (st' := [.ref 0]) (M' := v_mk s112) rfl ?_
        refine v_gf rfl (v_gr (rfl : v_kd 0 = 10) (rfl : v_sl 0 10 = .ref 138) ⟨rfl, rfl, by decide⟩) ?_
        refine s_ek_bk 1 (P := 87) (ls' := [(0, .ref 0), (1, .int p1), (2, .int p2), (3, .int v3)]) (st' := [.int v3, .ref 138]) (M' := v_mk s112) rfl ?_
        obtain ⟨r114, s114, e114, h⟩ := v_bd h
        refine v_cV (ν := s_e7.1) (w := 57) (a := 138) (as' := [.int v3]) (r := []) (o := none) (by omega) rfl rfl rfl (v_mk_kd (k := 0) (rfl : v_kd 138 = 0) (by decide)) rfl (t_Cs_add (rfl : v_kd 138 = 0) e114 (by omega)) ?_
        show s_Ek (s_rows 3 L xs) D s_e153.1 90 [(0, .ref 0), (1, .int p1), (2, .int p2), (3, .int v3)] [] (v_mk s114) _
        refine s_ek_bk 2 (P := 49) (ls' := [(3, .int (v3 + 1)), (0, .ref 0), (1, .int p1), (2, .int p2)]) (st' := []) (M' := v_mk s114) rfl ?_
        refine v_ls (ls' := [(0, .ref 0), (1, .int p1), (2, .int p2), (3, .int (v3 + 1))]) ⟨rfl, rfl, rfl, rfl, trivial⟩ (show ([0, 1, 2, 3] : List Nat).Nodup from by decide) ?_
        exact ih _ _ h
set_option maxRecDepth 20000 in
set_option maxHeartbeats 4000000 in
theorem t_Ol_unlike {L : Nat} {xs : Nat → Int32} {b : Int32} {c : Int32} {D : Nat} {r : Int32} {s s' : vS} (h : f_Ol_unlike b c s = some (r, s')) (hD : 6 ≤ D) : s_Ek (s_rows 3 L xs) D s_e153.1 0 (lv_args 0 [.ref 0, .int b, .int c]) [] (v_mk s) (v_Q (some (.int r)) s') := by
  unfold f_Ol_unlike at h
  show s_Ek (s_rows 3 L xs) D s_e153.1 0 [(0, .ref 0), (1, .int b), (2, .int c)] [] (v_mk s) _
  refine s_ek_bk 1 (P := 1) (ls' := [(0, .ref 0), (1, .int b), (2, .int c)]) (st' := [.int b]) (M' := v_mk s) rfl ?_
  rcases v_if h with ⟨c1, h⟩ | ⟨c1, h⟩
  · refine v_i1t (T := 31) rfl rfl c1 ?_
    refine s_ek_bk 1 (P := 32) (ls' := [(0, .ref 0), (1, .int b), (2, .int c)]) (st' := [.int (-1)]) (M' := v_mk s) rfl ?_
    obtain ⟨rfl, rfl⟩ := v_so h
    exact v_ret (fun _ => rfl)
  · refine v_i1f (T := 31) rfl rfl c1 ?_
    refine s_ek_bk 3 (P := 8) (ls' := [(0, .ref 0), (1, .int b), (2, .int c)]) (st' := [.int (b / (10 : Int32))]) (M' := v_mk s) rfl ?_
    obtain ⟨r2, s2, e2, h⟩ := v_bd h
    refine v_cS (ν := s_e173.1) (w := 1385) (as := [.int (b / (10 : Int32))]) (r := []) (o := some (.int r2)) (by omega) rfl rfl rfl rfl (t_Ol_isRule e2 (by omega)) ?_
    show s_Ek (s_rows 3 L xs) D s_e153.1 11 [(0, .ref 0), (1, .int b), (2, .int c)] [.int r2] (v_mk s2) _
    rcases v_if h with ⟨c3, h⟩ | ⟨c3, h⟩
    · refine v_i1t (T := 31) rfl rfl c3 ?_
      refine s_ek_bk 1 (P := 32) (ls' := [(0, .ref 0), (1, .int b), (2, .int c)]) (st' := [.int (-1)]) (M' := v_mk s2) rfl ?_
      obtain ⟨rfl, rfl⟩ := v_so h
      exact v_ret (fun _ => rfl)
    · refine v_i1f (T := 31) rfl rfl c3 ?_
      refine s_ek_bk 3 (P := 18) (ls' := [(0, .ref 0), (1, .int b), (2, .int c)]) (st' := [.int (b - b / (10 : Int32) * (10 : Int32))]) (M' := v_mk s2) rfl ?_
      obtain ⟨r4, s4, e4, h⟩ := v_bd h
      refine v_cS (ν := s_e173.1) (w := 1385) (as := [.int (b - b / (10 : Int32) * (10 : Int32))]) (r := []) (o := some (.int r4)) (by omega) rfl rfl rfl rfl (t_Ol_isRule e4 (by omega)) ?_
      show s_Ek (s_rows 3 L xs) D s_e153.1 21 [(0, .ref 0), (1, .int b), (2, .int c)] [.int r4] (v_mk s4) _
      rcases v_if h with ⟨c5, h⟩ | ⟨c5, h⟩
      · refine v_i1t (T := 31) rfl rfl c5 ?_
        refine s_ek_bk 1 (P := 32) (ls' := [(0, .ref 0), (1, .int b), (2, .int c)]) (st' := [.int (-1)]) (M' := v_mk s4) rfl ?_
        obtain ⟨rfl, rfl⟩ := v_so h
        exact v_ret (fun _ => rfl)
      · refine v_i1f (T := 31) rfl rfl c5 ?_
        refine s_ek_bk 1 (P := 25) (ls' := [(0, .ref 0), (1, .int b), (2, .int c)]) (st' := [.int c]) (M' := v_mk s4) rfl ?_
        obtain ⟨r6, s6, e6, h⟩ := v_bd h
        refine v_cS (ν := s_e174.1) (w := 1393) (as := [.int c]) (r := []) (o := some (.int r6)) (by omega) rfl rfl rfl rfl (t_Ol_isEither e6 (by omega)) ?_
        show s_Ek (s_rows 3 L xs) D s_e153.1 28 [(0, .ref 0), (1, .int b), (2, .int c)] [.int r6] (v_mk s6) _
        rcases v_if h with ⟨c7, h⟩ | ⟨c7, h⟩
        · refine v_i1f (T := 33) rfl rfl (fun q => q c7) ?_
          refine s_ek_bk 1 (P := 32) (ls' := [(0, .ref 0), (1, .int b), (2, .int c)]) (st' := [.int (-1)]) (M' := v_mk s6) rfl ?_
          obtain ⟨rfl, rfl⟩ := v_so h
          exact v_ret (fun _ => rfl)
        · refine v_i1t (T := 33) rfl rfl c7 ?_
          refine s_ek_bk 1 (P := 34) (ls' := [(0, .ref 0), (1, .int b), (2, .int c)]) (st' := [.ref 0]) (M' := v_mk s6) rfl ?_
          refine v_gf rfl (v_gr (rfl : v_kd 0 = 10) (rfl : v_sl 0 4 = .ref 8) ⟨rfl, rfl, by decide⟩) ?_
          obtain ⟨r8, s8, e8, h⟩ := v_bd h
          refine v_cV (ν := s_e48.1) (w := 384) (a := 8) (as' := []) (r := []) (o := none) (by omega) rfl rfl rfl (v_mk_kd (k := 3) (rfl : v_kd 8 = 3) (by decide)) rfl (t_Ct_hear e8 (by omega)) ?_
          show s_Ek (s_rows 3 L xs) D s_e153.1 40 [(0, .ref 0), (1, .int b), (2, .int c)] [] (v_mk s8) _
          refine s_ek_bk 1 (P := 41) (ls' := [(0, .ref 0), (1, .int b), (2, .int c)]) (st' := [.ref 0]) (M' := v_mk s8) rfl ?_
          refine v_gf rfl (v_gr (rfl : v_kd 0 = 10) (rfl : v_sl 0 10 = .ref 138) ⟨rfl, rfl, by decide⟩) ?_
          obtain ⟨r9, s9, e9, h⟩ := v_bd h
          refine v_cV (ν := s_e5.1) (w := 40) (a := 138) (as' := []) (r := []) (o := none) (by omega) rfl rfl rfl (v_mk_kd (k := 0) (rfl : v_kd 138 = 0) (by decide)) rfl (t_Cs_clear (rfl : v_kd 138 = 0) e9 (by omega)) ?_
          show s_Ek (s_rows 3 L xs) D s_e153.1 47 [(0, .ref 0), (1, .int b), (2, .int c)] [] (v_mk s9) _
          refine s_ek_bk 2 (P := 49) (ls' := [(3, .int 0), (0, .ref 0), (1, .int b), (2, .int c)]) (st' := []) (M' := v_mk s9) rfl ?_
          refine v_ls (ls' := [(0, .ref 0), (1, .int b), (2, .int c), (3, .int 0)]) ⟨rfl, rfl, rfl, rfl, trivial⟩ (show ([0, 1, 2, 3] : List Nat).Nodup from by decide) ?_
          refine t_Ol_unlike_L49 (by omega) (fun s10 h => ?_) 4096 _ _ h
          show s_Ek (s_rows 3 L xs) D s_e153.1 96 [(0, .ref 0), (2, .int c)] [] (v_mk s10) _
          refine s_ek_bk 1 (P := 97) (ls' := [(0, .ref 0), (2, .int c)]) (st' := [.int c]) (M' := v_mk s10) rfl ?_
          rcases v_if h with ⟨c11, h⟩ | ⟨c11, h⟩
          · refine v_i1f (T := 110) rfl rfl (fun q => q c11) ?_
            refine s_ek_bk 1 (P := 101) (ls' := [(0, .ref 0), (2, .int c)]) (st' := [.ref 0]) (M' := v_mk s10) rfl ?_
            refine v_gf rfl (v_gr (rfl : v_kd 0 = 10) (rfl : v_sl 0 10 = .ref 138) ⟨rfl, rfl, by decide⟩) ?_
            obtain ⟨r12, s12, e12, h⟩ := v_bd h
            refine v_cV (ν := s_e10.1) (w := 80) (a := 138) (as' := []) (r := []) (o := some (.int r12)) (by omega) rfl rfl rfl (v_mk_kd (k := 0) (rfl : v_kd 138 = 0) (by decide)) rfl (t_Cs_size (rfl : v_kd 138 = 0) e12 (by omega)) ?_
            show s_Ek (s_rows 3 L xs) D s_e153.1 107 [(0, .ref 0), (2, .int c)] [.int r12] (v_mk s12) _
            refine s_ek_bk 1 (P := 117) (ls' := [(0, .ref 0), (2, .int c)]) (st' := [.int r12]) (M' := v_mk s12) rfl ?_
            obtain ⟨rfl, rfl⟩ := v_so h
            exact v_ret (fun _ => rfl)
          · refine v_i1t (T := 110) rfl rfl c11 ?_
            refine s_ek_bk 1 (P := 111) (ls' := [(0, .ref 0), (2, .int c)]) (st' := [.ref 0]) (M' := v_mk s10) rfl ?_
            refine v_gf rfl (v_gr (rfl : v_kd 0 = 10) (rfl : v_sl 0 10 = .ref 138) ⟨rfl, rfl, by decide⟩) ?_
            obtain ⟨r13, s13, e13, h⟩ := v_bd h
            refine v_cV (ν := s_e11.1) (w := 88) (a := 138) (as' := []) (r := []) (o := some (.int r13)) (by omega) rfl rfl rfl (v_mk_kd (k := 0) (rfl : v_kd 138 = 0) (by decide)) rfl (t_Cs_first (rfl : v_kd 138 = 0) e13 (by omega)) ?_
            show s_Ek (s_rows 3 L xs) D s_e153.1 117 [(0, .ref 0), (2, .int c)] [.int r13] (v_mk s13) _
            obtain ⟨rfl, rfl⟩ := v_so h
            exact v_ret (fun _ => rfl)
noncomputable def f_Ol_rings_L4b (k38 : Int32 → vS → Option (Int32 × vS)) (again : Int32 → Int32 → vS → Option (Int32 × vS)) (v1 : Int32) (v2 : Int32) (s : vS) : Option (Int32 × vS) := (if (s.1 8 1).toInt ≤ v2.toInt then (k38 v1 s) else (v_bi (f_Ct_comesBack v2 s) (fun r102 s102 => (if r102.toInt = 0 then (again v1 (v2 + 1) s102) else (again (v1 ||| ((1 : Int32) <<< (v2 &&& 31))) (v2 + 1) s102)))))
noncomputable def f_Ol_rings_L4 (k38 : Int32 → vS → Option (Int32 × vS)) (n : Nat) : Int32 → Int32 → vS → Option (Int32 × vS) := Nat.rec (motive := fun _ => Int32 → Int32 → vS → Option (Int32 × vS)) (fun _ _ _ => none) (fun _ again => f_Ol_rings_L4b k38 again) n
noncomputable def f_Ol_rings (s : vS) : Option (Int32 × vS) := (f_Ol_rings_L4 (fun w1 s2 => (some (w1, s2))) 4096 0 0 s)
set_option maxRecDepth 20000 in
set_option maxHeartbeats 4000000 in
theorem t_Ol_rings_L4 {L : Nat} {xs : Nat → Int32} {k38 : Int32 → vS → Option (Int32 × vS)} {D : Nat} (hD : 3 ≤ D) {r : Int32} {s' : vS} (hk38 : ∀ (v1 : Int32) (s : vS), k38 v1 s = some (r, s') → s_Ek (s_rows 3 L xs) D s_e154.1 38 [(1, .int v1)] [] (v_mk s) (v_Q (some (.int r)) s')) : ∀ (n : Nat) (v1 : Int32) (v2 : Int32) (s : vS), f_Ol_rings_L4 k38 n v1 v2 s = some (r, s') → s_Ek (s_rows 3 L xs) D s_e154.1 4 [(0, .ref 0), (1, .int v1), (2, .int v2)] [] (v_mk s) (v_Q (some (.int r)) s') := by
  intro n
  induction n with
  | zero => intro v1 v2 s h; exact nomatch (show (none : Option (Int32 × vS)) = some (r, s') from h)
  | succ n ih =>
    intro v1 v2 s h
    replace h : f_Ol_rings_L4b k38 (f_Ol_rings_L4 k38 n) v1 v2 s = some (r, s') := h
    unfold f_Ol_rings_L4b at h
    refine s_ek_bk 2 (P := 6) (ls' := [(0, .ref 0), (1, .int v1), (2, .int v2)]) (st' := [.ref 0, .int v2]) (M' := v_mk s) rfl ?_
    refine v_gf rfl (v_gr (rfl : v_kd 0 = 10) (rfl : v_sl 0 4 = .ref 8) ⟨rfl, rfl, by decide⟩) ?_
    refine v_gf rfl (v_gi (rfl : v_kd 8 = 3) rfl ⟨rfl, rfl, by decide⟩) ?_
    rcases v_if h with ⟨c101, h⟩ | ⟨c101, h⟩
    · refine v_i2t (T := 38) rfl rfl c101 ?_
      refine v_ls (ls' := [(1, .int v1)]) ⟨rfl, trivial⟩ (show ([1] : List Nat).Nodup from by decide) ?_
      exact hk38 _ _ h
    · refine v_i2f (T := 38) rfl rfl c101 ?_
      refine s_ek_bk 1 (P := 16) (ls' := [(0, .ref 0), (1, .int v1), (2, .int v2)]) (st' := [.ref 0]) (M' := v_mk s) rfl ?_
      refine v_gf rfl (v_gr (rfl : v_kd 0 = 10) (rfl : v_sl 0 4 = .ref 8) ⟨rfl, rfl, by decide⟩) ?_
      refine s_ek_bk 1 (P := 20) (ls' := [(0, .ref 0), (1, .int v1), (2, .int v2)]) (st' := [.int v2, .ref 8]) (M' := v_mk s) rfl ?_
      obtain ⟨r102, s102, e102, h⟩ := v_bd h
      refine v_cV (ν := s_e59.1) (w := 473) (a := 8) (as' := [.int v2]) (r := []) (o := some (.int r102)) (by omega) rfl rfl rfl (v_mk_kd (k := 3) (rfl : v_kd 8 = 3) (by decide)) rfl (t_Ct_comesBack e102 (by omega)) ?_
      show s_Ek (s_rows 3 L xs) D s_e154.1 23 [(0, .ref 0), (1, .int v1), (2, .int v2)] [.int r102] (v_mk s102) _
      rcases v_if h with ⟨c103, h⟩ | ⟨c103, h⟩
      · refine v_i1t (T := 32) rfl rfl c103 ?_
        refine s_ek_bk 2 (P := 4) (ls' := [(2, .int (v2 + 1)), (0, .ref 0), (1, .int v1)]) (st' := []) (M' := v_mk s102) rfl ?_
        refine v_ls (ls' := [(0, .ref 0), (1, .int v1), (2, .int (v2 + 1))]) ⟨rfl, rfl, rfl, trivial⟩ (show ([0, 1, 2] : List Nat).Nodup from by decide) ?_
        exact ih _ _ _ h
      · refine v_i1f (T := 32) rfl rfl c103 ?_
        refine s_ek_bk 8 (P := 4) (ls' := [(2, .int (v2 + 1)), (1, .int (v1 ||| ((1 : Int32) <<< (v2 &&& 31)))), (0, .ref 0)]) (st' := []) (M' := v_mk s102) rfl ?_
        refine v_ls (ls' := [(0, .ref 0), (1, .int (v1 ||| ((1 : Int32) <<< (v2 &&& 31)))), (2, .int (v2 + 1))]) ⟨rfl, rfl, rfl, trivial⟩ (show ([0, 1, 2] : List Nat).Nodup from by decide) ?_
        exact ih _ _ _ h
set_option maxRecDepth 20000 in
set_option maxHeartbeats 4000000 in
theorem t_Ol_rings {L : Nat} {xs : Nat → Int32} {D : Nat} {r : Int32} {s s' : vS} (h : f_Ol_rings s = some (r, s')) (hD : 3 ≤ D) : s_Ek (s_rows 3 L xs) D s_e154.1 0 (lv_args 0 [.ref 0]) [] (v_mk s) (v_Q (some (.int r)) s') := by
  unfold f_Ol_rings at h
  show s_Ek (s_rows 3 L xs) D s_e154.1 0 [(0, .ref 0)] [] (v_mk s) _
  refine s_ek_bk 4 (P := 4) (ls' := [(2, .int 0), (1, .int 0), (0, .ref 0)]) (st' := []) (M' := v_mk s) rfl ?_
  refine v_ls (ls' := [(0, .ref 0), (1, .int 0), (2, .int 0)]) ⟨rfl, rfl, rfl, trivial⟩ (show ([0, 1, 2] : List Nat).Nodup from by decide) ?_
  refine t_Ol_rings_L4 (by omega) (fun w1 s2 h => ?_) 4096 _ _ _ h
  show s_Ek (s_rows 3 L xs) D s_e154.1 38 [(1, .int w1)] [] (v_mk s2) _
  refine s_ek_bk 1 (P := 39) (ls' := [(1, .int w1)]) (st' := [.int w1]) (M' := v_mk s2) rfl ?_
  obtain ⟨rfl, rfl⟩ := v_so h
  exact v_ret (fun _ => rfl)
noncomputable def f_Ol_image_L2b (k30 : vS → Option (Int32 × vS)) (again : Int32 → vS → Option (Int32 × vS)) (v1 : Int32) (s : vS) : Option (Int32 × vS) := (if (s.1 8 1).toInt ≤ v1.toInt then (k30 s) else (v_bi (f_Ct_at v1 s) (fun r102 s102 => if v_kd r102 = 4 then (v_bi (f_Lw_draw r102 s102) (fun _ s104 => (again (v1 + 1) s104))) else none)))
noncomputable def f_Ol_image_L2 (k30 : vS → Option (Int32 × vS)) (n : Nat) : Int32 → vS → Option (Int32 × vS) := Nat.rec (motive := fun _ => Int32 → vS → Option (Int32 × vS)) (fun _ _ => none) (fun _ again => f_Ol_image_L2b k30 again) n
noncomputable def f_Ol_image (s : vS) : Option (Int32 × vS) := (f_Ol_image_L2 (fun s1 => (v_bi (f_Ws_draw s1) (fun _ s2 => (v_let (v_w1 s2 0 11 (s2.1 8 1)) (fun s3 => (some ((s3.1 0 11), s3))))))) 4096 0 s)
set_option maxRecDepth 20000 in
set_option maxHeartbeats 4000000 in
theorem t_Ol_image_L2 {L : Nat} {xs : Nat → Int32} {k30 : vS → Option (Int32 × vS)} {D : Nat} (hD : 2 ≤ D) {r : Int32} {s' : vS} (hk30 : ∀ (s : vS), k30 s = some (r, s') → s_Ek (s_rows 3 L xs) D s_e155.1 30 [(0, .ref 0)] [] (v_mk s) (v_Q (some (.int r)) s')) : ∀ (n : Nat) (v1 : Int32) (s : vS), f_Ol_image_L2 k30 n v1 s = some (r, s') → s_Ek (s_rows 3 L xs) D s_e155.1 2 [(0, .ref 0), (1, .int v1)] [] (v_mk s) (v_Q (some (.int r)) s') := by
  intro n
  induction n with
  | zero => intro v1 s h; exact nomatch (show (none : Option (Int32 × vS)) = some (r, s') from h)
  | succ n ih =>
    intro v1 s h
    replace h : f_Ol_image_L2b k30 (f_Ol_image_L2 k30 n) v1 s = some (r, s') := h
    unfold f_Ol_image_L2b at h
    refine s_ek_bk 2 (P := 4) (ls' := [(0, .ref 0), (1, .int v1)]) (st' := [.ref 0, .int v1]) (M' := v_mk s) rfl ?_
    refine v_gf rfl (v_gr (rfl : v_kd 0 = 10) (rfl : v_sl 0 4 = .ref 8) ⟨rfl, rfl, by decide⟩) ?_
    refine v_gf rfl (v_gi (rfl : v_kd 8 = 3) rfl ⟨rfl, rfl, by decide⟩) ?_
    rcases v_if h with ⟨c101, h⟩ | ⟨c101, h⟩
    · refine v_i2t (T := 30) rfl rfl c101 ?_
      refine v_ls (ls' := [(0, .ref 0)]) ⟨rfl, trivial⟩ (show ([0] : List Nat).Nodup from by decide) ?_
      exact hk30 _ h
    · refine v_i2f (T := 30) rfl rfl c101 ?_
      refine s_ek_bk 1 (P := 14) (ls' := [(0, .ref 0), (1, .int v1)]) (st' := [.ref 0]) (M' := v_mk s) rfl ?_
      refine v_gf rfl (v_gr (rfl : v_kd 0 = 10) (rfl : v_sl 0 4 = .ref 8) ⟨rfl, rfl, by decide⟩) ?_
      refine s_ek_bk 1 (P := 18) (ls' := [(0, .ref 0), (1, .int v1)]) (st' := [.int v1, .ref 8]) (M' := v_mk s) rfl ?_
      obtain ⟨r102, s102, e102, h⟩ := v_bd h
      refine v_cV (ν := s_e41.1) (w := 329) (a := 8) (as' := [.int v1]) (r := []) (o := some (.ref r102)) (by omega) rfl rfl rfl (v_mk_kd (k := 3) (rfl : v_kd 8 = 3) (by decide)) rfl (t_Ct_at e102 (by omega)) ?_
      obtain ⟨c103, h⟩ := v_ck h
      show s_Ek (s_rows 3 L xs) D s_e155.1 21 [(0, .ref 0), (1, .int v1)] [.ref r102] (v_mk s102) _
      obtain ⟨r104, s104, e104, h⟩ := v_bd h
      refine v_cV (ν := s_e65.1) (w := 520) (a := r102) (as' := []) (r := []) (o := none) (by omega) rfl rfl rfl (v_mk_kd (k := 4) c103 (by decide)) rfl (t_Lw_draw c103 e104 (by omega)) ?_
      show s_Ek (s_rows 3 L xs) D s_e155.1 24 [(0, .ref 0), (1, .int v1)] [] (v_mk s104) _
      refine s_ek_bk 2 (P := 2) (ls' := [(1, .int (v1 + 1)), (0, .ref 0)]) (st' := []) (M' := v_mk s104) rfl ?_
      refine v_ls (ls' := [(0, .ref 0), (1, .int (v1 + 1))]) ⟨rfl, rfl, trivial⟩ (show ([0, 1] : List Nat).Nodup from by decide) ?_
      exact ih _ _ h
set_option maxRecDepth 20000 in
set_option maxHeartbeats 4000000 in
theorem t_Ol_image {L : Nat} {xs : Nat → Int32} {D : Nat} {r : Int32} {s s' : vS} (h : f_Ol_image s = some (r, s')) (hD : 2 ≤ D) : s_Ek (s_rows 3 L xs) D s_e155.1 0 (lv_args 0 [.ref 0]) [] (v_mk s) (v_Q (some (.int r)) s') := by
  unfold f_Ol_image at h
  show s_Ek (s_rows 3 L xs) D s_e155.1 0 [(0, .ref 0)] [] (v_mk s) _
  refine s_ek_bk 2 (P := 2) (ls' := [(1, .int 0), (0, .ref 0)]) (st' := []) (M' := v_mk s) rfl ?_
  refine v_ls (ls' := [(0, .ref 0), (1, .int 0)]) ⟨rfl, rfl, trivial⟩ (show ([0, 1] : List Nat).Nodup from by decide) ?_
  refine t_Ol_image_L2 (by omega) (fun s1 h => ?_) 4096 _ _ h
  show s_Ek (s_rows 3 L xs) D s_e155.1 30 [(0, .ref 0)] [] (v_mk s1) _
  refine s_ek_bk 1 (P := 31) (ls' := [(0, .ref 0)]) (st' := [.ref 0]) (M' := v_mk s1) rfl ?_
  refine v_gf rfl (v_gr (rfl : v_kd 0 = 10) (rfl : v_sl 0 4 = .ref 8) ⟨rfl, rfl, by decide⟩) ?_
  refine v_gf rfl (v_gr (rfl : v_kd 8 = 3) (rfl : v_sl 8 0 = .ref 9) ⟨rfl, rfl, by decide⟩) ?_
  obtain ⟨r2, s2, e2, h⟩ := v_bd h
  refine v_cV (ν := s_e131.1) (w := 1048) (a := 9) (as' := []) (r := []) (o := none) (by omega) rfl rfl rfl (v_mk_kd (k := 9) (rfl : v_kd 9 = 9) (by decide)) rfl (t_Ws_draw e2 (by omega)) ?_
  show s_Ek (s_rows 3 L xs) D s_e155.1 40 [(0, .ref 0)] [] (v_mk s2) _
  refine s_ek_bk 2 (P := 42) (ls' := [(0, .ref 0)]) (st' := [.ref 0, .ref 0]) (M' := v_mk s2) rfl ?_
  refine v_gf rfl (v_gr (rfl : v_kd 0 = 10) (rfl : v_sl 0 4 = .ref 8) ⟨rfl, rfl, by decide⟩) ?_
  refine v_gf rfl (v_gi (rfl : v_kd 8 = 3) rfl ⟨rfl, rfl, by decide⟩) ?_
  obtain ⟨s3, es3, h⟩ := v_ld h
  refine v_pf (M' := v_mk s3) rfl (by rw [es3]; exact v_pi (rfl : v_kd 0 = 10) rfl ⟨rfl, rfl, by decide⟩ rfl) ?_
  refine s_ek_bk 1 (P := 52) (ls' := [(0, .ref 0)]) (st' := [.ref 0]) (M' := v_mk s3) rfl ?_
  refine v_gf rfl (v_gi (rfl : v_kd 0 = 10) rfl ⟨rfl, rfl, by decide⟩) ?_
  obtain ⟨rfl, rfl⟩ := v_so h
  exact v_ret (fun _ => rfl)
noncomputable def f_Ol_back_L13b (k38 : vS → Option (Int32 × vS)) (again : Int32 → vS → Option (Int32 × vS)) (v1 : Int32) (s : vS) : Option (Int32 × vS) := (if (s.1 0 11).toInt ≤ v1.toInt then (k38 s) else (v_bi (f_Ct_at v1 s) (fun r103 s103 => if v_kd r103 = 4 then (v_bi (f_Lw_restore r103 s103) (fun _ s105 => (again (v1 + 1) s105))) else none)))
noncomputable def f_Ol_back_L13 (k38 : vS → Option (Int32 × vS)) (n : Nat) : Int32 → vS → Option (Int32 × vS) := Nat.rec (motive := fun _ => Int32 → vS → Option (Int32 × vS)) (fun _ _ => none) (fun _ again => f_Ol_back_L13b k38 again) n
noncomputable def f_Ol_back (s : vS) : Option (Int32 × vS) := (if (s.1 0 11).toInt = (-1) then (some ((-5), s)) else (f_Ol_back_L13 (fun s2 => (v_bi (f_Ws_restore s2) (fun _ s3 => (v_bi (f_Ch_forget s3) (fun _ s4 => (some ((s4.1 0 11), s4))))))) 4096 0 s))
set_option maxRecDepth 20000 in
set_option maxHeartbeats 4000000 in
theorem t_Ol_back_L13 {L : Nat} {xs : Nat → Int32} {k38 : vS → Option (Int32 × vS)} {D : Nat} (hD : 2 ≤ D) {r : Int32} {s' : vS} (hk38 : ∀ (s : vS), k38 s = some (r, s') → s_Ek (s_rows 3 L xs) D s_e156.1 38 [(0, .ref 0)] [] (v_mk s) (v_Q (some (.int r)) s')) : ∀ (n : Nat) (v1 : Int32) (s : vS), f_Ol_back_L13 k38 n v1 s = some (r, s') → s_Ek (s_rows 3 L xs) D s_e156.1 13 [(0, .ref 0), (1, .int v1)] [] (v_mk s) (v_Q (some (.int r)) s') := by
  intro n
  induction n with
  | zero => intro v1 s h; exact nomatch (show (none : Option (Int32 × vS)) = some (r, s') from h)
  | succ n ih =>
    intro v1 s h
    replace h : f_Ol_back_L13b k38 (f_Ol_back_L13 k38 n) v1 s = some (r, s') := h
    unfold f_Ol_back_L13b at h
    refine s_ek_bk 2 (P := 15) (ls' := [(0, .ref 0), (1, .int v1)]) (st' := [.ref 0, .int v1]) (M' := v_mk s) rfl ?_
    refine v_gf rfl (v_gi (rfl : v_kd 0 = 10) rfl ⟨rfl, rfl, by decide⟩) ?_
    rcases v_if h with ⟨c102, h⟩ | ⟨c102, h⟩
    · refine v_i2t (T := 38) rfl rfl c102 ?_
      refine v_ls (ls' := [(0, .ref 0)]) ⟨rfl, trivial⟩ (show ([0] : List Nat).Nodup from by decide) ?_
      exact hk38 _ h
    · refine v_i2f (T := 38) rfl rfl c102 ?_
      refine s_ek_bk 1 (P := 22) (ls' := [(0, .ref 0), (1, .int v1)]) (st' := [.ref 0]) (M' := v_mk s) rfl ?_
      refine v_gf rfl (v_gr (rfl : v_kd 0 = 10) (rfl : v_sl 0 4 = .ref 8) ⟨rfl, rfl, by decide⟩) ?_
      refine s_ek_bk 1 (P := 26) (ls' := [(0, .ref 0), (1, .int v1)]) (st' := [.int v1, .ref 8]) (M' := v_mk s) rfl ?_
      obtain ⟨r103, s103, e103, h⟩ := v_bd h
      refine v_cV (ν := s_e41.1) (w := 329) (a := 8) (as' := [.int v1]) (r := []) (o := some (.ref r103)) (by omega) rfl rfl rfl (v_mk_kd (k := 3) (rfl : v_kd 8 = 3) (by decide)) rfl (t_Ct_at e103 (by omega)) ?_
      obtain ⟨c104, h⟩ := v_ck h
      show s_Ek (s_rows 3 L xs) D s_e156.1 29 [(0, .ref 0), (1, .int v1)] [.ref r103] (v_mk s103) _
      obtain ⟨r105, s105, e105, h⟩ := v_bd h
      refine v_cV (ν := s_e66.1) (w := 528) (a := r103) (as' := []) (r := []) (o := none) (by omega) rfl rfl rfl (v_mk_kd (k := 4) c104 (by decide)) rfl (t_Lw_restore c104 e105 (by omega)) ?_
      show s_Ek (s_rows 3 L xs) D s_e156.1 32 [(0, .ref 0), (1, .int v1)] [] (v_mk s105) _
      refine s_ek_bk 2 (P := 13) (ls' := [(1, .int (v1 + 1)), (0, .ref 0)]) (st' := []) (M' := v_mk s105) rfl ?_
      refine v_ls (ls' := [(0, .ref 0), (1, .int (v1 + 1))]) ⟨rfl, rfl, trivial⟩ (show ([0, 1] : List Nat).Nodup from by decide) ?_
      exact ih _ _ h
set_option maxRecDepth 20000 in
set_option maxHeartbeats 4000000 in
theorem t_Ol_back {L : Nat} {xs : Nat → Int32} {D : Nat} {r : Int32} {s s' : vS} (h : f_Ol_back s = some (r, s')) (hD : 2 ≤ D) : s_Ek (s_rows 3 L xs) D s_e156.1 0 (lv_args 0 [.ref 0]) [] (v_mk s) (v_Q (some (.int r)) s') := by
  unfold f_Ol_back at h
  show s_Ek (s_rows 3 L xs) D s_e156.1 0 [(0, .ref 0)] [] (v_mk s) _
  refine s_ek_bk 1 (P := 1) (ls' := [(0, .ref 0)]) (st' := [.ref 0]) (M' := v_mk s) rfl ?_
  refine v_gf rfl (v_gi (rfl : v_kd 0 = 10) rfl ⟨rfl, rfl, by decide⟩) ?_
  refine s_ek_bk 1 (P := 5) (ls' := [(0, .ref 0)]) (st' := [.int (-1), .int (s.1 0 11)]) (M' := v_mk s) rfl ?_
  rcases v_if h with ⟨c1, h⟩ | ⟨c1, h⟩
  · refine v_i2f (T := 11) rfl rfl (fun q => q c1) ?_
    refine s_ek_bk 1 (P := 10) (ls' := [(0, .ref 0)]) (st' := [.int (-5)]) (M' := v_mk s) rfl ?_
    obtain ⟨rfl, rfl⟩ := v_so h
    exact v_ret (fun _ => rfl)
  · refine v_i2t (T := 11) rfl rfl c1 ?_
    refine s_ek_bk 2 (P := 13) (ls' := [(1, .int 0), (0, .ref 0)]) (st' := []) (M' := v_mk s) rfl ?_
    refine v_ls (ls' := [(0, .ref 0), (1, .int 0)]) ⟨rfl, rfl, trivial⟩ (show ([0, 1] : List Nat).Nodup from by decide) ?_
    refine t_Ol_back_L13 (by omega) (fun s2 h => ?_) 4096 _ _ h
    show s_Ek (s_rows 3 L xs) D s_e156.1 38 [(0, .ref 0)] [] (v_mk s2) _
    refine s_ek_bk 1 (P := 39) (ls' := [(0, .ref 0)]) (st' := [.ref 0]) (M' := v_mk s2) rfl ?_
    refine v_gf rfl (v_gr (rfl : v_kd 0 = 10) (rfl : v_sl 0 4 = .ref 8) ⟨rfl, rfl, by decide⟩) ?_
    refine v_gf rfl (v_gr (rfl : v_kd 8 = 3) (rfl : v_sl 8 0 = .ref 9) ⟨rfl, rfl, by decide⟩) ?_
    obtain ⟨r3, s3, e3, h⟩ := v_bd h
    refine v_cV (ν := s_e132.1) (w := 1056) (a := 9) (as' := []) (r := []) (o := none) (by omega) rfl rfl rfl (v_mk_kd (k := 9) (rfl : v_kd 9 = 9) (by decide)) rfl (t_Ws_restore e3 (by omega)) ?_
    show s_Ek (s_rows 3 L xs) D s_e156.1 48 [(0, .ref 0)] [] (v_mk s3) _
    refine s_ek_bk 1 (P := 49) (ls' := [(0, .ref 0)]) (st' := [.ref 0]) (M' := v_mk s3) rfl ?_
    refine v_gf rfl (v_gr (rfl : v_kd 0 = 10) (rfl : v_sl 0 5 = .ref 73) ⟨rfl, rfl, by decide⟩) ?_
    obtain ⟨r4, s4, e4, h⟩ := v_bd h
    refine v_cV (ν := s_e15.1) (w := 120) (a := 73) (as' := []) (r := []) (o := none) (by omega) rfl rfl rfl (v_mk_kd (k := 1) (rfl : v_kd 73 = 1) (by decide)) rfl (t_Ch_forget e4 (by omega)) ?_
    show s_Ek (s_rows 3 L xs) D s_e156.1 55 [(0, .ref 0)] [] (v_mk s4) _
    refine s_ek_bk 1 (P := 56) (ls' := [(0, .ref 0)]) (st' := [.ref 0]) (M' := v_mk s4) rfl ?_
    refine v_gf rfl (v_gi (rfl : v_kd 0 = 10) rfl ⟨rfl, rfl, by decide⟩) ?_
    obtain ⟨rfl, rfl⟩ := v_so h
    exact v_ret (fun _ => rfl)
noncomputable def f_Ol_undo (s : vS) : Option (Int32 × vS) := (v_bi (f_Ch_latest s) (fun r1 s1 => (if 0 ≤ r1.toInt then (v_bi (f_Ch_number r1 s1) (fun r3 s3 => (v_bi (f_Ch_what r1 s3) (fun r4 s4 => (v_bi (f_Ch_was r1 s4) (fun r5 s5 => (v_bi (f_Ct_set r3 r4 r5 s5) (fun _ s6 => (v_bi (f_Ch_stepBack s6) (fun r7 s7 => (some (r7, s7)))))))))))) else (some ((-5), s1)))))
set_option maxRecDepth 20000 in
set_option maxHeartbeats 4000000 in
theorem t_Ol_undo {L : Nat} {xs : Nat → Int32} {D : Nat} {r : Int32} {s s' : vS} (h : f_Ol_undo s = some (r, s')) (hD : 2 ≤ D) : s_Ek (s_rows 3 L xs) D s_e157.1 0 (lv_args 0 [.ref 0]) [] (v_mk s) (v_Q (some (.int r)) s') := by
  unfold f_Ol_undo at h
  show s_Ek (s_rows 3 L xs) D s_e157.1 0 [(0, .ref 0)] [] (v_mk s) _
  refine s_ek_bk 1 (P := 1) (ls' := [(0, .ref 0)]) (st' := [.ref 0]) (M' := v_mk s) rfl ?_
  refine v_gf rfl (v_gr (rfl : v_kd 0 = 10) (rfl : v_sl 0 5 = .ref 73) ⟨rfl, rfl, by decide⟩) ?_
  obtain ⟨r1, s1, e1, h⟩ := v_bd h
  refine v_cV (ν := s_e16.1) (w := 128) (a := 73) (as' := []) (r := []) (o := some (.int r1)) (by omega) rfl rfl rfl (v_mk_kd (k := 1) (rfl : v_kd 73 = 1) (by decide)) rfl (t_Ch_latest e1 (by omega)) ?_
  show s_Ek (s_rows 3 L xs) D s_e157.1 7 [(0, .ref 0)] [.int r1] (v_mk s1) _
  refine s_ek_bk 2 (P := 9) (ls' := [(1, .int r1), (0, .ref 0)]) (st' := [.int r1]) (M' := v_mk s1) rfl ?_
  rcases v_if h with ⟨c2, h⟩ | ⟨c2, h⟩
  · refine v_i1t (T := 15) rfl rfl c2 ?_
    refine s_ek_bk 1 (P := 16) (ls' := [(1, .int r1), (0, .ref 0)]) (st' := [.ref 0]) (M' := v_mk s1) rfl ?_
    refine v_gf rfl (v_gr (rfl : v_kd 0 = 10) (rfl : v_sl 0 4 = .ref 8) ⟨rfl, rfl, by decide⟩) ?_
    refine s_ek_bk 1 (P := 20) (ls' := [(1, .int r1), (0, .ref 0)]) (st' := [.ref 0, .ref 8]) (M' := v_mk s1) rfl ?_
    refine v_gf rfl (v_gr (rfl : v_kd 0 = 10) (rfl : v_sl 0 5 = .ref 73) ⟨rfl, rfl, by decide⟩) ?_
    refine s_ek_bk 1 (P := 24) (ls' := [(1, .int r1), (0, .ref 0)]) (st' := [.int r1, .ref 73, .ref 8]) (M' := v_mk s1) rfl ?_
    obtain ⟨r3, s3, e3, h⟩ := v_bd h
    refine v_cV (ν := s_e20.1) (w := 161) (a := 73) (as' := [.int r1]) (r := [.ref 8]) (o := some (.int r3)) (by omega) rfl rfl rfl (v_mk_kd (k := 1) (rfl : v_kd 73 = 1) (by decide)) rfl (t_Ch_number e3 (by omega)) ?_
    show s_Ek (s_rows 3 L xs) D s_e157.1 27 [(1, .int r1), (0, .ref 0)] [.int r3, .ref 8] (v_mk s3) _
    refine s_ek_bk 1 (P := 28) (ls' := [(1, .int r1), (0, .ref 0)]) (st' := [.ref 0, .int r3, .ref 8]) (M' := v_mk s3) rfl ?_
    refine v_gf rfl (v_gr (rfl : v_kd 0 = 10) (rfl : v_sl 0 5 = .ref 73) ⟨rfl, rfl, by decide⟩) ?_
    refine s_ek_bk 1 (P := 32) (ls' := [(1, .int r1), (0, .ref 0)]) (st' := [.int r1, .ref 73, .int r3, .ref 8]) (M' := v_mk s3) rfl ?_
    obtain ⟨r4, s4, e4, h⟩ := v_bd h
    refine v_cV (ν := s_e21.1) (w := 169) (a := 73) (as' := [.int r1]) (r := [.int r3, .ref 8]) (o := some (.int r4)) (by omega) rfl rfl rfl (v_mk_kd (k := 1) (rfl : v_kd 73 = 1) (by decide)) rfl (t_Ch_what e4 (by omega)) ?_
    show s_Ek (s_rows 3 L xs) D s_e157.1 35 [(1, .int r1), (0, .ref 0)] [.int r4, .int r3, .ref 8] (v_mk s4) _
    refine s_ek_bk 1 (P := 36) (ls' := [(1, .int r1), (0, .ref 0)]) (st' := [.ref 0, .int r4, .int r3, .ref 8]) (M' := v_mk s4) rfl ?_
    refine v_gf rfl (v_gr (rfl : v_kd 0 = 10) (rfl : v_sl 0 5 = .ref 73) ⟨rfl, rfl, by decide⟩) ?_
    refine s_ek_bk 1 (P := 40) (ls' := [(1, .int r1), (0, .ref 0)]) (st' := [.int r1, .ref 73, .int r4, .int r3, .ref 8]) (M' := v_mk s4) rfl ?_
    obtain ⟨r5, s5, e5, h⟩ := v_bd h
    refine v_cV (ν := s_e22.1) (w := 177) (a := 73) (as' := [.int r1]) (r := [.int r4, .int r3, .ref 8]) (o := some (.int r5)) (by omega) rfl rfl rfl (v_mk_kd (k := 1) (rfl : v_kd 73 = 1) (by decide)) rfl (t_Ch_was e5 (by omega)) ?_
    show s_Ek (s_rows 3 L xs) D s_e157.1 43 [(1, .int r1), (0, .ref 0)] [.int r5, .int r4, .int r3, .ref 8] (v_mk s5) _
    obtain ⟨r6, s6, e6, h⟩ := v_bd h
    refine v_cV (ν := s_e45.1) (w := 363) (a := 8) (as' := [.int r3, .int r4, .int r5]) (r := []) (o := none) (by omega) rfl rfl rfl (v_mk_kd (k := 3) (rfl : v_kd 8 = 3) (by decide)) rfl (t_Ct_set e6 (by omega)) ?_
    show s_Ek (s_rows 3 L xs) D s_e157.1 46 [(1, .int r1), (0, .ref 0)] [] (v_mk s6) _
    refine s_ek_bk 1 (P := 47) (ls' := [(1, .int r1), (0, .ref 0)]) (st' := [.ref 0]) (M' := v_mk s6) rfl ?_
    refine v_gf rfl (v_gr (rfl : v_kd 0 = 10) (rfl : v_sl 0 5 = .ref 73) ⟨rfl, rfl, by decide⟩) ?_
    obtain ⟨r7, s7, e7, h⟩ := v_bd h
    refine v_cV (ν := s_e18.1) (w := 144) (a := 73) (as' := []) (r := []) (o := some (.int r7)) (by omega) rfl rfl rfl (v_mk_kd (k := 1) (rfl : v_kd 73 = 1) (by decide)) rfl (t_Ch_stepBack e7 (by omega)) ?_
    show s_Ek (s_rows 3 L xs) D s_e157.1 53 [(1, .int r1), (0, .ref 0)] [.int r7] (v_mk s7) _
    obtain ⟨rfl, rfl⟩ := v_so h
    exact v_ret (fun _ => rfl)
  · refine v_i1f (T := 15) rfl rfl c2 ?_
    refine s_ek_bk 1 (P := 14) (ls' := [(1, .int r1), (0, .ref 0)]) (st' := [.int (-5)]) (M' := v_mk s1) rfl ?_
    obtain ⟨rfl, rfl⟩ := v_so h
    exact v_ret (fun _ => rfl)
noncomputable def f_Ol_redo (s : vS) : Option (Int32 × vS) := (v_bi (f_Ch_next s) (fun r1 s1 => (if 0 ≤ r1.toInt then (v_bi (f_Ch_number r1 s1) (fun r3 s3 => (v_bi (f_Ch_what r1 s3) (fun r4 s4 => (v_bi (f_Ch_became r1 s4) (fun r5 s5 => (v_bi (f_Ct_set r3 r4 r5 s5) (fun _ s6 => (v_bi (f_Ch_stepOn s6) (fun r7 s7 => (some (r7, s7)))))))))))) else (some ((-5), s1)))))
set_option maxRecDepth 20000 in
set_option maxHeartbeats 4000000 in
theorem t_Ol_redo {L : Nat} {xs : Nat → Int32} {D : Nat} {r : Int32} {s s' : vS} (h : f_Ol_redo s = some (r, s')) (hD : 2 ≤ D) : s_Ek (s_rows 3 L xs) D s_e158.1 0 (lv_args 0 [.ref 0]) [] (v_mk s) (v_Q (some (.int r)) s') := by
  unfold f_Ol_redo at h
  show s_Ek (s_rows 3 L xs) D s_e158.1 0 [(0, .ref 0)] [] (v_mk s) _
  refine s_ek_bk 1 (P := 1) (ls' := [(0, .ref 0)]) (st' := [.ref 0]) (M' := v_mk s) rfl ?_
  refine v_gf rfl (v_gr (rfl : v_kd 0 = 10) (rfl : v_sl 0 5 = .ref 73) ⟨rfl, rfl, by decide⟩) ?_
  obtain ⟨r1, s1, e1, h⟩ := v_bd h
  refine v_cV (ν := s_e17.1) (w := 136) (a := 73) (as' := []) (r := []) (o := some (.int r1)) (by omega) rfl rfl rfl (v_mk_kd (k := 1) (rfl : v_kd 73 = 1) (by decide)) rfl (t_Ch_next e1 (by omega)) ?_
  show s_Ek (s_rows 3 L xs) D s_e158.1 7 [(0, .ref 0)] [.int r1] (v_mk s1) _
  refine s_ek_bk 2 (P := 9) (ls' := [(1, .int r1), (0, .ref 0)]) (st' := [.int r1]) (M' := v_mk s1) rfl ?_
  rcases v_if h with ⟨c2, h⟩ | ⟨c2, h⟩
  · refine v_i1t (T := 15) rfl rfl c2 ?_
    refine s_ek_bk 1 (P := 16) (ls' := [(1, .int r1), (0, .ref 0)]) (st' := [.ref 0]) (M' := v_mk s1) rfl ?_
    refine v_gf rfl (v_gr (rfl : v_kd 0 = 10) (rfl : v_sl 0 4 = .ref 8) ⟨rfl, rfl, by decide⟩) ?_
    refine s_ek_bk 1 (P := 20) (ls' := [(1, .int r1), (0, .ref 0)]) (st' := [.ref 0, .ref 8]) (M' := v_mk s1) rfl ?_
    refine v_gf rfl (v_gr (rfl : v_kd 0 = 10) (rfl : v_sl 0 5 = .ref 73) ⟨rfl, rfl, by decide⟩) ?_
    refine s_ek_bk 1 (P := 24) (ls' := [(1, .int r1), (0, .ref 0)]) (st' := [.int r1, .ref 73, .ref 8]) (M' := v_mk s1) rfl ?_
    obtain ⟨r3, s3, e3, h⟩ := v_bd h
    refine v_cV (ν := s_e20.1) (w := 161) (a := 73) (as' := [.int r1]) (r := [.ref 8]) (o := some (.int r3)) (by omega) rfl rfl rfl (v_mk_kd (k := 1) (rfl : v_kd 73 = 1) (by decide)) rfl (t_Ch_number e3 (by omega)) ?_
    show s_Ek (s_rows 3 L xs) D s_e158.1 27 [(1, .int r1), (0, .ref 0)] [.int r3, .ref 8] (v_mk s3) _
    refine s_ek_bk 1 (P := 28) (ls' := [(1, .int r1), (0, .ref 0)]) (st' := [.ref 0, .int r3, .ref 8]) (M' := v_mk s3) rfl ?_
    refine v_gf rfl (v_gr (rfl : v_kd 0 = 10) (rfl : v_sl 0 5 = .ref 73) ⟨rfl, rfl, by decide⟩) ?_
    refine s_ek_bk 1 (P := 32) (ls' := [(1, .int r1), (0, .ref 0)]) (st' := [.int r1, .ref 73, .int r3, .ref 8]) (M' := v_mk s3) rfl ?_
    obtain ⟨r4, s4, e4, h⟩ := v_bd h
    refine v_cV (ν := s_e21.1) (w := 169) (a := 73) (as' := [.int r1]) (r := [.int r3, .ref 8]) (o := some (.int r4)) (by omega) rfl rfl rfl (v_mk_kd (k := 1) (rfl : v_kd 73 = 1) (by decide)) rfl (t_Ch_what e4 (by omega)) ?_
    show s_Ek (s_rows 3 L xs) D s_e158.1 35 [(1, .int r1), (0, .ref 0)] [.int r4, .int r3, .ref 8] (v_mk s4) _
    refine s_ek_bk 1 (P := 36) (ls' := [(1, .int r1), (0, .ref 0)]) (st' := [.ref 0, .int r4, .int r3, .ref 8]) (M' := v_mk s4) rfl ?_
    refine v_gf rfl (v_gr (rfl : v_kd 0 = 10) (rfl : v_sl 0 5 = .ref 73) ⟨rfl, rfl, by decide⟩) ?_
    refine s_ek_bk 1 (P := 40) (ls' := [(1, .int r1), (0, .ref 0)]) (st' := [.int r1, .ref 73, .int r4, .int r3, .ref 8]) (M' := v_mk s4) rfl ?_
    obtain ⟨r5, s5, e5, h⟩ := v_bd h
    refine v_cV (ν := s_e23.1) (w := 185) (a := 73) (as' := [.int r1]) (r := [.int r4, .int r3, .ref 8]) (o := some (.int r5)) (by omega) rfl rfl rfl (v_mk_kd (k := 1) (rfl : v_kd 73 = 1) (by decide)) rfl (t_Ch_became e5 (by omega)) ?_
    show s_Ek (s_rows 3 L xs) D s_e158.1 43 [(1, .int r1), (0, .ref 0)] [.int r5, .int r4, .int r3, .ref 8] (v_mk s5) _
    obtain ⟨r6, s6, e6, h⟩ := v_bd h
    refine v_cV (ν := s_e45.1) (w := 363) (a := 8) (as' := [.int r3, .int r4, .int r5]) (r := []) (o := none) (by omega) rfl rfl rfl (v_mk_kd (k := 3) (rfl : v_kd 8 = 3) (by decide)) rfl (t_Ct_set e6 (by omega)) ?_
    show s_Ek (s_rows 3 L xs) D s_e158.1 46 [(1, .int r1), (0, .ref 0)] [] (v_mk s6) _
    refine s_ek_bk 1 (P := 47) (ls' := [(1, .int r1), (0, .ref 0)]) (st' := [.ref 0]) (M' := v_mk s6) rfl ?_
    refine v_gf rfl (v_gr (rfl : v_kd 0 = 10) (rfl : v_sl 0 5 = .ref 73) ⟨rfl, rfl, by decide⟩) ?_
    obtain ⟨r7, s7, e7, h⟩ := v_bd h
    refine v_cV (ν := s_e19.1) (w := 152) (a := 73) (as' := []) (r := []) (o := some (.int r7)) (by omega) rfl rfl rfl (v_mk_kd (k := 1) (rfl : v_kd 73 = 1) (by decide)) rfl (t_Ch_stepOn e7 (by omega)) ?_
    show s_Ek (s_rows 3 L xs) D s_e158.1 53 [(1, .int r1), (0, .ref 0)] [.int r7] (v_mk s7) _
    obtain ⟨rfl, rfl⟩ := v_so h
    exact v_ret (fun _ => rfl)
  · refine v_i1f (T := 15) rfl rfl c2 ?_
    refine s_ek_bk 1 (P := 14) (ls' := [(1, .int r1), (0, .ref 0)]) (st' := [.int (-5)]) (M' := v_mk s1) rfl ?_
    obtain ⟨rfl, rfl⟩ := v_so h
    exact v_ret (fun _ => rfl)
noncomputable def f_Ol_body (b : Int32) (s : vS) : Option (Int32 × vS) := (v_bi (f_Cl_isKind b s) (fun r1 s1 => (if r1.toInt = 0 then (some ((-1), s1)) else (v_bi (f_Cl_add b s1) (fun r3 s3 => (if 0 ≤ r3.toInt then (some (r3, s3)) else (some ((-3), s3))))))))
set_option maxRecDepth 20000 in
set_option maxHeartbeats 4000000 in
theorem t_Ol_body {L : Nat} {xs : Nat → Int32} {b : Int32} {D : Nat} {r : Int32} {s s' : vS} (h : f_Ol_body b s = some (r, s')) (hD : 1 ≤ D) : s_Ek (s_rows 3 L xs) D s_e159.1 0 (lv_args 0 [.ref 0, .int b]) [] (v_mk s) (v_Q (some (.int r)) s') := by
  unfold f_Ol_body at h
  show s_Ek (s_rows 3 L xs) D s_e159.1 0 [(0, .ref 0), (1, .int b)] [] (v_mk s) _
  refine s_ek_bk 1 (P := 1) (ls' := [(0, .ref 0), (1, .int b)]) (st' := [.int b]) (M' := v_mk s) rfl ?_
  obtain ⟨r1, s1, e1, h⟩ := v_bd h
  refine v_cS (ν := s_e25.1) (w := 201) (as := [.int b]) (r := []) (o := some (.int r1)) (by omega) rfl rfl rfl rfl (t_Cl_isKind e1 (by omega)) ?_
  show s_Ek (s_rows 3 L xs) D s_e159.1 4 [(0, .ref 0), (1, .int b)] [.int r1] (v_mk s1) _
  rcases v_if h with ⟨c2, h⟩ | ⟨c2, h⟩
  · refine v_i1f (T := 9) rfl rfl (fun q => q c2) ?_
    refine s_ek_bk 1 (P := 8) (ls' := [(0, .ref 0), (1, .int b)]) (st' := [.int (-1)]) (M' := v_mk s1) rfl ?_
    obtain ⟨rfl, rfl⟩ := v_so h
    exact v_ret (fun _ => rfl)
  · refine v_i1t (T := 9) rfl rfl c2 ?_
    refine s_ek_bk 1 (P := 10) (ls' := [(0, .ref 0), (1, .int b)]) (st' := [.ref 0]) (M' := v_mk s1) rfl ?_
    refine v_gf rfl (v_gr (rfl : v_kd 0 = 10) (rfl : v_sl 0 7 = .ref 132) ⟨rfl, rfl, by decide⟩) ?_
    refine s_ek_bk 1 (P := 14) (ls' := [(0, .ref 0), (1, .int b)]) (st' := [.int b, .ref 132]) (M' := v_mk s1) rfl ?_
    obtain ⟨r3, s3, e3, h⟩ := v_bd h
    refine v_cV (ν := s_e28.1) (w := 225) (a := 132) (as' := [.int b]) (r := []) (o := some (.int r3)) (by omega) rfl rfl rfl (v_mk_kd (k := 2) (rfl : v_kd 132 = 2) (by decide)) rfl (t_Cl_add e3 (by omega)) ?_
    show s_Ek (s_rows 3 L xs) D s_e159.1 17 [(0, .ref 0), (1, .int b)] [.int r3] (v_mk s3) _
    refine s_ek_bk 2 (P := 19) (ls' := [(2, .int r3), (0, .ref 0), (1, .int b)]) (st' := [.int r3]) (M' := v_mk s3) rfl ?_
    rcases v_if h with ⟨c4, h⟩ | ⟨c4, h⟩
    · refine v_i1t (T := 27) rfl rfl c4 ?_
      refine s_ek_bk 1 (P := 28) (ls' := [(2, .int r3), (0, .ref 0), (1, .int b)]) (st' := [.int r3]) (M' := v_mk s3) rfl ?_
      obtain ⟨rfl, rfl⟩ := v_so h
      exact v_ret (fun _ => rfl)
    · refine v_i1f (T := 27) rfl rfl c4 ?_
      refine s_ek_bk 2 (P := 28) (ls' := [(2, .int r3), (0, .ref 0), (1, .int b)]) (st' := [.int (-3)]) (M' := v_mk s3) rfl ?_
      obtain ⟨rfl, rfl⟩ := v_so h
      exact v_ret (fun _ => rfl)
noncomputable def f_Ol_act (b : Int32) (c : Int32) (d : Int32) (s : vS) : Option (Int32 × vS) := (v_bi (f_Cl_perform b c d s) (fun r1 s1 => (some (r1, s1))))
set_option maxRecDepth 20000 in
set_option maxHeartbeats 4000000 in
theorem t_Ol_act {L : Nat} {xs : Nat → Int32} {b : Int32} {c : Int32} {d : Int32} {D : Nat} {r : Int32} {s s' : vS} (h : f_Ol_act b c d s = some (r, s')) (hD : 195 ≤ D) : s_Ek (s_rows 3 L xs) D s_e160.1 0 (lv_args 0 [.ref 0, .int b, .int c, .int d]) [] (v_mk s) (v_Q (some (.int r)) s') := by
  unfold f_Ol_act at h
  show s_Ek (s_rows 3 L xs) D s_e160.1 0 [(0, .ref 0), (1, .int b), (2, .int c), (3, .int d)] [] (v_mk s) _
  refine s_ek_bk 1 (P := 1) (ls' := [(0, .ref 0), (1, .int b), (2, .int c), (3, .int d)]) (st' := [.ref 0]) (M' := v_mk s) rfl ?_
  refine v_gf rfl (v_gr (rfl : v_kd 0 = 10) (rfl : v_sl 0 7 = .ref 132) ⟨rfl, rfl, by decide⟩) ?_
  refine s_ek_bk 3 (P := 7) (ls' := [(0, .ref 0), (1, .int b), (2, .int c), (3, .int d)]) (st' := [.int d, .int c, .int b, .ref 132]) (M' := v_mk s) rfl ?_
  obtain ⟨r1, s1, e1, h⟩ := v_bd h
  refine v_cV (ν := s_e32.1) (w := 259) (a := 132) (as' := [.int b, .int c, .int d]) (r := []) (o := some (.int r1)) (by omega) rfl rfl rfl (v_mk_kd (k := 2) (rfl : v_kd 132 = 2) (by decide)) rfl (t_Cl_perform e1 (by omega)) ?_
  show s_Ek (s_rows 3 L xs) D s_e160.1 10 [(0, .ref 0), (1, .int b), (2, .int c), (3, .int d)] [.int r1] (v_mk s1) _
  obtain ⟨rfl, rfl⟩ := v_so h
  exact v_ret (fun _ => rfl)
noncomputable def f_Ol_trace (b : Int32) (s : vS) : Option (Int32 × vS) := (v_bi (f_Cl_traced b s) (fun r1 s1 => (some (r1, s1))))
set_option maxRecDepth 20000 in
set_option maxHeartbeats 4000000 in
theorem t_Ol_trace {L : Nat} {xs : Nat → Int32} {b : Int32} {D : Nat} {r : Int32} {s s' : vS} (h : f_Ol_trace b s = some (r, s')) (hD : 1 ≤ D) : s_Ek (s_rows 3 L xs) D s_e161.1 0 (lv_args 0 [.ref 0, .int b]) [] (v_mk s) (v_Q (some (.int r)) s') := by
  unfold f_Ol_trace at h
  show s_Ek (s_rows 3 L xs) D s_e161.1 0 [(0, .ref 0), (1, .int b)] [] (v_mk s) _
  refine s_ek_bk 1 (P := 1) (ls' := [(0, .ref 0), (1, .int b)]) (st' := [.ref 0]) (M' := v_mk s) rfl ?_
  refine v_gf rfl (v_gr (rfl : v_kd 0 = 10) (rfl : v_sl 0 7 = .ref 132) ⟨rfl, rfl, by decide⟩) ?_
  refine s_ek_bk 1 (P := 5) (ls' := [(0, .ref 0), (1, .int b)]) (st' := [.int b, .ref 132]) (M' := v_mk s) rfl ?_
  obtain ⟨r1, s1, e1, h⟩ := v_bd h
  refine v_cV (ν := s_e31.1) (w := 249) (a := 132) (as' := [.int b]) (r := []) (o := some (.int r1)) (by omega) rfl rfl rfl (v_mk_kd (k := 2) (rfl : v_kd 132 = 2) (by decide)) rfl (t_Cl_traced e1 (by omega)) ?_
  show s_Ek (s_rows 3 L xs) D s_e161.1 8 [(0, .ref 0), (1, .int b)] [.int r1] (v_mk s1) _
  obtain ⟨rfl, rfl⟩ := v_so h
  exact v_ret (fun _ => rfl)
noncomputable def f_Ol_keep (b : Int32) (c : Int32) (s : vS) : Option (Int32 × vS) := (v_bi (f_Ol_isShelf b s) (fun r1 s1 => (if r1.toInt = 0 then (some ((-1), s1)) else (if c.toInt = (-1) then (if c.toInt = (-1) then (v_bi (f_Ol_shelfAt b s1) (fun r5 s5 => if v_kd r5 = 6 then (v_bi (f_Sh_bare r5 s5) (fun _ s7 => (some (1, s7)))) else none)) else (v_bi (f_Ol_shelfAt b s1) (fun r8 s8 => if v_kd r8 = 6 then (v_bi (f_Sh_takeBody r8 c s8) (fun _ s10 => (some (1, s10)))) else none))) else (v_bi (f_Cl_knows c s1) (fun r11 s11 => (if r11.toInt = 0 then (some ((-1), s11)) else (if c.toInt = (-1) then (v_bi (f_Ol_shelfAt b s11) (fun r14 s14 => if v_kd r14 = 6 then (v_bi (f_Sh_bare r14 s14) (fun _ s16 => (some (1, s16)))) else none)) else (v_bi (f_Ol_shelfAt b s11) (fun r17 s17 => if v_kd r17 = 6 then (v_bi (f_Sh_takeBody r17 c s17) (fun _ s19 => (some (1, s19)))) else none))))))))))
set_option maxRecDepth 20000 in
set_option maxHeartbeats 4000000 in
theorem t_Ol_keep {L : Nat} {xs : Nat → Int32} {b : Int32} {c : Int32} {D : Nat} {r : Int32} {s s' : vS} (h : f_Ol_keep b c s = some (r, s')) (hD : 1 ≤ D) : s_Ek (s_rows 3 L xs) D s_e162.1 0 (lv_args 0 [.ref 0, .int b, .int c]) [] (v_mk s) (v_Q (some (.int r)) s') := by
  unfold f_Ol_keep at h
  show s_Ek (s_rows 3 L xs) D s_e162.1 0 [(0, .ref 0), (1, .int b), (2, .int c)] [] (v_mk s) _
  refine s_ek_bk 1 (P := 1) (ls' := [(0, .ref 0), (1, .int b), (2, .int c)]) (st' := [.int b]) (M' := v_mk s) rfl ?_
  obtain ⟨r1, s1, e1, h⟩ := v_bd h
  refine v_cS (ν := s_e175.1) (w := 1401) (as := [.int b]) (r := []) (o := some (.int r1)) (by omega) rfl rfl rfl rfl (t_Ol_isShelf e1 (by omega)) ?_
  show s_Ek (s_rows 3 L xs) D s_e162.1 4 [(0, .ref 0), (1, .int b), (2, .int c)] [.int r1] (v_mk s1) _
  rcases v_if h with ⟨c2, h⟩ | ⟨c2, h⟩
  · refine v_i1t (T := 23) rfl rfl c2 ?_
    refine s_ek_bk 1 (P := 24) (ls' := [(0, .ref 0), (1, .int b), (2, .int c)]) (st' := [.int (-1)]) (M' := v_mk s1) rfl ?_
    obtain ⟨rfl, rfl⟩ := v_so h
    exact v_ret (fun _ => rfl)
  · refine v_i1f (T := 23) rfl rfl c2 ?_
    refine s_ek_bk 2 (P := 9) (ls' := [(0, .ref 0), (1, .int b), (2, .int c)]) (st' := [.int (-1), .int c]) (M' := v_mk s1) rfl ?_
    rcases v_if h with ⟨c3, h⟩ | ⟨c3, h⟩
    · refine v_i2t (T := 25) rfl rfl c3 ?_
      refine s_ek_bk 2 (P := 27) (ls' := [(0, .ref 0), (1, .int b), (2, .int c)]) (st' := [.int (-1), .int c]) (M' := v_mk s1) rfl ?_
      rcases v_if h with ⟨c4, h⟩ | ⟨c4, h⟩
      · refine v_i2f (T := 41) rfl rfl (fun q => q c4) ?_
        refine s_ek_bk 2 (P := 32) (ls' := [(0, .ref 0), (1, .int b), (2, .int c)]) (st' := [.int b, .ref 0]) (M' := v_mk s1) rfl ?_
        obtain ⟨r5, s5, e5, h⟩ := v_bd h
        refine v_cV (ν := s_e176.1) (w := 1409) (a := 0) (as' := [.int b]) (r := []) (o := some (.ref r5)) (by omega) rfl rfl rfl (v_mk_kd (k := 10) (rfl : v_kd 0 = 10) (by decide)) rfl (t_Ol_shelfAt e5 (by omega)) ?_
        obtain ⟨c6, h⟩ := v_ck h
        show s_Ek (s_rows 3 L xs) D s_e162.1 35 [(0, .ref 0), (1, .int b), (2, .int c)] [.ref r5] (v_mk s5) _
        obtain ⟨r7, s7, e7, h⟩ := v_bd h
        refine v_cV (ν := s_e86.1) (w := 688) (a := r5) (as' := []) (r := []) (o := none) (by omega) rfl rfl rfl (v_mk_kd (k := 6) c6 (by decide)) rfl (t_Sh_bare c6 e7 (by omega)) ?_
        show s_Ek (s_rows 3 L xs) D s_e162.1 38 [(0, .ref 0), (1, .int b), (2, .int c)] [] (v_mk s7) _
        refine s_ek_bk 2 (P := 51) (ls' := [(0, .ref 0), (1, .int b), (2, .int c)]) (st' := [.int 1]) (M' := v_mk s7) rfl ?_
        obtain ⟨rfl, rfl⟩ := v_so h
        exact v_ret (fun _ => rfl)
      · refine v_i2t (T := 41) rfl rfl c4 ?_
        refine s_ek_bk 2 (P := 43) (ls' := [(0, .ref 0), (1, .int b), (2, .int c)]) (st' := [.int b, .ref 0]) (M' := v_mk s1) rfl ?_
        obtain ⟨r8, s8, e8, h⟩ := v_bd h
        refine v_cV (ν := s_e176.1) (w := 1409) (a := 0) (as' := [.int b]) (r := []) (o := some (.ref r8)) (by omega) rfl rfl rfl (v_mk_kd (k := 10) (rfl : v_kd 0 = 10) (by decide)) rfl (t_Ol_shelfAt e8 (by omega)) ?_
        obtain ⟨c9, h⟩ := v_ck h
        show s_Ek (s_rows 3 L xs) D s_e162.1 46 [(0, .ref 0), (1, .int b), (2, .int c)] [.ref r8] (v_mk s8) _
        refine s_ek_bk 1 (P := 47) (ls' := [(0, .ref 0), (1, .int b), (2, .int c)]) (st' := [.int c, .ref r8]) (M' := v_mk s8) rfl ?_
        obtain ⟨r10, s10, e10, h⟩ := v_bd h
        refine v_cV (ν := s_e87.1) (w := 697) (a := r8) (as' := [.int c]) (r := []) (o := none) (by omega) rfl rfl rfl (v_mk_kd (k := 6) c9 (by decide)) rfl (t_Sh_takeBody c9 e10 (by omega)) ?_
        show s_Ek (s_rows 3 L xs) D s_e162.1 50 [(0, .ref 0), (1, .int b), (2, .int c)] [] (v_mk s10) _
        refine s_ek_bk 1 (P := 51) (ls' := [(0, .ref 0), (1, .int b), (2, .int c)]) (st' := [.int 1]) (M' := v_mk s10) rfl ?_
        obtain ⟨rfl, rfl⟩ := v_so h
        exact v_ret (fun _ => rfl)
    · refine v_i2f (T := 25) rfl rfl c3 ?_
      refine s_ek_bk 1 (P := 13) (ls' := [(0, .ref 0), (1, .int b), (2, .int c)]) (st' := [.ref 0]) (M' := v_mk s1) rfl ?_
      refine v_gf rfl (v_gr (rfl : v_kd 0 = 10) (rfl : v_sl 0 7 = .ref 132) ⟨rfl, rfl, by decide⟩) ?_
      refine s_ek_bk 1 (P := 17) (ls' := [(0, .ref 0), (1, .int b), (2, .int c)]) (st' := [.int c, .ref 132]) (M' := v_mk s1) rfl ?_
      obtain ⟨r11, s11, e11, h⟩ := v_bd h
      refine v_cV (ν := s_e29.1) (w := 233) (a := 132) (as' := [.int c]) (r := []) (o := some (.int r11)) (by omega) rfl rfl rfl (v_mk_kd (k := 2) (rfl : v_kd 132 = 2) (by decide)) rfl (t_Cl_knows e11 (by omega)) ?_
      show s_Ek (s_rows 3 L xs) D s_e162.1 20 [(0, .ref 0), (1, .int b), (2, .int c)] [.int r11] (v_mk s11) _
      rcases v_if h with ⟨c12, h⟩ | ⟨c12, h⟩
      · refine v_i1f (T := 25) rfl rfl (fun q => q c12) ?_
        refine s_ek_bk 1 (P := 24) (ls' := [(0, .ref 0), (1, .int b), (2, .int c)]) (st' := [.int (-1)]) (M' := v_mk s11) rfl ?_
        obtain ⟨rfl, rfl⟩ := v_so h
        exact v_ret (fun _ => rfl)
      · refine v_i1t (T := 25) rfl rfl c12 ?_
        refine s_ek_bk 2 (P := 27) (ls' := [(0, .ref 0), (1, .int b), (2, .int c)]) (st' := [.int (-1), .int c]) (M' := v_mk s11) rfl ?_
        rcases v_if h with ⟨c13, h⟩ | ⟨c13, h⟩
        · refine v_i2f (T := 41) rfl rfl (fun q => q c13) ?_
          refine s_ek_bk 2 (P := 32) (ls' := [(0, .ref 0), (1, .int b), (2, .int c)]) (st' := [.int b, .ref 0]) (M' := v_mk s11) rfl ?_
          obtain ⟨r14, s14, e14, h⟩ := v_bd h
          refine v_cV (ν := s_e176.1) (w := 1409) (a := 0) (as' := [.int b]) (r := []) (o := some (.ref r14)) (by omega) rfl rfl rfl (v_mk_kd (k := 10) (rfl : v_kd 0 = 10) (by decide)) rfl (t_Ol_shelfAt e14 (by omega)) ?_
          obtain ⟨c15, h⟩ := v_ck h
          show s_Ek (s_rows 3 L xs) D s_e162.1 35 [(0, .ref 0), (1, .int b), (2, .int c)] [.ref r14] (v_mk s14) _
          obtain ⟨r16, s16, e16, h⟩ := v_bd h
          refine v_cV (ν := s_e86.1) (w := 688) (a := r14) (as' := []) (r := []) (o := none) (by omega) rfl rfl rfl (v_mk_kd (k := 6) c15 (by decide)) rfl (t_Sh_bare c15 e16 (by omega)) ?_
          show s_Ek (s_rows 3 L xs) D s_e162.1 38 [(0, .ref 0), (1, .int b), (2, .int c)] [] (v_mk s16) _
          refine s_ek_bk 2 (P := 51) (ls' := [(0, .ref 0), (1, .int b), (2, .int c)]) (st' := [.int 1]) (M' := v_mk s16) rfl ?_
          obtain ⟨rfl, rfl⟩ := v_so h
          exact v_ret (fun _ => rfl)
        · refine v_i2t (T := 41) rfl rfl c13 ?_
          refine s_ek_bk 2 (P := 43) (ls' := [(0, .ref 0), (1, .int b), (2, .int c)]) (st' := [.int b, .ref 0]) (M' := v_mk s11) rfl ?_
          obtain ⟨r17, s17, e17, h⟩ := v_bd h
          refine v_cV (ν := s_e176.1) (w := 1409) (a := 0) (as' := [.int b]) (r := []) (o := some (.ref r17)) (by omega) rfl rfl rfl (v_mk_kd (k := 10) (rfl : v_kd 0 = 10) (by decide)) rfl (t_Ol_shelfAt e17 (by omega)) ?_
          obtain ⟨c18, h⟩ := v_ck h
          show s_Ek (s_rows 3 L xs) D s_e162.1 46 [(0, .ref 0), (1, .int b), (2, .int c)] [.ref r17] (v_mk s17) _
          refine s_ek_bk 1 (P := 47) (ls' := [(0, .ref 0), (1, .int b), (2, .int c)]) (st' := [.int c, .ref r17]) (M' := v_mk s17) rfl ?_
          obtain ⟨r19, s19, e19, h⟩ := v_bd h
          refine v_cV (ν := s_e87.1) (w := 697) (a := r17) (as' := [.int c]) (r := []) (o := none) (by omega) rfl rfl rfl (v_mk_kd (k := 6) c18 (by decide)) rfl (t_Sh_takeBody c18 e19 (by omega)) ?_
          show s_Ek (s_rows 3 L xs) D s_e162.1 50 [(0, .ref 0), (1, .int b), (2, .int c)] [] (v_mk s19) _
          refine s_ek_bk 1 (P := 51) (ls' := [(0, .ref 0), (1, .int b), (2, .int c)]) (st' := [.int 1]) (M' := v_mk s19) rfl ?_
          obtain ⟨rfl, rfl⟩ := v_so h
          exact v_ret (fun _ => rfl)
noncomputable def f_Ol_row (b : Int32) (c : Int32) (d : Int32) (s : vS) : Option (Int32 × vS) := (v_bi (f_Ol_isShelf b s) (fun r1 s1 => (if r1.toInt = 0 then (some ((-1), s1)) else (v_bi (f_Sh_isSort c s1) (fun r3 s3 => (if r3.toInt = 0 then (some ((-1), s3)) else (if d.toInt ≤ 60 then (if 0 ≤ d.toInt then (v_bi (f_Ol_shelfAt b s3) (fun r7 s7 => if v_kd r7 = 6 then (v_bi (f_Sh_takeRow r7 c d s7) (fun _ s9 => (some (1, s9)))) else none)) else (some ((-14), s3))) else (some ((-1), s3)))))))))
set_option maxRecDepth 20000 in
set_option maxHeartbeats 4000000 in
theorem t_Ol_row {L : Nat} {xs : Nat → Int32} {b : Int32} {c : Int32} {d : Int32} {D : Nat} {r : Int32} {s s' : vS} (h : f_Ol_row b c d s = some (r, s')) (hD : 1 ≤ D) : s_Ek (s_rows 3 L xs) D s_e163.1 0 (lv_args 0 [.ref 0, .int b, .int c, .int d]) [] (v_mk s) (v_Q (some (.int r)) s') := by
  unfold f_Ol_row at h
  show s_Ek (s_rows 3 L xs) D s_e163.1 0 [(0, .ref 0), (1, .int b), (2, .int c), (3, .int d)] [] (v_mk s) _
  refine s_ek_bk 1 (P := 1) (ls' := [(0, .ref 0), (1, .int b), (2, .int c), (3, .int d)]) (st' := [.int b]) (M' := v_mk s) rfl ?_
  obtain ⟨r1, s1, e1, h⟩ := v_bd h
  refine v_cS (ν := s_e175.1) (w := 1401) (as := [.int b]) (r := []) (o := some (.int r1)) (by omega) rfl rfl rfl rfl (t_Ol_isShelf e1 (by omega)) ?_
  show s_Ek (s_rows 3 L xs) D s_e163.1 4 [(0, .ref 0), (1, .int b), (2, .int c), (3, .int d)] [.int r1] (v_mk s1) _
  rcases v_if h with ⟨c2, h⟩ | ⟨c2, h⟩
  · refine v_i1t (T := 20) rfl rfl c2 ?_
    refine s_ek_bk 1 (P := 21) (ls' := [(0, .ref 0), (1, .int b), (2, .int c), (3, .int d)]) (st' := [.int (-1)]) (M' := v_mk s1) rfl ?_
    obtain ⟨rfl, rfl⟩ := v_so h
    exact v_ret (fun _ => rfl)
  · refine v_i1f (T := 20) rfl rfl c2 ?_
    refine s_ek_bk 1 (P := 8) (ls' := [(0, .ref 0), (1, .int b), (2, .int c), (3, .int d)]) (st' := [.int c]) (M' := v_mk s1) rfl ?_
    obtain ⟨r3, s3, e3, h⟩ := v_bd h
    refine v_cS (ν := s_e83.1) (w := 665) (as := [.int c]) (r := []) (o := some (.int r3)) (by omega) rfl rfl rfl rfl (t_Sh_isSort e3 (by omega)) ?_
    show s_Ek (s_rows 3 L xs) D s_e163.1 11 [(0, .ref 0), (1, .int b), (2, .int c), (3, .int d)] [.int r3] (v_mk s3) _
    rcases v_if h with ⟨c4, h⟩ | ⟨c4, h⟩
    · refine v_i1t (T := 20) rfl rfl c4 ?_
      refine s_ek_bk 1 (P := 21) (ls' := [(0, .ref 0), (1, .int b), (2, .int c), (3, .int d)]) (st' := [.int (-1)]) (M' := v_mk s3) rfl ?_
      obtain ⟨rfl, rfl⟩ := v_so h
      exact v_ret (fun _ => rfl)
    · refine v_i1f (T := 20) rfl rfl c4 ?_
      refine s_ek_bk 2 (P := 17) (ls' := [(0, .ref 0), (1, .int b), (2, .int c), (3, .int d)]) (st' := [.int 60, .int d]) (M' := v_mk s3) rfl ?_
      rcases v_if h with ⟨c5, h⟩ | ⟨c5, h⟩
      · refine v_i2t (T := 22) rfl rfl c5 ?_
        refine s_ek_bk 1 (P := 23) (ls' := [(0, .ref 0), (1, .int b), (2, .int c), (3, .int d)]) (st' := [.int d]) (M' := v_mk s3) rfl ?_
        rcases v_if h with ⟨c6, h⟩ | ⟨c6, h⟩
        · refine v_i1t (T := 29) rfl rfl c6 ?_
          refine s_ek_bk 2 (P := 31) (ls' := [(0, .ref 0), (1, .int b), (2, .int c), (3, .int d)]) (st' := [.int b, .ref 0]) (M' := v_mk s3) rfl ?_
          obtain ⟨r7, s7, e7, h⟩ := v_bd h
          refine v_cV (ν := s_e176.1) (w := 1409) (a := 0) (as' := [.int b]) (r := []) (o := some (.ref r7)) (by omega) rfl rfl rfl (v_mk_kd (k := 10) (rfl : v_kd 0 = 10) (by decide)) rfl (t_Ol_shelfAt e7 (by omega)) ?_
          obtain ⟨c8, h⟩ := v_ck h
          show s_Ek (s_rows 3 L xs) D s_e163.1 34 [(0, .ref 0), (1, .int b), (2, .int c), (3, .int d)] [.ref r7] (v_mk s7) _
          refine s_ek_bk 2 (P := 36) (ls' := [(0, .ref 0), (1, .int b), (2, .int c), (3, .int d)]) (st' := [.int d, .int c, .ref r7]) (M' := v_mk s7) rfl ?_
          obtain ⟨r9, s9, e9, h⟩ := v_bd h
          refine v_cV (ν := s_e88.1) (w := 706) (a := r7) (as' := [.int c, .int d]) (r := []) (o := none) (by omega) rfl rfl rfl (v_mk_kd (k := 6) c8 (by decide)) rfl (t_Sh_takeRow c8 e9 (by omega)) ?_
          show s_Ek (s_rows 3 L xs) D s_e163.1 39 [(0, .ref 0), (1, .int b), (2, .int c), (3, .int d)] [] (v_mk s9) _
          refine s_ek_bk 1 (P := 40) (ls' := [(0, .ref 0), (1, .int b), (2, .int c), (3, .int d)]) (st' := [.int 1]) (M' := v_mk s9) rfl ?_
          obtain ⟨rfl, rfl⟩ := v_so h
          exact v_ret (fun _ => rfl)
        · refine v_i1f (T := 29) rfl rfl c6 ?_
          refine s_ek_bk 1 (P := 28) (ls' := [(0, .ref 0), (1, .int b), (2, .int c), (3, .int d)]) (st' := [.int (-14)]) (M' := v_mk s3) rfl ?_
          obtain ⟨rfl, rfl⟩ := v_so h
          exact v_ret (fun _ => rfl)
      · refine v_i2f (T := 22) rfl rfl c5 ?_
        refine s_ek_bk 1 (P := 21) (ls' := [(0, .ref 0), (1, .int b), (2, .int c), (3, .int d)]) (st' := [.int (-1)]) (M' := v_mk s3) rfl ?_
        obtain ⟨rfl, rfl⟩ := v_so h
        exact v_ret (fun _ => rfl)
noncomputable def f_Ol_refusalOfElement (b : Int32) (c : Int32) (s : vS) : Option (Int32 × vS) := (v_bi (f_Ol_isShelf b s) (fun r1 s1 => (if r1.toInt = 0 then (some ((-1), s1)) else (v_bi (f_Ol_shelfAt b s1) (fun r3 s3 => if v_kd r3 = 6 then (v_bi (f_Sh_isBare r3 s3) (fun r5 s5 => (if r5.toInt = 0 then (v_bi (f_Sh_isRow r3 s5) (fun r7 s7 => (if r7.toInt = 0 then (some ((-12), s7)) else (v_bi (f_Sh_hasPlaces r3 c 1 s7) (fun r9 s9 => (if r9.toInt = 0 then (some ((-13), s9)) else (some (0, s9)))))))) else (some ((-11), s5))))) else none)))))
set_option maxRecDepth 20000 in
set_option maxHeartbeats 4000000 in
theorem t_Ol_refusalOfElement {L : Nat} {xs : Nat → Int32} {b : Int32} {c : Int32} {D : Nat} {r : Int32} {s s' : vS} (h : f_Ol_refusalOfElement b c s = some (r, s')) (hD : 2 ≤ D) : s_Ek (s_rows 3 L xs) D s_e179.1 0 (lv_args 0 [.ref 0, .int b, .int c]) [] (v_mk s) (v_Q (some (.int r)) s') := by
  unfold f_Ol_refusalOfElement at h
  show s_Ek (s_rows 3 L xs) D s_e179.1 0 [(0, .ref 0), (1, .int b), (2, .int c)] [] (v_mk s) _
  refine s_ek_bk 1 (P := 1) (ls' := [(0, .ref 0), (1, .int b), (2, .int c)]) (st' := [.int b]) (M' := v_mk s) rfl ?_
  obtain ⟨r1, s1, e1, h⟩ := v_bd h
  refine v_cS (ν := s_e175.1) (w := 1401) (as := [.int b]) (r := []) (o := some (.int r1)) (by omega) rfl rfl rfl rfl (t_Ol_isShelf e1 (by omega)) ?_
  show s_Ek (s_rows 3 L xs) D s_e179.1 4 [(0, .ref 0), (1, .int b), (2, .int c)] [.int r1] (v_mk s1) _
  rcases v_if h with ⟨c2, h⟩ | ⟨c2, h⟩
  · refine v_i1f (T := 9) rfl rfl (fun q => q c2) ?_
    refine s_ek_bk 1 (P := 8) (ls' := [(0, .ref 0), (1, .int b), (2, .int c)]) (st' := [.int (-1)]) (M' := v_mk s1) rfl ?_
    obtain ⟨rfl, rfl⟩ := v_so h
    exact v_ret (fun _ => rfl)
  · refine v_i1t (T := 9) rfl rfl c2 ?_
    refine s_ek_bk 2 (P := 11) (ls' := [(0, .ref 0), (1, .int b), (2, .int c)]) (st' := [.int b, .ref 0]) (M' := v_mk s1) rfl ?_
    obtain ⟨r3, s3, e3, h⟩ := v_bd h
    refine v_cV (ν := s_e176.1) (w := 1409) (a := 0) (as' := [.int b]) (r := []) (o := some (.ref r3)) (by omega) rfl rfl rfl (v_mk_kd (k := 10) (rfl : v_kd 0 = 10) (by decide)) rfl (t_Ol_shelfAt e3 (by omega)) ?_
    obtain ⟨c4, h⟩ := v_ck h
    show s_Ek (s_rows 3 L xs) D s_e179.1 14 [(0, .ref 0), (1, .int b), (2, .int c)] [.ref r3] (v_mk s3) _
    refine s_ek_bk 2 (P := 16) (ls' := [(3, .ref r3), (0, .ref 0), (1, .int b), (2, .int c)]) (st' := [.ref r3]) (M' := v_mk s3) rfl ?_
    obtain ⟨r5, s5, e5, h⟩ := v_bd h
    refine v_cV (ν := s_e84.1) (w := 672) (a := r3) (as' := []) (r := []) (o := some (.int r5)) (by omega) rfl rfl rfl (v_mk_kd (k := 6) c4 (by decide)) rfl (t_Sh_isBare c4 e5 (by omega)) ?_
    show s_Ek (s_rows 3 L xs) D s_e179.1 19 [(3, .ref r3), (0, .ref 0), (1, .int b), (2, .int c)] [.int r5] (v_mk s5) _
    rcases v_if h with ⟨c6, h⟩ | ⟨c6, h⟩
    · refine v_i1t (T := 25) rfl rfl c6 ?_
      refine s_ek_bk 1 (P := 26) (ls' := [(3, .ref r3), (0, .ref 0), (1, .int b), (2, .int c)]) (st' := [.ref r3]) (M' := v_mk s5) rfl ?_
      obtain ⟨r7, s7, e7, h⟩ := v_bd h
      refine v_cV (ν := s_e85.1) (w := 680) (a := r3) (as' := []) (r := []) (o := some (.int r7)) (by omega) rfl rfl rfl (v_mk_kd (k := 6) c4 (by decide)) rfl (t_Sh_isRow c4 e7 (by omega)) ?_
      show s_Ek (s_rows 3 L xs) D s_e179.1 29 [(3, .ref r3), (0, .ref 0), (1, .int b), (2, .int c)] [.int r7] (v_mk s7) _
      rcases v_if h with ⟨c8, h⟩ | ⟨c8, h⟩
      · refine v_i1f (T := 35) rfl rfl (fun q => q c8) ?_
        refine s_ek_bk 1 (P := 34) (ls' := [(3, .ref r3), (0, .ref 0), (1, .int b), (2, .int c)]) (st' := [.int (-12)]) (M' := v_mk s7) rfl ?_
        obtain ⟨rfl, rfl⟩ := v_so h
        exact v_ret (fun _ => rfl)
      · refine v_i1t (T := 35) rfl rfl c8 ?_
        refine s_ek_bk 3 (P := 38) (ls' := [(3, .ref r3), (0, .ref 0), (1, .int b), (2, .int c)]) (st' := [.int 1, .int c, .ref r3]) (M' := v_mk s7) rfl ?_
        obtain ⟨r9, s9, e9, h⟩ := v_bd h
        refine v_cV (ν := s_e89.1) (w := 714) (a := r3) (as' := [.int c, .int 1]) (r := []) (o := some (.int r9)) (by omega) rfl rfl rfl (v_mk_kd (k := 6) c4 (by decide)) rfl (t_Sh_hasPlaces c4 e9 (by omega)) ?_
        show s_Ek (s_rows 3 L xs) D s_e179.1 41 [(3, .ref r3), (0, .ref 0), (1, .int b), (2, .int c)] [.int r9] (v_mk s9) _
        rcases v_if h with ⟨c10, h⟩ | ⟨c10, h⟩
        · refine v_i1t (T := 48) rfl rfl c10 ?_
          refine s_ek_bk 1 (P := 50) (ls' := [(3, .ref r3), (0, .ref 0), (1, .int b), (2, .int c)]) (st' := [.int (-13)]) (M' := v_mk s9) rfl ?_
          obtain ⟨rfl, rfl⟩ := v_so h
          exact v_ret (fun _ => rfl)
        · refine v_i1f (T := 48) rfl rfl c10 ?_
          refine s_ek_bk 2 (P := 50) (ls' := [(3, .ref r3), (0, .ref 0), (1, .int b), (2, .int c)]) (st' := [.int 0]) (M' := v_mk s9) rfl ?_
          obtain ⟨rfl, rfl⟩ := v_so h
          exact v_ret (fun _ => rfl)
    · refine v_i1f (T := 25) rfl rfl c6 ?_
      refine s_ek_bk 1 (P := 24) (ls' := [(3, .ref r3), (0, .ref 0), (1, .int b), (2, .int c)]) (st' := [.int (-11)]) (M' := v_mk s5) rfl ?_
      obtain ⟨rfl, rfl⟩ := v_so h
      exact v_ret (fun _ => rfl)
noncomputable def f_Ol_put (b : Int32) (c : Int32) (d : Int64) (s : vS) : Option (Int32 × vS) := (v_bi (f_Ol_refusalOfElement b c s) (fun r1 s1 => (if r1.toInt = 0 then (v_bi (f_Ol_shelfAt b s1) (fun r3 s3 => if v_kd r3 = 6 then (v_bi (f_Sh_set r3 c d s3) (fun _ s5 => (some (1, s5)))) else none)) else (some (r1, s1)))))
set_option maxRecDepth 20000 in
set_option maxHeartbeats 4000000 in
theorem t_Ol_put {L : Nat} {xs : Nat → Int32} {b : Int32} {c : Int32} {d : Int64} {D : Nat} {r : Int32} {s s' : vS} (h : f_Ol_put b c d s = some (r, s')) (hD : 3 ≤ D) : s_Ek (s_rows 3 L xs) D s_e164.1 0 (lv_args 0 [.ref 0, .int b, .int c, .long d]) [] (v_mk s) (v_Q (some (.int r)) s') := by
  unfold f_Ol_put at h
  show s_Ek (s_rows 3 L xs) D s_e164.1 0 [(0, .ref 0), (1, .int b), (2, .int c), (3, .long d)] [] (v_mk s) _
  refine s_ek_bk 3 (P := 3) (ls' := [(0, .ref 0), (1, .int b), (2, .int c), (3, .long d)]) (st' := [.int c, .int b, .ref 0]) (M' := v_mk s) rfl ?_
  obtain ⟨r1, s1, e1, h⟩ := v_bd h
  refine v_cV (ν := s_e179.1) (w := 1434) (a := 0) (as' := [.int b, .int c]) (r := []) (o := some (.int r1)) (by omega) rfl rfl rfl (v_mk_kd (k := 10) (rfl : v_kd 0 = 10) (by decide)) rfl (t_Ol_refusalOfElement e1 (by omega)) ?_
  show s_Ek (s_rows 3 L xs) D s_e164.1 6 [(0, .ref 0), (1, .int b), (2, .int c), (3, .long d)] [.int r1] (v_mk s1) _
  refine s_ek_bk 2 (P := 10) (ls' := [(5, .int r1), (0, .ref 0), (1, .int b), (2, .int c), (3, .long d)]) (st' := [.int r1]) (M' := v_mk s1) rfl ?_
  rcases v_if h with ⟨c2, h⟩ | ⟨c2, h⟩
  · refine v_i1t (T := 16) rfl rfl c2 ?_
    refine s_ek_bk 2 (P := 18) (ls' := [(5, .int r1), (0, .ref 0), (1, .int b), (2, .int c), (3, .long d)]) (st' := [.int b, .ref 0]) (M' := v_mk s1) rfl ?_
    obtain ⟨r3, s3, e3, h⟩ := v_bd h
    refine v_cV (ν := s_e176.1) (w := 1409) (a := 0) (as' := [.int b]) (r := []) (o := some (.ref r3)) (by omega) rfl rfl rfl (v_mk_kd (k := 10) (rfl : v_kd 0 = 10) (by decide)) rfl (t_Ol_shelfAt e3 (by omega)) ?_
    obtain ⟨c4, h⟩ := v_ck h
    show s_Ek (s_rows 3 L xs) D s_e164.1 21 [(5, .int r1), (0, .ref 0), (1, .int b), (2, .int c), (3, .long d)] [.ref r3] (v_mk s3) _
    refine s_ek_bk 2 (P := 23) (ls' := [(5, .int r1), (0, .ref 0), (1, .int b), (2, .int c), (3, .long d)]) (st' := [.long d, .int c, .ref r3]) (M' := v_mk s3) rfl ?_
    obtain ⟨r5, s5, e5, h⟩ := v_bd h
    refine v_cV (ν := s_e91.1) (w := 730) (a := r3) (as' := [.int c, .long d]) (r := []) (o := none) (by omega) rfl rfl rfl (v_mk_kd (k := 6) c4 (by decide)) rfl (t_Sh_set c4 e5 (by omega)) ?_
    show s_Ek (s_rows 3 L xs) D s_e164.1 26 [(5, .int r1), (0, .ref 0), (1, .int b), (2, .int c), (3, .long d)] [] (v_mk s5) _
    refine s_ek_bk 1 (P := 27) (ls' := [(5, .int r1), (0, .ref 0), (1, .int b), (2, .int c), (3, .long d)]) (st' := [.int 1]) (M' := v_mk s5) rfl ?_
    obtain ⟨rfl, rfl⟩ := v_so h
    exact v_ret (fun _ => rfl)
  · refine v_i1f (T := 16) rfl rfl c2 ?_
    refine s_ek_bk 1 (P := 15) (ls' := [(5, .int r1), (0, .ref 0), (1, .int b), (2, .int c), (3, .long d)]) (st' := [.int r1]) (M' := v_mk s1) rfl ?_
    obtain ⟨rfl, rfl⟩ := v_so h
    exact v_ret (fun _ => rfl)
noncomputable def f_Ol_element (b : Int32) (c : Int32) (s : vS) : Option (Int64 × vS) := (v_bi (f_Ol_refusalOfElement b c s) (fun r1 s1 => (if r1.toInt = 0 then (v_bi (f_Ol_shelfAt b s1) (fun r3 s3 => if v_kd r3 = 6 then (v_bi (f_Sh_at r3 c s3) (fun r5 s5 => (some (r5, s5)))) else none)) else (some ((-9223372036854775808), s1)))))
set_option maxRecDepth 20000 in
set_option maxHeartbeats 4000000 in
theorem t_Ol_element {L : Nat} {xs : Nat → Int32} {b : Int32} {c : Int32} {D : Nat} {r : Int64} {s s' : vS} (h : f_Ol_element b c s = some (r, s')) (hD : 3 ≤ D) : s_Ek (s_rows 3 L xs) D s_e165.1 0 (lv_args 0 [.ref 0, .int b, .int c]) [] (v_mk s) (v_Q (some (.long r)) s') := by
  unfold f_Ol_element at h
  show s_Ek (s_rows 3 L xs) D s_e165.1 0 [(0, .ref 0), (1, .int b), (2, .int c)] [] (v_mk s) _
  refine s_ek_bk 3 (P := 3) (ls' := [(0, .ref 0), (1, .int b), (2, .int c)]) (st' := [.int c, .int b, .ref 0]) (M' := v_mk s) rfl ?_
  obtain ⟨r1, s1, e1, h⟩ := v_bd h
  refine v_cV (ν := s_e179.1) (w := 1434) (a := 0) (as' := [.int b, .int c]) (r := []) (o := some (.int r1)) (by omega) rfl rfl rfl (v_mk_kd (k := 10) (rfl : v_kd 0 = 10) (by decide)) rfl (t_Ol_refusalOfElement e1 (by omega)) ?_
  show s_Ek (s_rows 3 L xs) D s_e165.1 6 [(0, .ref 0), (1, .int b), (2, .int c)] [.int r1] (v_mk s1) _
  rcases v_if h with ⟨c2, h⟩ | ⟨c2, h⟩
  · refine v_i1t (T := 15) rfl rfl c2 ?_
    refine s_ek_bk 2 (P := 17) (ls' := [(0, .ref 0), (1, .int b), (2, .int c)]) (st' := [.int b, .ref 0]) (M' := v_mk s1) rfl ?_
    obtain ⟨r3, s3, e3, h⟩ := v_bd h
    refine v_cV (ν := s_e176.1) (w := 1409) (a := 0) (as' := [.int b]) (r := []) (o := some (.ref r3)) (by omega) rfl rfl rfl (v_mk_kd (k := 10) (rfl : v_kd 0 = 10) (by decide)) rfl (t_Ol_shelfAt e3 (by omega)) ?_
    obtain ⟨c4, h⟩ := v_ck h
    show s_Ek (s_rows 3 L xs) D s_e165.1 20 [(0, .ref 0), (1, .int b), (2, .int c)] [.ref r3] (v_mk s3) _
    refine s_ek_bk 1 (P := 21) (ls' := [(0, .ref 0), (1, .int b), (2, .int c)]) (st' := [.int c, .ref r3]) (M' := v_mk s3) rfl ?_
    obtain ⟨r5, s5, e5, h⟩ := v_bd h
    refine v_cV (ν := s_e90.1) (w := 721) (a := r3) (as' := [.int c]) (r := []) (o := some (.long r5)) (by omega) rfl rfl rfl (v_mk_kd (k := 6) c4 (by decide)) rfl (t_Sh_at c4 e5 (by omega)) ?_
    show s_Ek (s_rows 3 L xs) D s_e165.1 24 [(0, .ref 0), (1, .int b), (2, .int c)] [.long r5] (v_mk s5) _
    obtain ⟨rfl, rfl⟩ := v_so h
    exact v_ret (fun _ => rfl)
  · refine v_i1f (T := 15) rfl rfl c2 ?_
    refine s_ek_bk 2 (P := 24) (ls' := [(0, .ref 0), (1, .int b), (2, .int c)]) (st' := [.long (-9223372036854775808)]) (M' := v_mk s1) rfl ?_
    obtain ⟨rfl, rfl⟩ := v_so h
    exact v_ret (fun _ => rfl)
noncomputable def f_Ol_shift (b : Int32) (c : Int32) (d : Int32) (e : Int32) (f : Int32) (s : vS) : Option (Int32 × vS) := (v_bi (f_Ol_isShelf b s) (fun r1 s1 => (if r1.toInt = 0 then (some ((-1), s1)) else (v_bi (f_Ol_isShelf d s1) (fun r3 s3 => (if r3.toInt = 0 then (some ((-1), s3)) else (v_bi (f_Ol_shelfAt b s3) (fun r5 s5 => if v_kd r5 = 6 then (v_bi (f_Ol_shelfAt d s5) (fun r7 s7 => if v_kd r7 = 6 then (v_bi (f_Sh_isBare r5 s7) (fun r9 s9 => (if r9.toInt = 0 then (v_bi (f_Sh_isBare r7 s9) (fun r11 s11 => (if r11.toInt = 0 then (v_bi (f_Sh_isRow r5 s11) (fun r13 s13 => (if r13.toInt = 0 then (some ((-12), s13)) else (if (s13.1 r5 0).toInt = (s13.1 r7 0).toInt then (v_bi (f_Sh_hasPlaces r5 c f s13) (fun r16 s16 => (if r16.toInt = 0 then (some ((-13), s16)) else (v_bi (f_Sh_hasPlaces r7 e f s16) (fun r18 s18 => (if r18.toInt = 0 then (some ((-13), s18)) else (v_bi (f_Sh_copyFrom r7 r5 c e f s18) (fun _ s20 => (some (f, s20)))))))))) else (some ((-12), s13)))))) else (some ((-11), s11))))) else (some ((-11), s9))))) else none)) else none))))))))
set_option maxRecDepth 20000 in
set_option maxHeartbeats 4000000 in
theorem t_Ol_shift {L : Nat} {xs : Nat → Int32} {b : Int32} {c : Int32} {d : Int32} {e : Int32} {f : Int32} {D : Nat} {r : Int32} {s s' : vS} (h : f_Ol_shift b c d e f s = some (r, s')) (hD : 2 ≤ D) : s_Ek (s_rows 3 L xs) D s_e166.1 0 (lv_args 0 [.ref 0, .int b, .int c, .int d, .int e, .int f]) [] (v_mk s) (v_Q (some (.int r)) s') := by
  unfold f_Ol_shift at h
  show s_Ek (s_rows 3 L xs) D s_e166.1 0 [(0, .ref 0), (1, .int b), (2, .int c), (3, .int d), (4, .int e), (5, .int f)] [] (v_mk s) _
  refine s_ek_bk 1 (P := 1) (ls' := [(0, .ref 0), (1, .int b), (2, .int c), (3, .int d), (4, .int e), (5, .int f)]) (st' := [.int b]) (M' := v_mk s) rfl ?_
  obtain ⟨r1, s1, e1, h⟩ := v_bd h
  refine v_cS (ν := s_e175.1) (w := 1401) (as := [.int b]) (r := []) (o := some (.int r1)) (by omega) rfl rfl rfl rfl (t_Ol_isShelf e1 (by omega)) ?_
  show s_Ek (s_rows 3 L xs) D s_e166.1 4 [(0, .ref 0), (1, .int b), (2, .int c), (3, .int d), (4, .int e), (5, .int f)] [.int r1] (v_mk s1) _
  rcases v_if h with ⟨c2, h⟩ | ⟨c2, h⟩
  · refine v_i1t (T := 14) rfl rfl c2 ?_
    refine s_ek_bk 1 (P := 15) (ls' := [(0, .ref 0), (1, .int b), (2, .int c), (3, .int d), (4, .int e), (5, .int f)]) (st' := [.int (-1)]) (M' := v_mk s1) rfl ?_
    obtain ⟨rfl, rfl⟩ := v_so h
    exact v_ret (fun _ => rfl)
  · refine v_i1f (T := 14) rfl rfl c2 ?_
    refine s_ek_bk 1 (P := 8) (ls' := [(0, .ref 0), (1, .int b), (2, .int c), (3, .int d), (4, .int e), (5, .int f)]) (st' := [.int d]) (M' := v_mk s1) rfl ?_
    obtain ⟨r3, s3, e3, h⟩ := v_bd h
    refine v_cS (ν := s_e175.1) (w := 1401) (as := [.int d]) (r := []) (o := some (.int r3)) (by omega) rfl rfl rfl rfl (t_Ol_isShelf e3 (by omega)) ?_
    show s_Ek (s_rows 3 L xs) D s_e166.1 11 [(0, .ref 0), (1, .int b), (2, .int c), (3, .int d), (4, .int e), (5, .int f)] [.int r3] (v_mk s3) _
    rcases v_if h with ⟨c4, h⟩ | ⟨c4, h⟩
    · refine v_i1f (T := 16) rfl rfl (fun q => q c4) ?_
      refine s_ek_bk 1 (P := 15) (ls' := [(0, .ref 0), (1, .int b), (2, .int c), (3, .int d), (4, .int e), (5, .int f)]) (st' := [.int (-1)]) (M' := v_mk s3) rfl ?_
      obtain ⟨rfl, rfl⟩ := v_so h
      exact v_ret (fun _ => rfl)
    · refine v_i1t (T := 16) rfl rfl c4 ?_
      refine s_ek_bk 2 (P := 18) (ls' := [(0, .ref 0), (1, .int b), (2, .int c), (3, .int d), (4, .int e), (5, .int f)]) (st' := [.int b, .ref 0]) (M' := v_mk s3) rfl ?_
      obtain ⟨r5, s5, e5, h⟩ := v_bd h
      refine v_cV (ν := s_e176.1) (w := 1409) (a := 0) (as' := [.int b]) (r := []) (o := some (.ref r5)) (by omega) rfl rfl rfl (v_mk_kd (k := 10) (rfl : v_kd 0 = 10) (by decide)) rfl (t_Ol_shelfAt e5 (by omega)) ?_
      obtain ⟨c6, h⟩ := v_ck h
      show s_Ek (s_rows 3 L xs) D s_e166.1 21 [(0, .ref 0), (1, .int b), (2, .int c), (3, .int d), (4, .int e), (5, .int f)] [.ref r5] (v_mk s5) _
      refine s_ek_bk 3 (P := 25) (ls' := [(6, .ref r5), (0, .ref 0), (1, .int b), (2, .int c), (3, .int d), (4, .int e), (5, .int f)]) (st' := [.int d, .ref 0]) (M' := v_mk s5) rfl ?_
      obtain ⟨r7, s7, e7, h⟩ := v_bd h
      refine v_cV (ν := s_e176.1) (w := 1409) (a := 0) (as' := [.int d]) (r := []) (o := some (.ref r7)) (by omega) rfl rfl rfl (v_mk_kd (k := 10) (rfl : v_kd 0 = 10) (by decide)) rfl (t_Ol_shelfAt e7 (by omega)) ?_
      obtain ⟨c8, h⟩ := v_ck h
      show s_Ek (s_rows 3 L xs) D s_e166.1 28 [(6, .ref r5), (0, .ref 0), (1, .int b), (2, .int c), (3, .int d), (4, .int e), (5, .int f)] [.ref r7] (v_mk s7) _
      refine s_ek_bk 2 (P := 32) (ls' := [(7, .ref r7), (6, .ref r5), (0, .ref 0), (1, .int b), (2, .int c), (3, .int d), (4, .int e), (5, .int f)]) (st' := [.ref r5]) (M' := v_mk s7) rfl ?_
      obtain ⟨r9, s9, e9, h⟩ := v_bd h
      refine v_cV (ν := s_e84.1) (w := 672) (a := r5) (as' := []) (r := []) (o := some (.int r9)) (by omega) rfl rfl rfl (v_mk_kd (k := 6) c6 (by decide)) rfl (t_Sh_isBare c6 e9 (by omega)) ?_
      show s_Ek (s_rows 3 L xs) D s_e166.1 35 [(7, .ref r7), (6, .ref r5), (0, .ref 0), (1, .int b), (2, .int c), (3, .int d), (4, .int e), (5, .int f)] [.int r9] (v_mk s9) _
      rcases v_if h with ⟨c10, h⟩ | ⟨c10, h⟩
      · refine v_i1f (T := 46) rfl rfl (fun q => q c10) ?_
        refine s_ek_bk 1 (P := 40) (ls' := [(7, .ref r7), (6, .ref r5), (0, .ref 0), (1, .int b), (2, .int c), (3, .int d), (4, .int e), (5, .int f)]) (st' := [.ref r7]) (M' := v_mk s9) rfl ?_
        obtain ⟨r11, s11, e11, h⟩ := v_bd h
        refine v_cV (ν := s_e84.1) (w := 672) (a := r7) (as' := []) (r := []) (o := some (.int r11)) (by omega) rfl rfl rfl (v_mk_kd (k := 6) c8 (by decide)) rfl (t_Sh_isBare c8 e11 (by omega)) ?_
        show s_Ek (s_rows 3 L xs) D s_e166.1 43 [(7, .ref r7), (6, .ref r5), (0, .ref 0), (1, .int b), (2, .int c), (3, .int d), (4, .int e), (5, .int f)] [.int r11] (v_mk s11) _
        rcases v_if h with ⟨c12, h⟩ | ⟨c12, h⟩
        · refine v_i1t (T := 49) rfl rfl c12 ?_
          refine s_ek_bk 1 (P := 51) (ls' := [(7, .ref r7), (6, .ref r5), (0, .ref 0), (1, .int b), (2, .int c), (3, .int d), (4, .int e), (5, .int f)]) (st' := [.ref r5]) (M' := v_mk s11) rfl ?_
          obtain ⟨r13, s13, e13, h⟩ := v_bd h
          refine v_cV (ν := s_e85.1) (w := 680) (a := r5) (as' := []) (r := []) (o := some (.int r13)) (by omega) rfl rfl rfl (v_mk_kd (k := 6) c6 (by decide)) rfl (t_Sh_isRow c6 e13 (by omega)) ?_
          show s_Ek (s_rows 3 L xs) D s_e166.1 54 [(7, .ref r7), (6, .ref r5), (0, .ref 0), (1, .int b), (2, .int c), (3, .int d), (4, .int e), (5, .int f)] [.int r13] (v_mk s13) _
          rcases v_if h with ⟨c14, h⟩ | ⟨c14, h⟩
          · refine v_i1t (T := 70) rfl rfl c14 ?_
            refine s_ek_bk 1 (P := 72) (ls' := [(7, .ref r7), (6, .ref r5), (0, .ref 0), (1, .int b), (2, .int c), (3, .int d), (4, .int e), (5, .int f)]) (st' := [.int (-12)]) (M' := v_mk s13) rfl ?_
            obtain ⟨rfl, rfl⟩ := v_so h
            exact v_ret (fun _ => rfl)
          · refine v_i1f (T := 70) rfl rfl c14 ?_
            refine s_ek_bk 1 (P := 59) (ls' := [(7, .ref r7), (6, .ref r5), (0, .ref 0), (1, .int b), (2, .int c), (3, .int d), (4, .int e), (5, .int f)]) (st' := [.ref r5]) (M' := v_mk s13) rfl ?_
            refine v_gf rfl (v_gi c6 (v_tK (j := 0) v_is6 (by decide) c6) ⟨rfl, rfl, by decide⟩) ?_
            refine s_ek_bk 1 (P := 64) (ls' := [(7, .ref r7), (6, .ref r5), (0, .ref 0), (1, .int b), (2, .int c), (3, .int d), (4, .int e), (5, .int f)]) (st' := [.ref r7, .int (s13.1 r5 0)]) (M' := v_mk s13) rfl ?_
            refine v_gf rfl (v_gi c8 (v_tK (j := 0) v_is6 (by decide) c8) ⟨rfl, rfl, by decide⟩) ?_
            rcases v_if h with ⟨c15, h⟩ | ⟨c15, h⟩
            · refine v_i2t (T := 73) rfl rfl c15 ?_
              refine s_ek_bk 3 (P := 78) (ls' := [(7, .ref r7), (6, .ref r5), (0, .ref 0), (1, .int b), (2, .int c), (3, .int d), (4, .int e), (5, .int f)]) (st' := [.int f, .int c, .ref r5]) (M' := v_mk s13) rfl ?_
              obtain ⟨r16, s16, e16, h⟩ := v_bd h
              refine v_cV (ν := s_e89.1) (w := 714) (a := r5) (as' := [.int c, .int f]) (r := []) (o := some (.int r16)) (by omega) rfl rfl rfl (v_mk_kd (k := 6) c6 (by decide)) rfl (t_Sh_hasPlaces c6 e16 (by omega)) ?_
              show s_Ek (s_rows 3 L xs) D s_e166.1 81 [(7, .ref r7), (6, .ref r5), (0, .ref 0), (1, .int b), (2, .int c), (3, .int d), (4, .int e), (5, .int f)] [.int r16] (v_mk s16) _
              rcases v_if h with ⟨c17, h⟩ | ⟨c17, h⟩
              · refine v_i1t (T := 96) rfl rfl c17 ?_
                refine s_ek_bk 1 (P := 98) (ls' := [(7, .ref r7), (6, .ref r5), (0, .ref 0), (1, .int b), (2, .int c), (3, .int d), (4, .int e), (5, .int f)]) (st' := [.int (-13)]) (M' := v_mk s16) rfl ?_
                obtain ⟨rfl, rfl⟩ := v_so h
                exact v_ret (fun _ => rfl)
              · refine v_i1f (T := 96) rfl rfl c17 ?_
                refine s_ek_bk 3 (P := 90) (ls' := [(7, .ref r7), (6, .ref r5), (0, .ref 0), (1, .int b), (2, .int c), (3, .int d), (4, .int e), (5, .int f)]) (st' := [.int f, .int e, .ref r7]) (M' := v_mk s16) rfl ?_
                obtain ⟨r18, s18, e18, h⟩ := v_bd h
                refine v_cV (ν := s_e89.1) (w := 714) (a := r7) (as' := [.int e, .int f]) (r := []) (o := some (.int r18)) (by omega) rfl rfl rfl (v_mk_kd (k := 6) c8 (by decide)) rfl (t_Sh_hasPlaces c8 e18 (by omega)) ?_
                show s_Ek (s_rows 3 L xs) D s_e166.1 93 [(7, .ref r7), (6, .ref r5), (0, .ref 0), (1, .int b), (2, .int c), (3, .int d), (4, .int e), (5, .int f)] [.int r18] (v_mk s18) _
                rcases v_if h with ⟨c19, h⟩ | ⟨c19, h⟩
                · refine v_i1f (T := 99) rfl rfl (fun q => q c19) ?_
                  refine s_ek_bk 1 (P := 98) (ls' := [(7, .ref r7), (6, .ref r5), (0, .ref 0), (1, .int b), (2, .int c), (3, .int d), (4, .int e), (5, .int f)]) (st' := [.int (-13)]) (M' := v_mk s18) rfl ?_
                  obtain ⟨rfl, rfl⟩ := v_so h
                  exact v_ret (fun _ => rfl)
                · refine v_i1t (T := 99) rfl rfl c19 ?_
                  refine s_ek_bk 5 (P := 108) (ls' := [(7, .ref r7), (6, .ref r5), (0, .ref 0), (1, .int b), (2, .int c), (3, .int d), (4, .int e), (5, .int f)]) (st' := [.int f, .int e, .int c, .ref r5, .ref r7]) (M' := v_mk s18) rfl ?_
                  obtain ⟨r20, s20, e20, h⟩ := v_bd h
                  refine v_cV (ν := s_e93.1) (w := 748) (a := r7) (as' := [.ref r5, .int c, .int e, .int f]) (r := []) (o := none) (by omega) rfl rfl rfl (v_mk_kd (k := 6) c8 (by decide)) rfl (t_Sh_copyFrom c8 c6 e20 (by omega)) ?_
                  show s_Ek (s_rows 3 L xs) D s_e166.1 111 [(7, .ref r7), (6, .ref r5), (0, .ref 0), (1, .int b), (2, .int c), (3, .int d), (4, .int e), (5, .int f)] [] (v_mk s20) _
                  refine s_ek_bk 1 (P := 113) (ls' := [(7, .ref r7), (6, .ref r5), (0, .ref 0), (1, .int b), (2, .int c), (3, .int d), (4, .int e), (5, .int f)]) (st' := [.int f]) (M' := v_mk s20) rfl ?_
                  obtain ⟨rfl, rfl⟩ := v_so h
                  exact v_ret (fun _ => rfl)
            · refine v_i2f (T := 73) rfl rfl c15 ?_
              refine s_ek_bk 1 (P := 72) (ls' := [(7, .ref r7), (6, .ref r5), (0, .ref 0), (1, .int b), (2, .int c), (3, .int d), (4, .int e), (5, .int f)]) (st' := [.int (-12)]) (M' := v_mk s13) rfl ?_
              obtain ⟨rfl, rfl⟩ := v_so h
              exact v_ret (fun _ => rfl)
        · refine v_i1f (T := 49) rfl rfl c12 ?_
          refine s_ek_bk 1 (P := 48) (ls' := [(7, .ref r7), (6, .ref r5), (0, .ref 0), (1, .int b), (2, .int c), (3, .int d), (4, .int e), (5, .int f)]) (st' := [.int (-11)]) (M' := v_mk s11) rfl ?_
          obtain ⟨rfl, rfl⟩ := v_so h
          exact v_ret (fun _ => rfl)
      · refine v_i1t (T := 46) rfl rfl c10 ?_
        refine s_ek_bk 1 (P := 48) (ls' := [(7, .ref r7), (6, .ref r5), (0, .ref 0), (1, .int b), (2, .int c), (3, .int d), (4, .int e), (5, .int f)]) (st' := [.int (-11)]) (M' := v_mk s9) rfl ?_
        obtain ⟨rfl, rfl⟩ := v_so h
        exact v_ret (fun _ => rfl)
noncomputable def f_Ol_taken (b : Int32) (c : Int32) (s : vS) : Option (Int32 × vS) := (v_bi (f_Ol_isShelf b s) (fun r1 s1 => (if r1.toInt = 0 then (some ((-1), s1)) else (v_bi (f_Cl_isKind c s1) (fun r3 s3 => (if r3.toInt = 0 then (some ((-1), s3)) else (v_bi (f_Ol_shelfAt b s3) (fun r5 s5 => if v_kd r5 = 6 then (v_bi (f_Sh_isBare r5 s5) (fun r7 s7 => (if r7.toInt = 0 then (if (s7.1 r5 0).toInt = 5 then (v_bi (f_Cl_kindOf (s7.1 r5 1) s7) (fun r10 s10 => (v_bi (f_Cl_isUnder r10 c s10) (fun r11 s11 => (if r11.toInt = 0 then (some ((-12), s11)) else (some (r10, s11))))))) else (v_bi (f_Cl_isUnder (-1) c s7) (fun r13 s13 => (if r13.toInt = 0 then (some ((-12), s13)) else (some ((-1), s13)))))) else (some ((-11), s7))))) else none))))))))
set_option maxRecDepth 20000 in
set_option maxHeartbeats 4000000 in
theorem t_Ol_taken {L : Nat} {xs : Nat → Int32} {b : Int32} {c : Int32} {D : Nat} {r : Int32} {s s' : vS} (h : f_Ol_taken b c s = some (r, s')) (hD : 2 ≤ D) : s_Ek (s_rows 3 L xs) D s_e167.1 0 (lv_args 0 [.ref 0, .int b, .int c]) [] (v_mk s) (v_Q (some (.int r)) s') := by
  unfold f_Ol_taken at h
  show s_Ek (s_rows 3 L xs) D s_e167.1 0 [(0, .ref 0), (1, .int b), (2, .int c)] [] (v_mk s) _
  refine s_ek_bk 1 (P := 1) (ls' := [(0, .ref 0), (1, .int b), (2, .int c)]) (st' := [.int b]) (M' := v_mk s) rfl ?_
  obtain ⟨r1, s1, e1, h⟩ := v_bd h
  refine v_cS (ν := s_e175.1) (w := 1401) (as := [.int b]) (r := []) (o := some (.int r1)) (by omega) rfl rfl rfl rfl (t_Ol_isShelf e1 (by omega)) ?_
  show s_Ek (s_rows 3 L xs) D s_e167.1 4 [(0, .ref 0), (1, .int b), (2, .int c)] [.int r1] (v_mk s1) _
  rcases v_if h with ⟨c2, h⟩ | ⟨c2, h⟩
  · refine v_i1t (T := 14) rfl rfl c2 ?_
    refine s_ek_bk 1 (P := 15) (ls' := [(0, .ref 0), (1, .int b), (2, .int c)]) (st' := [.int (-1)]) (M' := v_mk s1) rfl ?_
    obtain ⟨rfl, rfl⟩ := v_so h
    exact v_ret (fun _ => rfl)
  · refine v_i1f (T := 14) rfl rfl c2 ?_
    refine s_ek_bk 1 (P := 8) (ls' := [(0, .ref 0), (1, .int b), (2, .int c)]) (st' := [.int c]) (M' := v_mk s1) rfl ?_
    obtain ⟨r3, s3, e3, h⟩ := v_bd h
    refine v_cS (ν := s_e25.1) (w := 201) (as := [.int c]) (r := []) (o := some (.int r3)) (by omega) rfl rfl rfl rfl (t_Cl_isKind e3 (by omega)) ?_
    show s_Ek (s_rows 3 L xs) D s_e167.1 11 [(0, .ref 0), (1, .int b), (2, .int c)] [.int r3] (v_mk s3) _
    rcases v_if h with ⟨c4, h⟩ | ⟨c4, h⟩
    · refine v_i1f (T := 16) rfl rfl (fun q => q c4) ?_
      refine s_ek_bk 1 (P := 15) (ls' := [(0, .ref 0), (1, .int b), (2, .int c)]) (st' := [.int (-1)]) (M' := v_mk s3) rfl ?_
      obtain ⟨rfl, rfl⟩ := v_so h
      exact v_ret (fun _ => rfl)
    · refine v_i1t (T := 16) rfl rfl c4 ?_
      refine s_ek_bk 2 (P := 18) (ls' := [(0, .ref 0), (1, .int b), (2, .int c)]) (st' := [.int b, .ref 0]) (M' := v_mk s3) rfl ?_
      obtain ⟨r5, s5, e5, h⟩ := v_bd h
      refine v_cV (ν := s_e176.1) (w := 1409) (a := 0) (as' := [.int b]) (r := []) (o := some (.ref r5)) (by omega) rfl rfl rfl (v_mk_kd (k := 10) (rfl : v_kd 0 = 10) (by decide)) rfl (t_Ol_shelfAt e5 (by omega)) ?_
      obtain ⟨c6, h⟩ := v_ck h
      show s_Ek (s_rows 3 L xs) D s_e167.1 21 [(0, .ref 0), (1, .int b), (2, .int c)] [.ref r5] (v_mk s5) _
      refine s_ek_bk 2 (P := 23) (ls' := [(3, .ref r5), (0, .ref 0), (1, .int b), (2, .int c)]) (st' := [.ref r5]) (M' := v_mk s5) rfl ?_
      obtain ⟨r7, s7, e7, h⟩ := v_bd h
      refine v_cV (ν := s_e84.1) (w := 672) (a := r5) (as' := []) (r := []) (o := some (.int r7)) (by omega) rfl rfl rfl (v_mk_kd (k := 6) c6 (by decide)) rfl (t_Sh_isBare c6 e7 (by omega)) ?_
      show s_Ek (s_rows 3 L xs) D s_e167.1 26 [(3, .ref r5), (0, .ref 0), (1, .int b), (2, .int c)] [.int r7] (v_mk s7) _
      rcases v_if h with ⟨c8, h⟩ | ⟨c8, h⟩
      · refine v_i1t (T := 32) rfl rfl c8 ?_
        refine s_ek_bk 1 (P := 33) (ls' := [(3, .ref r5), (0, .ref 0), (1, .int b), (2, .int c)]) (st' := [.ref r5]) (M' := v_mk s7) rfl ?_
        refine v_gf rfl (v_gi c6 (v_tK (j := 0) v_is6 (by decide) c6) ⟨rfl, rfl, by decide⟩) ?_
        refine s_ek_bk 1 (P := 37) (ls' := [(3, .ref r5), (0, .ref 0), (1, .int b), (2, .int c)]) (st' := [.int 5, .int (s7.1 r5 0)]) (M' := v_mk s7) rfl ?_
        rcases v_if h with ⟨c9, h⟩ | ⟨c9, h⟩
        · refine v_i2f (T := 54) rfl rfl (fun q => q c9) ?_
          refine s_ek_bk 1 (P := 41) (ls' := [(3, .ref r5), (0, .ref 0), (1, .int b), (2, .int c)]) (st' := [.ref 0]) (M' := v_mk s7) rfl ?_
          refine v_gf rfl (v_gr (rfl : v_kd 0 = 10) (rfl : v_sl 0 7 = .ref 132) ⟨rfl, rfl, by decide⟩) ?_
          refine s_ek_bk 1 (P := 45) (ls' := [(3, .ref r5), (0, .ref 0), (1, .int b), (2, .int c)]) (st' := [.ref r5, .ref 132]) (M' := v_mk s7) rfl ?_
          refine v_gf rfl (v_gi c6 (v_tK (j := 1) v_is6 (by decide) c6) ⟨rfl, rfl, by decide⟩) ?_
          obtain ⟨r10, s10, e10, h⟩ := v_bd h
          refine v_cV (ν := s_e30.1) (w := 241) (a := 132) (as' := [.int (s7.1 r5 1)]) (r := []) (o := some (.int r10)) (by omega) rfl rfl rfl (v_mk_kd (k := 2) (rfl : v_kd 132 = 2) (by decide)) rfl (t_Cl_kindOf e10 (by omega)) ?_
          show s_Ek (s_rows 3 L xs) D s_e167.1 51 [(3, .ref r5), (0, .ref 0), (1, .int b), (2, .int c)] [.int r10] (v_mk s10) _
          refine s_ek_bk 4 (P := 60) (ls' := [(4, .int r10), (3, .ref r5), (0, .ref 0), (1, .int b), (2, .int c)]) (st' := [.int c, .int r10]) (M' := v_mk s10) rfl ?_
          obtain ⟨r11, s11, e11, h⟩ := v_bd h
          refine v_cS (ν := s_e27.1) (w := 218) (as := [.int r10, .int c]) (r := []) (o := some (.int r11)) (by omega) rfl rfl rfl rfl (t_Cl_isUnder e11 (by omega)) ?_
          show s_Ek (s_rows 3 L xs) D s_e167.1 63 [(4, .int r10), (3, .ref r5), (0, .ref 0), (1, .int b), (2, .int c)] [.int r11] (v_mk s11) _
          rcases v_if h with ⟨c12, h⟩ | ⟨c12, h⟩
          · refine v_i1t (T := 71) rfl rfl c12 ?_
            refine s_ek_bk 1 (P := 73) (ls' := [(4, .int r10), (3, .ref r5), (0, .ref 0), (1, .int b), (2, .int c)]) (st' := [.int (-12)]) (M' := v_mk s11) rfl ?_
            obtain ⟨rfl, rfl⟩ := v_so h
            exact v_ret (fun _ => rfl)
          · refine v_i1f (T := 71) rfl rfl c12 ?_
            refine s_ek_bk 2 (P := 73) (ls' := [(4, .int r10), (3, .ref r5), (0, .ref 0), (1, .int b), (2, .int c)]) (st' := [.int r10]) (M' := v_mk s11) rfl ?_
            obtain ⟨rfl, rfl⟩ := v_so h
            exact v_ret (fun _ => rfl)
        · refine v_i2t (T := 54) rfl rfl c9 ?_
          refine s_ek_bk 4 (P := 60) (ls' := [(4, .int (-1)), (3, .ref r5), (0, .ref 0), (1, .int b), (2, .int c)]) (st' := [.int c, .int (-1)]) (M' := v_mk s7) rfl ?_
          obtain ⟨r13, s13, e13, h⟩ := v_bd h
          refine v_cS (ν := s_e27.1) (w := 218) (as := [.int (-1), .int c]) (r := []) (o := some (.int r13)) (by omega) rfl rfl rfl rfl (t_Cl_isUnder e13 (by omega)) ?_
          show s_Ek (s_rows 3 L xs) D s_e167.1 63 [(4, .int (-1)), (3, .ref r5), (0, .ref 0), (1, .int b), (2, .int c)] [.int r13] (v_mk s13) _
          rcases v_if h with ⟨c14, h⟩ | ⟨c14, h⟩
          · refine v_i1t (T := 71) rfl rfl c14 ?_
            refine s_ek_bk 1 (P := 73) (ls' := [(4, .int (-1)), (3, .ref r5), (0, .ref 0), (1, .int b), (2, .int c)]) (st' := [.int (-12)]) (M' := v_mk s13) rfl ?_
            obtain ⟨rfl, rfl⟩ := v_so h
            exact v_ret (fun _ => rfl)
          · refine v_i1f (T := 71) rfl rfl c14 ?_
            refine s_ek_bk 2 (P := 73) (ls' := [(4, .int (-1)), (3, .ref r5), (0, .ref 0), (1, .int b), (2, .int c)]) (st' := [.int (-1)]) (M' := v_mk s13) rfl ?_
            obtain ⟨rfl, rfl⟩ := v_so h
            exact v_ret (fun _ => rfl)
      · refine v_i1f (T := 32) rfl rfl c8 ?_
        refine s_ek_bk 1 (P := 31) (ls' := [(3, .ref r5), (0, .ref 0), (1, .int b), (2, .int c)]) (st' := [.int (-11)]) (M' := v_mk s7) rfl ?_
        obtain ⟨rfl, rfl⟩ := v_so h
        exact v_ret (fun _ => rfl)
noncomputable def f_Ol_count (b : Int32) (s : vS) : Option (Int32 × vS) := (if b.toInt < 0 ∨ 6 < b.toInt then (some ((-1), s)) else (if b.toInt = 0 then (some ((s.1 8 1), s)) else (if b.toInt = 1 then (v_bi (f_Ct_there s) (fun r4 s4 => (v_bi (f_In_bitCount r4 s4) (fun r5 s5 => (some (r5, s5)))))) else (if b.toInt = 2 then (v_bi (f_Ct_hear s) (fun _ s7 => (v_bi (f_In_bitCount (s7.1 8 4) s7) (fun r8 s8 => (some (r8, s8)))))) else (if b.toInt = 3 then (some ((s.1 0 1), s)) else (if b.toInt = 4 then (some ((s.1 73 0), s)) else (if b.toInt = 5 then (some ((s.1 132 0), s)) else (some ((s.1 132 1), s)))))))))
set_option maxRecDepth 20000 in
set_option maxHeartbeats 4000000 in
theorem t_Ol_count {L : Nat} {xs : Nat → Int32} {b : Int32} {D : Nat} {r : Int32} {s s' : vS} (h : f_Ol_count b s = some (r, s')) (hD : 6 ≤ D) : s_Ek (s_rows 3 L xs) D s_e168.1 0 (lv_args 0 [.ref 0, .int b]) [] (v_mk s) (v_Q (some (.int r)) s') := by
  unfold f_Ol_count at h
  show s_Ek (s_rows 3 L xs) D s_e168.1 0 [(0, .ref 0), (1, .int b)] [] (v_mk s) _
  refine s_ek_bk 1 (P := 1) (ls' := [(0, .ref 0), (1, .int b)]) (st' := [.int b]) (M' := v_mk s) rfl ?_
  rcases v_if h with ⟨c1, h⟩ | ⟨c1, h⟩
  · refine v_tso (T := 110) rfl rfl c1 ?_
    refine s_ek_bk 1 (P := 111) (ls' := [(0, .ref 0), (1, .int b)]) (st' := [.int (-1)]) (M' := v_mk s) rfl ?_
    obtain ⟨rfl, rfl⟩ := v_so h
    exact v_ret (fun _ => rfl)
  · rcases v_if h with ⟨c2, h⟩ | ⟨c2, h⟩
    · refine v_tsi (T := 44) (c := 0) rfl c2 rfl ?_
      refine s_ek_bk 1 (P := 45) (ls' := [(0, .ref 0), (1, .int b)]) (st' := [.ref 0]) (M' := v_mk s) rfl ?_
      refine v_gf rfl (v_gr (rfl : v_kd 0 = 10) (rfl : v_sl 0 4 = .ref 8) ⟨rfl, rfl, by decide⟩) ?_
      refine v_gf rfl (v_gi (rfl : v_kd 8 = 3) rfl ⟨rfl, rfl, by decide⟩) ?_
      obtain ⟨rfl, rfl⟩ := v_so h
      exact v_ret (fun _ => rfl)
    · rcases v_if h with ⟨c3, h⟩ | ⟨c3, h⟩
      · refine v_tsi (T := 52) (c := 1) rfl c3 rfl ?_
        refine s_ek_bk 1 (P := 53) (ls' := [(0, .ref 0), (1, .int b)]) (st' := [.ref 0]) (M' := v_mk s) rfl ?_
        refine v_gf rfl (v_gr (rfl : v_kd 0 = 10) (rfl : v_sl 0 4 = .ref 8) ⟨rfl, rfl, by decide⟩) ?_
        obtain ⟨r4, s4, e4, h⟩ := v_bd h
        refine v_cV (ν := s_e47.1) (w := 376) (a := 8) (as' := []) (r := []) (o := some (.int r4)) (by omega) rfl rfl rfl (v_mk_kd (k := 3) (rfl : v_kd 8 = 3) (by decide)) rfl (t_Ct_there e4 (by omega)) ?_
        show s_Ek (s_rows 3 L xs) D s_e168.1 59 [(0, .ref 0), (1, .int b)] [.int r4] (v_mk s4) _
        obtain ⟨r5, s5, e5, h⟩ := v_bd h
        refine v_cS (ν := s_e289.1) (w := 2313) (as := [.int r4]) (r := []) (o := some (.int r5)) (by omega) rfl rfl rfl rfl (t_In_bitCount e5 (by omega)) ?_
        show s_Ek (s_rows 3 L xs) D s_e168.1 62 [(0, .ref 0), (1, .int b)] [.int r5] (v_mk s5) _
        obtain ⟨rfl, rfl⟩ := v_so h
        exact v_ret (fun _ => rfl)
      · rcases v_if h with ⟨c6, h⟩ | ⟨c6, h⟩
        · refine v_tsi (T := 63) (c := 2) rfl c6 rfl ?_
          refine s_ek_bk 1 (P := 64) (ls' := [(0, .ref 0), (1, .int b)]) (st' := [.ref 0]) (M' := v_mk s) rfl ?_
          refine v_gf rfl (v_gr (rfl : v_kd 0 = 10) (rfl : v_sl 0 4 = .ref 8) ⟨rfl, rfl, by decide⟩) ?_
          obtain ⟨r7, s7, e7, h⟩ := v_bd h
          refine v_cV (ν := s_e48.1) (w := 384) (a := 8) (as' := []) (r := []) (o := none) (by omega) rfl rfl rfl (v_mk_kd (k := 3) (rfl : v_kd 8 = 3) (by decide)) rfl (t_Ct_hear e7 (by omega)) ?_
          show s_Ek (s_rows 3 L xs) D s_e168.1 70 [(0, .ref 0), (1, .int b)] [] (v_mk s7) _
          refine s_ek_bk 1 (P := 71) (ls' := [(0, .ref 0), (1, .int b)]) (st' := [.ref 0]) (M' := v_mk s7) rfl ?_
          refine v_gf rfl (v_gr (rfl : v_kd 0 = 10) (rfl : v_sl 0 4 = .ref 8) ⟨rfl, rfl, by decide⟩) ?_
          refine v_gf rfl (v_gi (rfl : v_kd 8 = 3) rfl ⟨rfl, rfl, by decide⟩) ?_
          obtain ⟨r8, s8, e8, h⟩ := v_bd h
          refine v_cS (ν := s_e289.1) (w := 2313) (as := [.int (s7.1 8 4)]) (r := []) (o := some (.int r8)) (by omega) rfl rfl rfl rfl (t_In_bitCount e8 (by omega)) ?_
          show s_Ek (s_rows 3 L xs) D s_e168.1 80 [(0, .ref 0), (1, .int b)] [.int r8] (v_mk s8) _
          obtain ⟨rfl, rfl⟩ := v_so h
          exact v_ret (fun _ => rfl)
        · rcases v_if h with ⟨c9, h⟩ | ⟨c9, h⟩
          · refine v_tsi (T := 81) (c := 3) rfl c9 rfl ?_
            refine s_ek_bk 1 (P := 82) (ls' := [(0, .ref 0), (1, .int b)]) (st' := [.ref 0]) (M' := v_mk s) rfl ?_
            refine v_gf rfl (v_gi (rfl : v_kd 0 = 10) rfl ⟨rfl, rfl, by decide⟩) ?_
            obtain ⟨rfl, rfl⟩ := v_so h
            exact v_ret (fun _ => rfl)
          · rcases v_if h with ⟨c10, h⟩ | ⟨c10, h⟩
            · refine v_tsi (T := 86) (c := 4) rfl c10 rfl ?_
              refine s_ek_bk 1 (P := 87) (ls' := [(0, .ref 0), (1, .int b)]) (st' := [.ref 0]) (M' := v_mk s) rfl ?_
              refine v_gf rfl (v_gr (rfl : v_kd 0 = 10) (rfl : v_sl 0 5 = .ref 73) ⟨rfl, rfl, by decide⟩) ?_
              refine v_gf rfl (v_gi (rfl : v_kd 73 = 1) rfl ⟨rfl, rfl, by decide⟩) ?_
              obtain ⟨rfl, rfl⟩ := v_so h
              exact v_ret (fun _ => rfl)
            · rcases v_if h with ⟨c11, h⟩ | ⟨c11, h⟩
              · refine v_tsi (T := 94) (c := 5) rfl c11 rfl ?_
                refine s_ek_bk 1 (P := 95) (ls' := [(0, .ref 0), (1, .int b)]) (st' := [.ref 0]) (M' := v_mk s) rfl ?_
                refine v_gf rfl (v_gr (rfl : v_kd 0 = 10) (rfl : v_sl 0 7 = .ref 132) ⟨rfl, rfl, by decide⟩) ?_
                refine v_gf rfl (v_gi (rfl : v_kd 132 = 2) rfl ⟨rfl, rfl, by decide⟩) ?_
                obtain ⟨rfl, rfl⟩ := v_so h
                exact v_ret (fun _ => rfl)
              · refine v_tsi (T := 102) (c := 6) rfl (by omega) rfl ?_
                refine s_ek_bk 1 (P := 103) (ls' := [(0, .ref 0), (1, .int b)]) (st' := [.ref 0]) (M' := v_mk s) rfl ?_
                refine v_gf rfl (v_gr (rfl : v_kd 0 = 10) (rfl : v_sl 0 7 = .ref 132) ⟨rfl, rfl, by decide⟩) ?_
                refine v_gf rfl (v_gi (rfl : v_kd 132 = 2) rfl ⟨rfl, rfl, by decide⟩) ?_
                obtain ⟨rfl, rfl⟩ := v_so h
                exact v_ret (fun _ => rfl)
noncomputable def f_Md_in (b : Int32) (c : Int32) (d : Int32) (s : vS) : Option (Int32 × vS) := (if b.toInt < c.toInt then (some (0, s)) else (if d.toInt < b.toInt then (some (0, s)) else (some (1, s))))
set_option maxRecDepth 20000 in
set_option maxHeartbeats 4000000 in
theorem t_Md_in {L : Nat} {xs : Nat → Int32} {b : Int32} {c : Int32} {d : Int32} {D : Nat} {r : Int32} {s s' : vS} (h : f_Md_in b c d s = some (r, s')) (hD : 0 ≤ D) : s_Ek (s_rows 3 L xs) D s_e181.1 0 (lv_args 0 [.int b, .int c, .int d]) [] (v_mk s) (v_Q (some (.int r)) s') := by
  unfold f_Md_in at h
  show s_Ek (s_rows 3 L xs) D s_e181.1 0 [(0, .int b), (1, .int c), (2, .int d)] [] (v_mk s) _
  refine s_ek_bk 2 (P := 2) (ls' := [(0, .int b), (1, .int c), (2, .int d)]) (st' := [.int c, .int b]) (M' := v_mk s) rfl ?_
  rcases v_if h with ⟨c1, h⟩ | ⟨c1, h⟩
  · refine v_i2t (T := 14) rfl rfl c1 ?_
    refine s_ek_bk 1 (P := 15) (ls' := [(0, .int b), (1, .int c), (2, .int d)]) (st' := [.int 0]) (M' := v_mk s) rfl ?_
    obtain ⟨rfl, rfl⟩ := v_so h
    exact v_ret (fun _ => rfl)
  · refine v_i2f (T := 14) rfl rfl c1 ?_
    refine s_ek_bk 2 (P := 7) (ls' := [(0, .int b), (1, .int c), (2, .int d)]) (st' := [.int d, .int b]) (M' := v_mk s) rfl ?_
    rcases v_if h with ⟨c2, h⟩ | ⟨c2, h⟩
    · refine v_i2t (T := 14) rfl rfl c2 ?_
      refine s_ek_bk 1 (P := 15) (ls' := [(0, .int b), (1, .int c), (2, .int d)]) (st' := [.int 0]) (M' := v_mk s) rfl ?_
      obtain ⟨rfl, rfl⟩ := v_so h
      exact v_ret (fun _ => rfl)
    · refine v_i2f (T := 14) rfl rfl c2 ?_
      refine s_ek_bk 2 (P := 15) (ls' := [(0, .int b), (1, .int c), (2, .int d)]) (st' := [.int 1]) (M' := v_mk s) rfl ?_
      obtain ⟨rfl, rfl⟩ := v_so h
      exact v_ret (fun _ => rfl)
noncomputable def f_Md_bitsOf_L4b (k20 : Int32 → vS → Option (Int32 × vS)) (again : Int32 → Int32 → vS → Option (Int32 × vS)) (v1 : Int32) (v2 : Int32) (s : vS) : Option (Int32 × vS) := (if v2.toInt = 0 then (k20 v1 s) else (again (v1 + 1) (v2 &&& (v2 - (1 : Int32))) s))
noncomputable def f_Md_bitsOf_L4 (k20 : Int32 → vS → Option (Int32 × vS)) (n : Nat) : Int32 → Int32 → vS → Option (Int32 × vS) := Nat.rec (motive := fun _ => Int32 → Int32 → vS → Option (Int32 × vS)) (fun _ _ _ => none) (fun _ again => f_Md_bitsOf_L4b k20 again) n
noncomputable def f_Md_bitsOf (b : Int32) (s : vS) : Option (Int32 × vS) := (f_Md_bitsOf_L4 (fun w1 s2 => (some (w1, s2))) 4096 0 b s)
set_option maxRecDepth 20000 in
set_option maxHeartbeats 4000000 in
theorem t_Md_bitsOf_L4 {L : Nat} {xs : Nat → Int32} {k20 : Int32 → vS → Option (Int32 × vS)} {D : Nat} (hD : 0 ≤ D) {r : Int32} {s' : vS} (hk20 : ∀ (v1 : Int32) (s : vS), k20 v1 s = some (r, s') → s_Ek (s_rows 3 L xs) D s_e182.1 20 [(1, .int v1)] [] (v_mk s) (v_Q (some (.int r)) s')) : ∀ (n : Nat) (v1 : Int32) (v2 : Int32) (s : vS), f_Md_bitsOf_L4 k20 n v1 v2 s = some (r, s') → s_Ek (s_rows 3 L xs) D s_e182.1 4 [(1, .int v1), (2, .int v2)] [] (v_mk s) (v_Q (some (.int r)) s') := by
  intro n
  induction n with
  | zero => intro v1 v2 s h; exact nomatch (show (none : Option (Int32 × vS)) = some (r, s') from h)
  | succ n ih =>
    intro v1 v2 s h
    replace h : f_Md_bitsOf_L4b k20 (f_Md_bitsOf_L4 k20 n) v1 v2 s = some (r, s') := h
    unfold f_Md_bitsOf_L4b at h
    refine s_ek_bk 1 (P := 5) (ls' := [(1, .int v1), (2, .int v2)]) (st' := [.int v2]) (M' := v_mk s) rfl ?_
    rcases v_if h with ⟨c101, h⟩ | ⟨c101, h⟩
    · refine v_i1t (T := 20) rfl rfl c101 ?_
      refine v_ls (ls' := [(1, .int v1)]) ⟨rfl, trivial⟩ (show ([1] : List Nat).Nodup from by decide) ?_
      exact hk20 _ _ h
    · refine v_i1f (T := 20) rfl rfl c101 ?_
      refine s_ek_bk 8 (P := 4) (ls' := [(2, .int (v2 &&& (v2 - (1 : Int32)))), (1, .int (v1 + 1))]) (st' := []) (M' := v_mk s) rfl ?_
      refine v_ls (ls' := [(1, .int (v1 + 1)), (2, .int (v2 &&& (v2 - (1 : Int32))))]) ⟨rfl, rfl, trivial⟩ (show ([1, 2] : List Nat).Nodup from by decide) ?_
      exact ih _ _ _ h
set_option maxRecDepth 20000 in
set_option maxHeartbeats 4000000 in
theorem t_Md_bitsOf {L : Nat} {xs : Nat → Int32} {b : Int32} {D : Nat} {r : Int32} {s s' : vS} (h : f_Md_bitsOf b s = some (r, s')) (hD : 0 ≤ D) : s_Ek (s_rows 3 L xs) D s_e182.1 0 (lv_args 0 [.int b]) [] (v_mk s) (v_Q (some (.int r)) s') := by
  unfold f_Md_bitsOf at h
  show s_Ek (s_rows 3 L xs) D s_e182.1 0 [(0, .int b)] [] (v_mk s) _
  refine s_ek_bk 4 (P := 4) (ls' := [(2, .int b), (1, .int 0), (0, .int b)]) (st' := []) (M' := v_mk s) rfl ?_
  refine v_ls (ls' := [(1, .int 0), (2, .int b)]) ⟨rfl, rfl, trivial⟩ (show ([1, 2] : List Nat).Nodup from by decide) ?_
  refine t_Md_bitsOf_L4 (by omega) (fun w1 s2 h => ?_) 4096 _ _ _ h
  show s_Ek (s_rows 3 L xs) D s_e182.1 20 [(1, .int w1)] [] (v_mk s2) _
  refine s_ek_bk 1 (P := 21) (ls' := [(1, .int w1)]) (st' := [.int w1]) (M' := v_mk s2) rfl ?_
  obtain ⟨rfl, rfl⟩ := v_so h
  exact v_ret (fun _ => rfl)
noncomputable def f_Md_feed (b : Int32) (s : vS) : Option (Int32 × vS) := (v_bi (f_Md_in b 0 255 s) (fun r1 s1 => (if r1.toInt = 0 then (some ((-1), s1)) else (if (s1.1 151 2).toInt = 60 then (some ((-3), s1)) else (if v_in (s1.1 151 2) 60 then (v_let (v_w1 s1 152 (Int32.toNatClampNeg (s1.1 151 2)) (vp_nar .byte (Int8.toInt32 (Int32.toInt8 b)))) (fun s5 => (v_let (v_w1 s5 151 2 ((s5.1 151 2) + (1 : Int32))) (fun s6 => (some ((s6.1 151 2), s6)))))) else none)))))
set_option maxRecDepth 20000 in
set_option maxHeartbeats 4000000 in
theorem t_Md_feed {L : Nat} {xs : Nat → Int32} {b : Int32} {D : Nat} {r : Int32} {s s' : vS} (h : f_Md_feed b s = some (r, s')) (hD : 1 ≤ D) : s_Ek (s_rows 3 L xs) D s_e183.1 0 (lv_args 0 [.ref 151, .int b]) [] (v_mk s) (v_Q (some (.int r)) s') := by
  unfold f_Md_feed at h
  show s_Ek (s_rows 3 L xs) D s_e183.1 0 [(0, .ref 151), (1, .int b)] [] (v_mk s) _
  refine s_ek_bk 3 (P := 5) (ls' := [(0, .ref 151), (1, .int b)]) (st' := [.int 255, .int 0, .int b]) (M' := v_mk s) rfl ?_
  obtain ⟨r1, s1, e1, h⟩ := v_bd h
  refine v_cS (ν := s_e181.1) (w := 1451) (as := [.int b, .int 0, .int 255]) (r := []) (o := some (.int r1)) (by omega) rfl rfl rfl rfl (t_Md_in e1 (by omega)) ?_
  show s_Ek (s_rows 3 L xs) D s_e183.1 8 [(0, .ref 151), (1, .int b)] [.int r1] (v_mk s1) _
  rcases v_if h with ⟨c2, h⟩ | ⟨c2, h⟩
  · refine v_i1f (T := 13) rfl rfl (fun q => q c2) ?_
    refine s_ek_bk 1 (P := 12) (ls' := [(0, .ref 151), (1, .int b)]) (st' := [.int (-1)]) (M' := v_mk s1) rfl ?_
    obtain ⟨rfl, rfl⟩ := v_so h
    exact v_ret (fun _ => rfl)
  · refine v_i1t (T := 13) rfl rfl c2 ?_
    refine s_ek_bk 1 (P := 14) (ls' := [(0, .ref 151), (1, .int b)]) (st' := [.ref 151]) (M' := v_mk s1) rfl ?_
    refine v_gf rfl (v_gi (rfl : v_kd 151 = 11) rfl ⟨rfl, rfl, by decide⟩) ?_
    refine s_ek_bk 1 (P := 19) (ls' := [(0, .ref 151), (1, .int b)]) (st' := [.int 60, .int (s1.1 151 2)]) (M' := v_mk s1) rfl ?_
    rcases v_if h with ⟨c3, h⟩ | ⟨c3, h⟩
    · refine v_i2f (T := 25) rfl rfl (fun q => q c3) ?_
      refine s_ek_bk 1 (P := 24) (ls' := [(0, .ref 151), (1, .int b)]) (st' := [.int (-3)]) (M' := v_mk s1) rfl ?_
      obtain ⟨rfl, rfl⟩ := v_so h
      exact v_ret (fun _ => rfl)
    · refine v_i2t (T := 25) rfl rfl c3 ?_
      refine s_ek_bk 1 (P := 26) (ls' := [(0, .ref 151), (1, .int b)]) (st' := [.ref 151]) (M' := v_mk s1) rfl ?_
      refine v_gf rfl (v_gr (rfl : v_kd 151 = 11) (rfl : v_sl 151 1 = .ref 152) ⟨rfl, rfl, by decide⟩) ?_
      refine s_ek_bk 1 (P := 30) (ls' := [(0, .ref 151), (1, .int b)]) (st' := [.ref 151, .ref 152]) (M' := v_mk s1) rfl ?_
      refine v_gf rfl (v_gi (rfl : v_kd 151 = 11) rfl ⟨rfl, rfl, by decide⟩) ?_
      refine s_ek_bk 2 (P := 35) (ls' := [(0, .ref 151), (1, .int b)]) (st' := [.int (Int8.toInt32 (Int32.toInt8 b)), .int (s1.1 151 2), .ref 152]) (M' := v_mk s1) rfl ?_
      obtain ⟨c4, h⟩ := v_ck h
      obtain ⟨s5, es5, h⟩ := v_ld h
      refine v_bst (M' := v_mk s5) (i := (s1.1 151 2)) rfl (v_mk_kd (rfl : v_kd 152 = 12) (by decide)) (by rw [es5]; exact v_pai (rfl : v_kd 152 = 12) rfl (by decide) v_all12 (v_cn (rfl : v_ln 152 = 60) c4)) ?_
      refine s_ek_bk 2 (P := 38) (ls' := [(0, .ref 151), (1, .int b)]) (st' := [.ref 151, .ref 151]) (M' := v_mk s5) rfl ?_
      refine v_gf rfl (v_gi (rfl : v_kd 151 = 11) rfl ⟨rfl, rfl, by decide⟩) ?_
      refine s_ek_bk 2 (P := 43) (ls' := [(0, .ref 151), (1, .int b)]) (st' := [.int ((s5.1 151 2) + (1 : Int32)), .ref 151]) (M' := v_mk s5) rfl ?_
      obtain ⟨s6, es6, h⟩ := v_ld h
      refine v_pf (M' := v_mk s6) rfl (by rw [es6]; exact v_pi (rfl : v_kd 151 = 11) rfl ⟨rfl, rfl, by decide⟩ rfl) ?_
      refine s_ek_bk 1 (P := 47) (ls' := [(0, .ref 151), (1, .int b)]) (st' := [.ref 151]) (M' := v_mk s6) rfl ?_
      refine v_gf rfl (v_gi (rfl : v_kd 151 = 11) rfl ⟨rfl, rfl, by decide⟩) ?_
      obtain ⟨rfl, rfl⟩ := v_so h
      exact v_ret (fun _ => rfl)
noncomputable def f_Md_look (s : vS) : Option (Int32 × vS) := (if (s.1 151 2).toInt ≤ (s.1 151 3).toInt then (some ((-1), s)) else (if v_in (s.1 151 3) 60 then (some ((s.1 152 (Int32.toNatClampNeg (s.1 151 3))), s)) else none))
set_option maxRecDepth 20000 in
set_option maxHeartbeats 4000000 in
theorem t_Md_look {L : Nat} {xs : Nat → Int32} {D : Nat} {r : Int32} {s s' : vS} (h : f_Md_look s = some (r, s')) (hD : 0 ≤ D) : s_Ek (s_rows 3 L xs) D s_e184.1 0 (lv_args 0 [.ref 151]) [] (v_mk s) (v_Q (some (.int r)) s') := by
  unfold f_Md_look at h
  show s_Ek (s_rows 3 L xs) D s_e184.1 0 [(0, .ref 151)] [] (v_mk s) _
  refine s_ek_bk 1 (P := 1) (ls' := [(0, .ref 151)]) (st' := [.ref 151]) (M' := v_mk s) rfl ?_
  refine v_gf rfl (v_gi (rfl : v_kd 151 = 11) rfl ⟨rfl, rfl, by decide⟩) ?_
  refine s_ek_bk 1 (P := 5) (ls' := [(0, .ref 151)]) (st' := [.ref 151, .int (s.1 151 3)]) (M' := v_mk s) rfl ?_
  refine v_gf rfl (v_gi (rfl : v_kd 151 = 11) rfl ⟨rfl, rfl, by decide⟩) ?_
  rcases v_if h with ⟨c1, h⟩ | ⟨c1, h⟩
  · refine v_i2t (T := 23) rfl rfl c1 ?_
    refine s_ek_bk 1 (P := 24) (ls' := [(0, .ref 151)]) (st' := [.int (-1)]) (M' := v_mk s) rfl ?_
    obtain ⟨rfl, rfl⟩ := v_so h
    exact v_ret (fun _ => rfl)
  · refine v_i2f (T := 23) rfl rfl c1 ?_
    refine s_ek_bk 1 (P := 12) (ls' := [(0, .ref 151)]) (st' := [.ref 151]) (M' := v_mk s) rfl ?_
    refine v_gf rfl (v_gr (rfl : v_kd 151 = 11) (rfl : v_sl 151 1 = .ref 152) ⟨rfl, rfl, by decide⟩) ?_
    refine s_ek_bk 1 (P := 16) (ls' := [(0, .ref 151)]) (st' := [.ref 151, .ref 152]) (M' := v_mk s) rfl ?_
    refine v_gf rfl (v_gi (rfl : v_kd 151 = 11) rfl ⟨rfl, rfl, by decide⟩) ?_
    obtain ⟨c2, h⟩ := v_ck h
    refine v_ba (i := (s.1 151 3)) rfl (v_ai (rfl : v_kd 152 = 12) rfl (by decide) v_all12 (v_cn (rfl : v_ln 152 = 60) c2)) ?_
    refine s_ek_bk 1 (P := 24) (ls' := [(0, .ref 151)]) (st' := [.int (s.1 152 (Int32.toNatClampNeg (s.1 151 3)))]) (M' := v_mk s) rfl ?_
    obtain ⟨rfl, rfl⟩ := v_so h
    exact v_ret (fun _ => rfl)
noncomputable def f_Md_faulty (s : vS) : Option (Unit × vS) := (if 0 ≤ (s.1 151 4).toInt then (some ((), s)) else (v_let (v_w1 s 151 4 (s.1 151 3)) (fun s2 => (some ((), s2)))))
set_option maxRecDepth 20000 in
set_option maxHeartbeats 4000000 in
theorem t_Md_faulty {L : Nat} {xs : Nat → Int32} {D : Nat} {r : Unit} {s s' : vS} (h : f_Md_faulty s = some (r, s')) (hD : 0 ≤ D) : s_Ek (s_rows 3 L xs) D s_e185.1 0 (lv_args 0 [.ref 151]) [] (v_mk s) (v_Q none s') := by
  unfold f_Md_faulty at h
  show s_Ek (s_rows 3 L xs) D s_e185.1 0 [(0, .ref 151)] [] (v_mk s) _
  refine s_ek_bk 1 (P := 1) (ls' := [(0, .ref 151)]) (st' := [.ref 151]) (M' := v_mk s) rfl ?_
  refine v_gf rfl (v_gi (rfl : v_kd 151 = 11) rfl ⟨rfl, rfl, by decide⟩) ?_
  rcases v_if h with ⟨c1, h⟩ | ⟨c1, h⟩
  · refine v_i1t (T := 15) rfl rfl c1 ?_
    obtain ⟨rfl, rfl⟩ := v_so h
    exact v_ret (fun _ => rfl)
  · refine v_i1f (T := 15) rfl rfl c1 ?_
    refine s_ek_bk 2 (P := 9) (ls' := [(0, .ref 151)]) (st' := [.ref 151, .ref 151]) (M' := v_mk s) rfl ?_
    refine v_gf rfl (v_gi (rfl : v_kd 151 = 11) rfl ⟨rfl, rfl, by decide⟩) ?_
    obtain ⟨s2, es2, h⟩ := v_ld h
    refine v_pf (M' := v_mk s2) rfl (by rw [es2]; exact v_pi (rfl : v_kd 151 = 11) rfl ⟨rfl, rfl, by decide⟩ rfl) ?_
    obtain ⟨rfl, rfl⟩ := v_so h
    exact v_ret (fun _ => rfl)
