/-! functions over the store, and the runs that they stand for: Md_addStep Md_nameOf Md_opens Md_figure Md_product Md_sum Md_compared Md_both Md_either Md_operand Md_line -/
noncomputable def f_Md_addStep (b : Int32) (c : Int32) (s : vS) : Option (Unit × vS) := (if v_in ((1300 : Int32) + (s.1 151 6)) 1430 then (v_let (v_w1 s 153 (Int32.toNatClampNeg ((1300 : Int32) + (s.1 151 6))) (vp_nar .byte (Int8.toInt32 (Int32.toInt8 b)))) (fun s2 => (if v_in ((1300 : Int32) + (s2.1 151 6)) 1430 then (v_let (v_w1 s2 154 (Int32.toNatClampNeg ((1300 : Int32) + (s2.1 151 6))) c) (fun s4 => (v_let (v_w1 s4 151 6 ((s4.1 151 6) + (1 : Int32))) (fun s5 => (some ((), s5)))))) else none))) else none)
set_option maxRecDepth 20000 in
set_option maxHeartbeats 4000000 in
theorem t_Md_addStep {L : Nat} {xs : Nat → Int32} {b : Int32} {c : Int32} {D : Nat} {r : Unit} {s s' : vS} (h : f_Md_addStep b c s = some (r, s')) (hD : 0 ≤ D) : s_Ek (s_rows 3 L xs) D s_e186.1 0 (lv_args 0 [.ref 151, .int b, .int c]) [] (v_mk s) (v_Q none s') := by
  unfold f_Md_addStep at h
  show s_Ek (s_rows 3 L xs) D s_e186.1 0 [(0, .ref 151), (1, .int b), (2, .int c)] [] (v_mk s) _
  refine s_ek_bk 1 (P := 1) (ls' := [(0, .ref 151), (1, .int b), (2, .int c)]) (st' := [.ref 151]) (M' := v_mk s) rfl ?_
  refine v_gf rfl (v_gr (rfl : v_kd 151 = 11) (rfl : v_sl 151 7 = .ref 153) ⟨rfl, rfl, by decide⟩) ?_
  refine s_ek_bk 2 (P := 8) (ls' := [(0, .ref 151), (1, .int b), (2, .int c)]) (st' := [.ref 151, .int 1300, .ref 153]) (M' := v_mk s) rfl ?_
  refine v_gf rfl (v_gi (rfl : v_kd 151 = 11) rfl ⟨rfl, rfl, by decide⟩) ?_
  refine s_ek_bk 3 (P := 14) (ls' := [(0, .ref 151), (1, .int b), (2, .int c)]) (st' := [.int (Int8.toInt32 (Int32.toInt8 b)), .int ((1300 : Int32) + (s.1 151 6)), .ref 153]) (M' := v_mk s) rfl ?_
  obtain ⟨c1, h⟩ := v_ck h
  obtain ⟨s2, es2, h⟩ := v_ld h
  refine v_bst (M' := v_mk s2) (i := ((1300 : Int32) + (s.1 151 6))) rfl (v_mk_kd (rfl : v_kd 153 = 12) (by decide)) (by rw [es2]; exact v_pai (rfl : v_kd 153 = 12) rfl (by decide) v_all12 (v_cn (rfl : v_ln 153 = 1430) c1)) ?_
  refine s_ek_bk 1 (P := 16) (ls' := [(0, .ref 151), (1, .int b), (2, .int c)]) (st' := [.ref 151]) (M' := v_mk s2) rfl ?_
  refine v_gf rfl (v_gr (rfl : v_kd 151 = 11) (rfl : v_sl 151 8 = .ref 154) ⟨rfl, rfl, by decide⟩) ?_
  refine s_ek_bk 2 (P := 23) (ls' := [(0, .ref 151), (1, .int b), (2, .int c)]) (st' := [.ref 151, .int 1300, .ref 154]) (M' := v_mk s2) rfl ?_
  refine v_gf rfl (v_gi (rfl : v_kd 151 = 11) rfl ⟨rfl, rfl, by decide⟩) ?_
  refine s_ek_bk 2 (P := 28) (ls' := [(0, .ref 151), (1, .int b), (2, .int c)]) (st' := [.int c, .int ((1300 : Int32) + (s2.1 151 6)), .ref 154]) (M' := v_mk s2) rfl ?_
  obtain ⟨c3, h⟩ := v_ck h
  obtain ⟨s4, es4, h⟩ := v_ld h
  refine v_ist (M' := v_mk s4) (i := ((1300 : Int32) + (s2.1 151 6))) rfl (by rw [es4]; exact v_pai (rfl : v_kd 154 = 13) rfl (by decide) v_all13 (v_cn (rfl : v_ln 154 = 1430) c3)) ?_
  refine s_ek_bk 2 (P := 31) (ls' := [(0, .ref 151), (1, .int b), (2, .int c)]) (st' := [.ref 151, .ref 151]) (M' := v_mk s4) rfl ?_
  refine v_gf rfl (v_gi (rfl : v_kd 151 = 11) rfl ⟨rfl, rfl, by decide⟩) ?_
  refine s_ek_bk 2 (P := 36) (ls' := [(0, .ref 151), (1, .int b), (2, .int c)]) (st' := [.int ((s4.1 151 6) + (1 : Int32)), .ref 151]) (M' := v_mk s4) rfl ?_
  obtain ⟨s5, es5, h⟩ := v_ld h
  refine v_pf (M' := v_mk s5) rfl (by rw [es5]; exact v_pi (rfl : v_kd 151 = 11) rfl ⟨rfl, rfl, by decide⟩ rfl) ?_
  obtain ⟨rfl, rfl⟩ := v_so h
  exact v_ret (fun _ => rfl)
noncomputable def f_Md_nameOf (b : Int32) (s : vS) : Option (Int32 × vS) := (if b.toInt = 100 then (some (3, s)) else (if b.toInt = 110 then (some (5, s)) else (if b.toInt = 116 then (some (4, s)) else (if b.toInt = 120 then (some (0, s)) else (if b.toInt = 121 then (some (1, s)) else (if b.toInt = 122 then (some (2, s)) else (some ((-1), s))))))))
set_option maxRecDepth 20000 in
set_option maxHeartbeats 4000000 in
theorem t_Md_nameOf {L : Nat} {xs : Nat → Int32} {b : Int32} {D : Nat} {r : Int32} {s s' : vS} (h : f_Md_nameOf b s = some (r, s')) (hD : 0 ≤ D) : s_Ek (s_rows 3 L xs) D s_e187.1 0 (lv_args 0 [.int b]) [] (v_mk s) (v_Q (some (.int r)) s') := by
  unfold f_Md_nameOf at h
  show s_Ek (s_rows 3 L xs) D s_e187.1 0 [(0, .int b)] [] (v_mk s) _
  refine s_ek_bk 1 (P := 1) (ls' := [(0, .int b)]) (st' := [.int b]) (M' := v_mk s) rfl ?_
  rcases v_if h with ⟨c1, h⟩ | ⟨c1, h⟩
  · refine v_lki (T := 66) (c := 100) rfl c1 rfl rfl ?_
    refine s_ek_bk 1 (P := 67) (ls' := [(0, .int b)]) (st' := [.int 3]) (M' := v_mk s) rfl ?_
    obtain ⟨rfl, rfl⟩ := v_so h
    exact v_ret (fun _ => rfl)
  · rcases v_if h with ⟨c2, h⟩ | ⟨c2, h⟩
    · refine v_lki (T := 70) (c := 110) rfl c2 rfl rfl ?_
      refine s_ek_bk 1 (P := 71) (ls' := [(0, .int b)]) (st' := [.int 5]) (M' := v_mk s) rfl ?_
      obtain ⟨rfl, rfl⟩ := v_so h
      exact v_ret (fun _ => rfl)
    · rcases v_if h with ⟨c3, h⟩ | ⟨c3, h⟩
      · refine v_lki (T := 68) (c := 116) rfl c3 rfl rfl ?_
        refine s_ek_bk 1 (P := 69) (ls' := [(0, .int b)]) (st' := [.int 4]) (M' := v_mk s) rfl ?_
        obtain ⟨rfl, rfl⟩ := v_so h
        exact v_ret (fun _ => rfl)
      · rcases v_if h with ⟨c4, h⟩ | ⟨c4, h⟩
        · refine v_lki (T := 60) (c := 120) rfl c4 rfl rfl ?_
          refine s_ek_bk 1 (P := 61) (ls' := [(0, .int b)]) (st' := [.int 0]) (M' := v_mk s) rfl ?_
          obtain ⟨rfl, rfl⟩ := v_so h
          exact v_ret (fun _ => rfl)
        · rcases v_if h with ⟨c5, h⟩ | ⟨c5, h⟩
          · refine v_lki (T := 62) (c := 121) rfl c5 rfl rfl ?_
            refine s_ek_bk 1 (P := 63) (ls' := [(0, .int b)]) (st' := [.int 1]) (M' := v_mk s) rfl ?_
            obtain ⟨rfl, rfl⟩ := v_so h
            exact v_ret (fun _ => rfl)
          · rcases v_if h with ⟨c6, h⟩ | ⟨c6, h⟩
            · refine v_lki (T := 64) (c := 122) rfl c6 rfl rfl ?_
              refine s_ek_bk 1 (P := 65) (ls' := [(0, .int b)]) (st' := [.int 2]) (M' := v_mk s) rfl ?_
              obtain ⟨rfl, rfl⟩ := v_so h
              exact v_ret (fun _ => rfl)
            · refine v_lko (T := 72) rfl ⟨c1, c2, c3, c4, c5, c6, trivial⟩ rfl rfl ?_
              refine s_ek_bk 1 (P := 73) (ls' := [(0, .int b)]) (st' := [.int (-1)]) (M' := v_mk s) rfl ?_
              obtain ⟨rfl, rfl⟩ := v_so h
              exact v_ret (fun _ => rfl)
noncomputable def f_Md_opens (s : vS) : Option (Int32 × vS) := (if (s.1 151 5).toInt = 6 then (v_bi (f_Md_faulty s) (fun _ s2 => (some (0, s2)))) else (v_let (v_w1 s 151 5 ((s.1 151 5) + (1 : Int32))) (fun s3 => (v_let (v_w1 s3 151 3 ((s3.1 151 3) + (1 : Int32))) (fun s4 => (some (1, s4)))))))
set_option maxRecDepth 20000 in
set_option maxHeartbeats 4000000 in
theorem t_Md_opens {L : Nat} {xs : Nat → Int32} {D : Nat} {r : Int32} {s s' : vS} (h : f_Md_opens s = some (r, s')) (hD : 1 ≤ D) : s_Ek (s_rows 3 L xs) D s_e188.1 0 (lv_args 0 [.ref 151]) [] (v_mk s) (v_Q (some (.int r)) s') := by
  unfold f_Md_opens at h
  show s_Ek (s_rows 3 L xs) D s_e188.1 0 [(0, .ref 151)] [] (v_mk s) _
  refine s_ek_bk 1 (P := 1) (ls' := [(0, .ref 151)]) (st' := [.ref 151]) (M' := v_mk s) rfl ?_
  refine v_gf rfl (v_gi (rfl : v_kd 151 = 11) rfl ⟨rfl, rfl, by decide⟩) ?_
  refine s_ek_bk 1 (P := 6) (ls' := [(0, .ref 151)]) (st' := [.int 6, .int (s.1 151 5)]) (M' := v_mk s) rfl ?_
  rcases v_if h with ⟨c1, h⟩ | ⟨c1, h⟩
  · refine v_i2f (T := 15) rfl rfl (fun q => q c1) ?_
    refine s_ek_bk 1 (P := 10) (ls' := [(0, .ref 151)]) (st' := [.ref 151]) (M' := v_mk s) rfl ?_
    obtain ⟨r2, s2, e2, h⟩ := v_bd h
    refine v_cV (ν := s_e185.1) (w := 1480) (a := 151) (as' := []) (r := []) (o := none) (by omega) rfl rfl rfl (v_mk_kd (k := 11) (rfl : v_kd 151 = 11) (by decide)) rfl (t_Md_faulty e2 (by omega)) ?_
    show s_Ek (s_rows 3 L xs) D s_e188.1 13 [(0, .ref 151)] [] (v_mk s2) _
    refine s_ek_bk 1 (P := 14) (ls' := [(0, .ref 151)]) (st' := [.int 0]) (M' := v_mk s2) rfl ?_
    obtain ⟨rfl, rfl⟩ := v_so h
    exact v_ret (fun _ => rfl)
  · refine v_i2t (T := 15) rfl rfl c1 ?_
    refine s_ek_bk 2 (P := 17) (ls' := [(0, .ref 151)]) (st' := [.ref 151, .ref 151]) (M' := v_mk s) rfl ?_
    refine v_gf rfl (v_gi (rfl : v_kd 151 = 11) rfl ⟨rfl, rfl, by decide⟩) ?_
    refine s_ek_bk 2 (P := 22) (ls' := [(0, .ref 151)]) (st' := [.int ((s.1 151 5) + (1 : Int32)), .ref 151]) (M' := v_mk s) rfl ?_
    obtain ⟨s3, es3, h⟩ := v_ld h
    refine v_pf (M' := v_mk s3) rfl (by rw [es3]; exact v_pi (rfl : v_kd 151 = 11) rfl ⟨rfl, rfl, by decide⟩ rfl) ?_
    refine s_ek_bk 2 (P := 27) (ls' := [(0, .ref 151)]) (st' := [.ref 151, .ref 151]) (M' := v_mk s3) rfl ?_
    refine v_gf rfl (v_gi (rfl : v_kd 151 = 11) rfl ⟨rfl, rfl, by decide⟩) ?_
    refine s_ek_bk 2 (P := 32) (ls' := [(0, .ref 151)]) (st' := [.int ((s3.1 151 3) + (1 : Int32)), .ref 151]) (M' := v_mk s3) rfl ?_
    obtain ⟨s4, es4, h⟩ := v_ld h
    refine v_pf (M' := v_mk s4) rfl (by rw [es4]; exact v_pi (rfl : v_kd 151 = 11) rfl ⟨rfl, rfl, by decide⟩ rfl) ?_
    refine s_ek_bk 1 (P := 36) (ls' := [(0, .ref 151)]) (st' := [.int 1]) (M' := v_mk s4) rfl ?_
    obtain ⟨rfl, rfl⟩ := v_so h
    exact v_ret (fun _ => rfl)
noncomputable def f_Md_figure_L4b (k52 : Int32 → Int32 → vS → Option (Unit × vS)) (again : Int32 → Int32 → vS → Option (Unit × vS)) (v1 : Int32) (v2 : Int32) (s : vS) : Option (Unit × vS) := (if 4 ≤ v2.toInt then (k52 v1 v2 s) else (v_bi (f_Md_look s) (fun r102 s102 => (v_bi (f_Md_in r102 48 57 s102) (fun r103 s103 => (if r103.toInt = 0 then (k52 v1 v2 s103) else (v_bi (f_Md_look s103) (fun r105 s105 => (v_let (v_w1 s105 151 3 ((s105.1 151 3) + (1 : Int32))) (fun s106 => (again ((((10 : Int32) * v1) + r105) - (48 : Int32)) (v2 + 1) s106)))))))))))
noncomputable def f_Md_figure_L4 (k52 : Int32 → Int32 → vS → Option (Unit × vS)) (n : Nat) : Int32 → Int32 → vS → Option (Unit × vS) := Nat.rec (motive := fun _ => Int32 → Int32 → vS → Option (Unit × vS)) (fun _ _ _ => none) (fun _ again => f_Md_figure_L4b k52 again) n
noncomputable def f_Md_figure (s : vS) : Option (Unit × vS) := (f_Md_figure_L4 (fun w1 w2 s3 => (if w2.toInt = 0 then (v_bi (f_Md_faulty s3) (fun _ s5 => (v_bi (f_Md_addStep 1 w1 s5) (fun _ s6 => (some ((), s6)))))) else (v_bi (f_Md_look s3) (fun r7 s7 => (v_bi (f_Md_in r7 48 57 s7) (fun r8 s8 => (if r8.toInt = 0 then (v_bi (f_Md_addStep 1 w1 s8) (fun _ s10 => (some ((), s10)))) else (v_bi (f_Md_faulty s8) (fun _ s11 => (v_bi (f_Md_addStep 1 w1 s11) (fun _ s12 => (some ((), s12))))))))))))) 4096 0 0 s)
set_option maxRecDepth 20000 in
set_option maxHeartbeats 4000000 in
theorem t_Md_figure_L4 {L : Nat} {xs : Nat → Int32} {k52 : Int32 → Int32 → vS → Option (Unit × vS)} {D : Nat} (hD : 1 ≤ D) {r : Unit} {s' : vS} (hk52 : ∀ (v1 : Int32) (v2 : Int32) (s : vS), k52 v1 v2 s = some (r, s') → s_Ek (s_rows 3 L xs) D s_e189.1 52 [(0, .ref 151), (1, .int v1), (2, .int v2)] [] (v_mk s) (v_Q none s')) : ∀ (n : Nat) (v1 : Int32) (v2 : Int32) (s : vS), f_Md_figure_L4 k52 n v1 v2 s = some (r, s') → s_Ek (s_rows 3 L xs) D s_e189.1 4 [(0, .ref 151), (1, .int v1), (2, .int v2)] [] (v_mk s) (v_Q none s') := by
  intro n
  induction n with
  | zero => intro v1 v2 s h; exact nomatch (show (none : Option (Unit × vS)) = some (r, s') from h)
  | succ n ih =>
    intro v1 v2 s h
    replace h : f_Md_figure_L4b k52 (f_Md_figure_L4 k52 n) v1 v2 s = some (r, s') := h
    unfold f_Md_figure_L4b at h
    refine s_ek_bk 2 (P := 6) (ls' := [(0, .ref 151), (1, .int v1), (2, .int v2)]) (st' := [.int 4, .int v2]) (M' := v_mk s) rfl ?_
    rcases v_if h with ⟨c101, h⟩ | ⟨c101, h⟩
    · refine v_i2t (T := 52) rfl rfl c101 ?_
      refine v_ls (ls' := [(0, .ref 151), (1, .int v1), (2, .int v2)]) ⟨rfl, rfl, rfl, trivial⟩ (show ([0, 1, 2] : List Nat).Nodup from by decide) ?_
      exact hk52 _ _ _ h
    · refine v_i2f (T := 52) rfl rfl c101 ?_
      refine s_ek_bk 1 (P := 10) (ls' := [(0, .ref 151), (1, .int v1), (2, .int v2)]) (st' := [.ref 151]) (M' := v_mk s) rfl ?_
      obtain ⟨r102, s102, e102, h⟩ := v_bd h
      refine v_cV (ν := s_e184.1) (w := 1472) (a := 151) (as' := []) (r := []) (o := some (.int r102)) (by omega) rfl rfl rfl (v_mk_kd (k := 11) (rfl : v_kd 151 = 11) (by decide)) rfl (t_Md_look e102 (by omega)) ?_
      show s_Ek (s_rows 3 L xs) D s_e189.1 13 [(0, .ref 151), (1, .int v1), (2, .int v2)] [.int r102] (v_mk s102) _
      refine s_ek_bk 2 (P := 17) (ls' := [(0, .ref 151), (1, .int v1), (2, .int v2)]) (st' := [.int 57, .int 48, .int r102]) (M' := v_mk s102) rfl ?_
      obtain ⟨r103, s103, e103, h⟩ := v_bd h
      refine v_cS (ν := s_e181.1) (w := 1451) (as := [.int r102, .int 48, .int 57]) (r := []) (o := some (.int r103)) (by omega) rfl rfl rfl rfl (t_Md_in e103 (by omega)) ?_
      show s_Ek (s_rows 3 L xs) D s_e189.1 20 [(0, .ref 151), (1, .int v1), (2, .int v2)] [.int r103] (v_mk s103) _
      rcases v_if h with ⟨c104, h⟩ | ⟨c104, h⟩
      · refine v_i1t (T := 52) rfl rfl c104 ?_
        refine v_ls (ls' := [(0, .ref 151), (1, .int v1), (2, .int v2)]) ⟨rfl, rfl, rfl, trivial⟩ (show ([0, 1, 2] : List Nat).Nodup from by decide) ?_
        exact hk52 _ _ _ h
      · refine v_i1f (T := 52) rfl rfl c104 ?_
        refine s_ek_bk 4 (P := 28) (ls' := [(0, .ref 151), (1, .int v1), (2, .int v2)]) (st' := [.ref 151, .int ((10 : Int32) * v1)]) (M' := v_mk s103) rfl ?_
        obtain ⟨r105, s105, e105, h⟩ := v_bd h
        refine v_cV (ν := s_e184.1) (w := 1472) (a := 151) (as' := []) (r := [.int ((10 : Int32) * v1)]) (o := some (.int r105)) (by omega) rfl rfl rfl (v_mk_kd (k := 11) (rfl : v_kd 151 = 11) (by decide)) rfl (t_Md_look e105 (by omega)) ?_
        show s_Ek (s_rows 3 L xs) D s_e189.1 31 [(0, .ref 151), (1, .int v1), (2, .int v2)] [.int r105, .int ((10 : Int32) * v1)] (v_mk s105) _
        refine s_ek_bk 7 (P := 41) (ls' := [(2, .int (v2 + 1)), (1, .int ((((10 : Int32) * v1) + r105) - (48 : Int32))), (0, .ref 151)]) (st' := [.ref 151, .ref 151]) (M' := v_mk s105) rfl ?_
        refine v_gf rfl (v_gi (rfl : v_kd 151 = 11) rfl ⟨rfl, rfl, by decide⟩) ?_
        refine s_ek_bk 2 (P := 46) (ls' := [(2, .int (v2 + 1)), (1, .int ((((10 : Int32) * v1) + r105) - (48 : Int32))), (0, .ref 151)]) (st' := [.int ((s105.1 151 3) + (1 : Int32)), .ref 151]) (M' := v_mk s105) rfl ?_
        obtain ⟨s106, es106, h⟩ := v_ld h
        refine v_pf (M' := v_mk s106) rfl (by rw [es106]; exact v_pi (rfl : v_kd 151 = 11) rfl ⟨rfl, rfl, by decide⟩ rfl) ?_
        refine s_ek_bk 1 (P := 4) (ls' := [(2, .int (v2 + 1)), (1, .int ((((10 : Int32) * v1) + r105) - (48 : Int32))), (0, .ref 151)]) (st' := []) (M' := v_mk s106) rfl ?_
        refine v_ls (ls' := [(0, .ref 151), (1, .int ((((10 : Int32) * v1) + r105) - (48 : Int32))), (2, .int (v2 + 1))]) ⟨rfl, rfl, rfl, trivial⟩ (show ([0, 1, 2] : List Nat).Nodup from by decide) ?_
        exact ih _ _ _ h
set_option maxRecDepth 20000 in
set_option maxHeartbeats 4000000 in
theorem t_Md_figure {L : Nat} {xs : Nat → Int32} {D : Nat} {r : Unit} {s s' : vS} (h : f_Md_figure s = some (r, s')) (hD : 1 ≤ D) : s_Ek (s_rows 3 L xs) D s_e189.1 0 (lv_args 0 [.ref 151]) [] (v_mk s) (v_Q none s') := by
  unfold f_Md_figure at h
  show s_Ek (s_rows 3 L xs) D s_e189.1 0 [(0, .ref 151)] [] (v_mk s) _
  refine s_ek_bk 4 (P := 4) (ls' := [(2, .int 0), (1, .int 0), (0, .ref 151)]) (st' := []) (M' := v_mk s) rfl ?_
  refine v_ls (ls' := [(0, .ref 151), (1, .int 0), (2, .int 0)]) ⟨rfl, rfl, rfl, trivial⟩ (show ([0, 1, 2] : List Nat).Nodup from by decide) ?_
  refine t_Md_figure_L4 (by omega) (fun w1 w2 s3 h => ?_) 4096 _ _ _ h
  show s_Ek (s_rows 3 L xs) D s_e189.1 52 [(0, .ref 151), (1, .int w1), (2, .int w2)] [] (v_mk s3) _
  refine s_ek_bk 1 (P := 53) (ls' := [(0, .ref 151), (1, .int w1), (2, .int w2)]) (st' := [.int w2]) (M' := v_mk s3) rfl ?_
  rcases v_if h with ⟨c4, h⟩ | ⟨c4, h⟩
  · refine v_i1t (T := 70) rfl rfl c4 ?_
    refine s_ek_bk 1 (P := 71) (ls' := [(0, .ref 151), (1, .int w1), (2, .int w2)]) (st' := [.ref 151]) (M' := v_mk s3) rfl ?_
    obtain ⟨r5, s5, e5, h⟩ := v_bd h
    refine v_cV (ν := s_e185.1) (w := 1480) (a := 151) (as' := []) (r := []) (o := none) (by omega) rfl rfl rfl (v_mk_kd (k := 11) (rfl : v_kd 151 = 11) (by decide)) rfl (t_Md_faulty e5 (by omega)) ?_
    show s_Ek (s_rows 3 L xs) D s_e189.1 74 [(0, .ref 151), (1, .int w1), (2, .int w2)] [] (v_mk s5) _
    refine s_ek_bk 3 (P := 77) (ls' := [(0, .ref 151), (1, .int w1), (2, .int w2)]) (st' := [.int w1, .int 1, .ref 151]) (M' := v_mk s5) rfl ?_
    obtain ⟨r6, s6, e6, h⟩ := v_bd h
    refine v_cV (ν := s_e186.1) (w := 1490) (a := 151) (as' := [.int 1, .int w1]) (r := []) (o := none) (by omega) rfl rfl rfl (v_mk_kd (k := 11) (rfl : v_kd 151 = 11) (by decide)) rfl (t_Md_addStep e6 (by omega)) ?_
    show s_Ek (s_rows 3 L xs) D s_e189.1 80 [(0, .ref 151), (1, .int w1), (2, .int w2)] [] (v_mk s6) _
    obtain ⟨rfl, rfl⟩ := v_so h
    exact v_ret (fun _ => rfl)
  · refine v_i1f (T := 70) rfl rfl c4 ?_
    refine s_ek_bk 1 (P := 57) (ls' := [(0, .ref 151), (1, .int w1), (2, .int w2)]) (st' := [.ref 151]) (M' := v_mk s3) rfl ?_
    obtain ⟨r7, s7, e7, h⟩ := v_bd h
    refine v_cV (ν := s_e184.1) (w := 1472) (a := 151) (as' := []) (r := []) (o := some (.int r7)) (by omega) rfl rfl rfl (v_mk_kd (k := 11) (rfl : v_kd 151 = 11) (by decide)) rfl (t_Md_look e7 (by omega)) ?_
    show s_Ek (s_rows 3 L xs) D s_e189.1 60 [(0, .ref 151), (1, .int w1), (2, .int w2)] [.int r7] (v_mk s7) _
    refine s_ek_bk 2 (P := 64) (ls' := [(0, .ref 151), (1, .int w1), (2, .int w2)]) (st' := [.int 57, .int 48, .int r7]) (M' := v_mk s7) rfl ?_
    obtain ⟨r8, s8, e8, h⟩ := v_bd h
    refine v_cS (ν := s_e181.1) (w := 1451) (as := [.int r7, .int 48, .int 57]) (r := []) (o := some (.int r8)) (by omega) rfl rfl rfl rfl (t_Md_in e8 (by omega)) ?_
    show s_Ek (s_rows 3 L xs) D s_e189.1 67 [(0, .ref 151), (1, .int w1), (2, .int w2)] [.int r8] (v_mk s8) _
    rcases v_if h with ⟨c9, h⟩ | ⟨c9, h⟩
    · refine v_i1t (T := 74) rfl rfl c9 ?_
      refine s_ek_bk 3 (P := 77) (ls' := [(0, .ref 151), (1, .int w1), (2, .int w2)]) (st' := [.int w1, .int 1, .ref 151]) (M' := v_mk s8) rfl ?_
      obtain ⟨r10, s10, e10, h⟩ := v_bd h
      refine v_cV (ν := s_e186.1) (w := 1490) (a := 151) (as' := [.int 1, .int w1]) (r := []) (o := none) (by omega) rfl rfl rfl (v_mk_kd (k := 11) (rfl : v_kd 151 = 11) (by decide)) rfl (t_Md_addStep e10 (by omega)) ?_
      show s_Ek (s_rows 3 L xs) D s_e189.1 80 [(0, .ref 151), (1, .int w1), (2, .int w2)] [] (v_mk s10) _
      obtain ⟨rfl, rfl⟩ := v_so h
      exact v_ret (fun _ => rfl)
    · refine v_i1f (T := 74) rfl rfl c9 ?_
      refine s_ek_bk 1 (P := 71) (ls' := [(0, .ref 151), (1, .int w1), (2, .int w2)]) (st' := [.ref 151]) (M' := v_mk s8) rfl ?_
      obtain ⟨r11, s11, e11, h⟩ := v_bd h
      refine v_cV (ν := s_e185.1) (w := 1480) (a := 151) (as' := []) (r := []) (o := none) (by omega) rfl rfl rfl (v_mk_kd (k := 11) (rfl : v_kd 151 = 11) (by decide)) rfl (t_Md_faulty e11 (by omega)) ?_
      show s_Ek (s_rows 3 L xs) D s_e189.1 74 [(0, .ref 151), (1, .int w1), (2, .int w2)] [] (v_mk s11) _
      refine s_ek_bk 3 (P := 77) (ls' := [(0, .ref 151), (1, .int w1), (2, .int w2)]) (st' := [.int w1, .int 1, .ref 151]) (M' := v_mk s11) rfl ?_
      obtain ⟨r12, s12, e12, h⟩ := v_bd h
      refine v_cV (ν := s_e186.1) (w := 1490) (a := 151) (as' := [.int 1, .int w1]) (r := []) (o := none) (by omega) rfl rfl rfl (v_mk_kd (k := 11) (rfl : v_kd 151 = 11) (by decide)) rfl (t_Md_addStep e12 (by omega)) ?_
      show s_Ek (s_rows 3 L xs) D s_e189.1 80 [(0, .ref 151), (1, .int w1), (2, .int w2)] [] (v_mk s12) _
      obtain ⟨rfl, rfl⟩ := v_so h
      exact v_ret (fun _ => rfl)
noncomputable def f_Md_product_L4b (rec : vS → Option (Unit × vS)) (k66 : vS → Option (Unit × vS)) (again : vS → Option (Unit × vS)) (s : vS) : Option (Unit × vS) := (if 0 ≤ (s.1 151 4).toInt then (k66 s) else (v_bi (f_Md_look s) (fun r103 s103 => (if r103.toInt = 42 then (v_bi (f_Md_look s103) (fun r105 s105 => (v_let (v_w1 s105 151 3 ((s105.1 151 3) + (1 : Int32))) (fun s106 => (v_bi (rec s106) (fun _ s107 => (v_bi (f_Md_addStep r105 0 s107) (fun _ s108 => (again s108))))))))) else (v_bi (f_Md_look s103) (fun r109 s109 => (if r109.toInt = 47 then (v_bi (f_Md_look s109) (fun r111 s111 => (v_let (v_w1 s111 151 3 ((s111.1 151 3) + (1 : Int32))) (fun s112 => (v_bi (rec s112) (fun _ s113 => (v_bi (f_Md_addStep r111 0 s113) (fun _ s114 => (again s114))))))))) else (v_bi (f_Md_look s109) (fun r115 s115 => (if r115.toInt = 37 then (v_bi (f_Md_look s115) (fun r117 s117 => (v_let (v_w1 s117 151 3 ((s117.1 151 3) + (1 : Int32))) (fun s118 => (v_bi (rec s118) (fun _ s119 => (v_bi (f_Md_addStep r117 0 s119) (fun _ s120 => (again s120))))))))) else (k66 s115)))))))))))
noncomputable def f_Md_product_L4 (rec : vS → Option (Unit × vS)) (k66 : vS → Option (Unit × vS)) (n : Nat) : vS → Option (Unit × vS) := Nat.rec (motive := fun _ => vS → Option (Unit × vS)) (fun _ => none) (fun _ again => f_Md_product_L4b rec k66 again) n
noncomputable def f_Md_product (rec : vS → Option (Unit × vS)) (s : vS) : Option (Unit × vS) := (v_bi (rec s) (fun _ s1 => (f_Md_product_L4 rec (fun s2 => (some ((), s2))) 4096 s1)))
set_option maxRecDepth 20000 in
set_option maxHeartbeats 4000000 in
theorem t_Md_product_L4 {L : Nat} {xs : Nat → Int32} {H : Nat} {rec : vS → Option (Unit × vS)} (hrec : ∀ {D : Nat} {r : Unit} {s s' : vS}, H ≤ D → rec  s = some (r, s') → s_Ek (s_rows 3 L xs) D s_e190.1 0 (lv_args 0 [.ref 151]) [] (v_mk s) (v_Q none s')) {k66 : vS → Option (Unit × vS)} {D : Nat} (hD : H + 1 ≤ D) {r : Unit} {s' : vS} (hk66 : ∀ (s : vS), k66 s = some (r, s') → s_Ek (s_rows 3 L xs) D s_e191.1 66 [] [] (v_mk s) (v_Q none s')) : ∀ (n : Nat) (s : vS), f_Md_product_L4 rec k66 n s = some (r, s') → s_Ek (s_rows 3 L xs) D s_e191.1 4 [(0, .ref 151)] [] (v_mk s) (v_Q none s') := by
  intro n
  induction n with
  | zero => intro s h; exact nomatch (show (none : Option (Unit × vS)) = some (r, s') from h)
  | succ n ih =>
    intro s h
    replace h : f_Md_product_L4b rec k66 (f_Md_product_L4 rec k66 n) s = some (r, s') := h
    unfold f_Md_product_L4b at h
    refine s_ek_bk 1 (P := 5) (ls' := [(0, .ref 151)]) (st' := [.ref 151]) (M' := v_mk s) rfl ?_
    refine v_gf rfl (v_gi (rfl : v_kd 151 = 11) rfl ⟨rfl, rfl, by decide⟩) ?_
    rcases v_if h with ⟨c102, h⟩ | ⟨c102, h⟩
    · refine v_i1t (T := 66) rfl rfl c102 ?_
      refine v_ls (ls' := []) trivial (show ([] : List Nat).Nodup from by decide) ?_
      exact hk66 _ h
    · refine v_i1f (T := 66) rfl rfl c102 ?_
      refine s_ek_bk 1 (P := 12) (ls' := [(0, .ref 151)]) (st' := [.ref 151]) (M' := v_mk s) rfl ?_
      obtain ⟨r103, s103, e103, h⟩ := v_bd h
      refine v_cV (ν := s_e184.1) (w := 1472) (a := 151) (as' := []) (r := []) (o := some (.int r103)) (by omega) rfl rfl rfl (v_mk_kd (k := 11) (rfl : v_kd 151 = 11) (by decide)) rfl (t_Md_look e103 (by omega)) ?_
      show s_Ek (s_rows 3 L xs) D s_e191.1 15 [(0, .ref 151)] [.int r103] (v_mk s103) _
      refine s_ek_bk 1 (P := 17) (ls' := [(0, .ref 151)]) (st' := [.int 42, .int r103]) (M' := v_mk s103) rfl ?_
      rcases v_if h with ⟨c104, h⟩ | ⟨c104, h⟩
      · refine v_i2t (T := 38) rfl rfl c104 ?_
        refine s_ek_bk 1 (P := 39) (ls' := [(0, .ref 151)]) (st' := [.ref 151]) (M' := v_mk s103) rfl ?_
        obtain ⟨r105, s105, e105, h⟩ := v_bd h
        refine v_cV (ν := s_e184.1) (w := 1472) (a := 151) (as' := []) (r := []) (o := some (.int r105)) (by omega) rfl rfl rfl (v_mk_kd (k := 11) (rfl : v_kd 151 = 11) (by decide)) rfl (t_Md_look e105 (by omega)) ?_
        show s_Ek (s_rows 3 L xs) D s_e191.1 42 [(0, .ref 151)] [.int r105] (v_mk s105) _
        refine s_ek_bk 3 (P := 45) (ls' := [(1, .int r105), (0, .ref 151)]) (st' := [.ref 151, .ref 151]) (M' := v_mk s105) rfl ?_
        refine v_gf rfl (v_gi (rfl : v_kd 151 = 11) rfl ⟨rfl, rfl, by decide⟩) ?_
        refine s_ek_bk 2 (P := 50) (ls' := [(1, .int r105), (0, .ref 151)]) (st' := [.int ((s105.1 151 3) + (1 : Int32)), .ref 151]) (M' := v_mk s105) rfl ?_
        obtain ⟨s106, es106, h⟩ := v_ld h
        refine v_pf (M' := v_mk s106) rfl (by rw [es106]; exact v_pi (rfl : v_kd 151 = 11) rfl ⟨rfl, rfl, by decide⟩ rfl) ?_
        refine s_ek_bk 1 (P := 54) (ls' := [(1, .int r105), (0, .ref 151)]) (st' := [.ref 151]) (M' := v_mk s106) rfl ?_
        obtain ⟨r107, s107, e107, h⟩ := v_bd h
        refine v_cV (ν := s_e190.1) (w := 1520) (a := 151) (as' := []) (r := []) (o := none) (by omega) rfl rfl rfl (v_mk_kd (k := 11) (rfl : v_kd 151 = 11) (by decide)) rfl (hrec (by omega) e107) ?_
        show s_Ek (s_rows 3 L xs) D s_e191.1 57 [(1, .int r105), (0, .ref 151)] [] (v_mk s107) _
        refine s_ek_bk 3 (P := 60) (ls' := [(1, .int r105), (0, .ref 151)]) (st' := [.int 0, .int r105, .ref 151]) (M' := v_mk s107) rfl ?_
        obtain ⟨r108, s108, e108, h⟩ := v_bd h
        refine v_cV (ν := s_e186.1) (w := 1490) (a := 151) (as' := [.int r105, .int 0]) (r := []) (o := none) (by omega) rfl rfl rfl (v_mk_kd (k := 11) (rfl : v_kd 151 = 11) (by decide)) rfl (t_Md_addStep e108 (by omega)) ?_
        show s_Ek (s_rows 3 L xs) D s_e191.1 63 [(1, .int r105), (0, .ref 151)] [] (v_mk s108) _
        refine s_ek_bk 1 (P := 4) (ls' := [(1, .int r105), (0, .ref 151)]) (st' := []) (M' := v_mk s108) rfl ?_
        refine v_ls (ls' := [(0, .ref 151)]) ⟨rfl, trivial⟩ (show ([0] : List Nat).Nodup from by decide) ?_
        exact ih _ h
      · refine v_i2f (T := 38) rfl rfl c104 ?_
        refine s_ek_bk 1 (P := 21) (ls' := [(0, .ref 151)]) (st' := [.ref 151]) (M' := v_mk s103) rfl ?_
        obtain ⟨r109, s109, e109, h⟩ := v_bd h
        refine v_cV (ν := s_e184.1) (w := 1472) (a := 151) (as' := []) (r := []) (o := some (.int r109)) (by omega) rfl rfl rfl (v_mk_kd (k := 11) (rfl : v_kd 151 = 11) (by decide)) rfl (t_Md_look e109 (by omega)) ?_
        show s_Ek (s_rows 3 L xs) D s_e191.1 24 [(0, .ref 151)] [.int r109] (v_mk s109) _
        refine s_ek_bk 1 (P := 26) (ls' := [(0, .ref 151)]) (st' := [.int 47, .int r109]) (M' := v_mk s109) rfl ?_
        rcases v_if h with ⟨c110, h⟩ | ⟨c110, h⟩
        · refine v_i2t (T := 38) rfl rfl c110 ?_
          refine s_ek_bk 1 (P := 39) (ls' := [(0, .ref 151)]) (st' := [.ref 151]) (M' := v_mk s109) rfl ?_
          obtain ⟨r111, s111, e111, h⟩ := v_bd h
          refine v_cV (ν := s_e184.1) (w := 1472) (a := 151) (as' := []) (r := []) (o := some (.int r111)) (by omega) rfl rfl rfl (v_mk_kd (k := 11) (rfl : v_kd 151 = 11) (by decide)) rfl (t_Md_look e111 (by omega)) ?_
          show s_Ek (s_rows 3 L xs) D s_e191.1 42 [(0, .ref 151)] [.int r111] (v_mk s111) _
          refine s_ek_bk 3 (P := 45) (ls' := [(1, .int r111), (0, .ref 151)]) (st' := [.ref 151, .ref 151]) (M' := v_mk s111) rfl ?_
          refine v_gf rfl (v_gi (rfl : v_kd 151 = 11) rfl ⟨rfl, rfl, by decide⟩) ?_
          refine s_ek_bk 2 (P := 50) (ls' := [(1, .int r111), (0, .ref 151)]) (st' := [.int ((s111.1 151 3) + (1 : Int32)), .ref 151]) (M' := v_mk s111) rfl ?_
          obtain ⟨s112, es112, h⟩ := v_ld h
          refine v_pf (M' := v_mk s112) rfl (by rw [es112]; exact v_pi (rfl : v_kd 151 = 11) rfl ⟨rfl, rfl, by decide⟩ rfl) ?_
          refine s_ek_bk 1 (P := 54) (ls' := [(1, .int r111), (0, .ref 151)]) (st' := [.ref 151]) (M' := v_mk s112) rfl ?_
          obtain ⟨r113, s113, e113, h⟩ := v_bd h
          refine v_cV (ν := s_e190.1) (w := 1520) (a := 151) (as' := []) (r := []) (o := none) (by omega) rfl rfl rfl (v_mk_kd (k := 11) (rfl : v_kd 151 = 11) (by decide)) rfl (hrec (by omega) e113) ?_
          show s_Ek (s_rows 3 L xs) D s_e191.1 57 [(1, .int r111), (0, .ref 151)] [] (v_mk s113) _
          refine s_ek_bk 3 (P := 60) (ls' := [(1, .int r111), (0, .ref 151)]) (st' := [.int 0, .int r111, .ref 151]) (M' := v_mk s113) rfl ?_
          obtain ⟨r114, s114, e114, h⟩ := v_bd h
          refine v_cV (ν := s_e186.1) (w := 1490) (a := 151) (as' := [.int r111, .int 0]) (r := []) (o := none) (by omega) rfl rfl rfl (v_mk_kd (k := 11) (rfl : v_kd 151 = 11) (by decide)) rfl (t_Md_addStep e114 (by omega)) ?_
          show s_Ek (s_rows 3 L xs) D s_e191.1 63 [(1, .int r111), (0, .ref 151)] [] (v_mk s114) _
          refine s_ek_bk 1 (P := 4) (ls' := [(1, .int r111), (0, .ref 151)]) (st' := []) (M' := v_mk s114) rfl ?_
          refine v_ls (ls' := [(0, .ref 151)]) ⟨rfl, trivial⟩ (show ([0] : List Nat).Nodup from by decide) ?_
          exact ih _ h
        · refine v_i2f (T := 38) rfl rfl c110 ?_
          refine s_ek_bk 1 (P := 30) (ls' := [(0, .ref 151)]) (st' := [.ref 151]) (M' := v_mk s109) rfl ?_
          obtain ⟨r115, s115, e115, h⟩ := v_bd h
          refine v_cV (ν := s_e184.1) (w := 1472) (a := 151) (as' := []) (r := []) (o := some (.int r115)) (by omega) rfl rfl rfl (v_mk_kd (k := 11) (rfl : v_kd 151 = 11) (by decide)) rfl (t_Md_look e115 (by omega)) ?_
          show s_Ek (s_rows 3 L xs) D s_e191.1 33 [(0, .ref 151)] [.int r115] (v_mk s115) _
          refine s_ek_bk 1 (P := 35) (ls' := [(0, .ref 151)]) (st' := [.int 37, .int r115]) (M' := v_mk s115) rfl ?_
          rcases v_if h with ⟨c116, h⟩ | ⟨c116, h⟩
          · refine v_i2f (T := 66) rfl rfl (fun q => q c116) ?_
            refine s_ek_bk 1 (P := 39) (ls' := [(0, .ref 151)]) (st' := [.ref 151]) (M' := v_mk s115) rfl ?_
            obtain ⟨r117, s117, e117, h⟩ := v_bd h
            refine v_cV (ν := s_e184.1) (w := 1472) (a := 151) (as' := []) (r := []) (o := some (.int r117)) (by omega) rfl rfl rfl (v_mk_kd (k := 11) (rfl : v_kd 151 = 11) (by decide)) rfl (t_Md_look e117 (by omega)) ?_
            show s_Ek (s_rows 3 L xs) D s_e191.1 42 [(0, .ref 151)] [.int r117] (v_mk s117) _
            refine s_ek_bk 3 (P := 45) (ls' := [(1, .int r117), (0, .ref 151)]) (st' := [.ref 151, .ref 151]) (M' := v_mk s117) rfl ?_
            refine v_gf rfl (v_gi (rfl : v_kd 151 = 11) rfl ⟨rfl, rfl, by decide⟩) ?_
            refine s_ek_bk 2 (P := 50) (ls' := [(1, .int r117), (0, .ref 151)]) (st' := [.int ((s117.1 151 3) + (1 : Int32)), .ref 151]) (M' := v_mk s117) rfl ?_
            obtain ⟨s118, es118, h⟩ := v_ld h
            refine v_pf (M' := v_mk s118) rfl (by rw [es118]; exact v_pi (rfl : v_kd 151 = 11) rfl ⟨rfl, rfl, by decide⟩ rfl) ?_
            refine s_ek_bk 1 (P := 54) (ls' := [(1, .int r117), (0, .ref 151)]) (st' := [.ref 151]) (M' := v_mk s118) rfl ?_
            obtain ⟨r119, s119, e119, h⟩ := v_bd h
            refine v_cV (ν := s_e190.1) (w := 1520) (a := 151) (as' := []) (r := []) (o := none) (by omega) rfl rfl rfl (v_mk_kd (k := 11) (rfl : v_kd 151 = 11) (by decide)) rfl (hrec (by omega) e119) ?_
            show s_Ek (s_rows 3 L xs) D s_e191.1 57 [(1, .int r117), (0, .ref 151)] [] (v_mk s119) _
            refine s_ek_bk 3 (P := 60) (ls' := [(1, .int r117), (0, .ref 151)]) (st' := [.int 0, .int r117, .ref 151]) (M' := v_mk s119) rfl ?_
            obtain ⟨r120, s120, e120, h⟩ := v_bd h
            refine v_cV (ν := s_e186.1) (w := 1490) (a := 151) (as' := [.int r117, .int 0]) (r := []) (o := none) (by omega) rfl rfl rfl (v_mk_kd (k := 11) (rfl : v_kd 151 = 11) (by decide)) rfl (t_Md_addStep e120 (by omega)) ?_
            show s_Ek (s_rows 3 L xs) D s_e191.1 63 [(1, .int r117), (0, .ref 151)] [] (v_mk s120) _
            refine s_ek_bk 1 (P := 4) (ls' := [(1, .int r117), (0, .ref 151)]) (st' := []) (M' := v_mk s120) rfl ?_
            refine v_ls (ls' := [(0, .ref 151)]) ⟨rfl, trivial⟩ (show ([0] : List Nat).Nodup from by decide) ?_
            exact ih _ h
          · refine v_i2t (T := 66) rfl rfl c116 ?_
            refine v_ls (ls' := []) trivial (show ([] : List Nat).Nodup from by decide) ?_
            exact hk66 _ h
set_option maxRecDepth 20000 in
set_option maxHeartbeats 4000000 in
theorem t_Md_product {L : Nat} {xs : Nat → Int32} {H : Nat} {rec : vS → Option (Unit × vS)} (hrec : ∀ {D : Nat} {r : Unit} {s s' : vS}, H ≤ D → rec  s = some (r, s') → s_Ek (s_rows 3 L xs) D s_e190.1 0 (lv_args 0 [.ref 151]) [] (v_mk s) (v_Q none s')) {D : Nat} {r : Unit} {s s' : vS} (h : f_Md_product rec s = some (r, s')) (hD : H + 1 ≤ D) : s_Ek (s_rows 3 L xs) D s_e191.1 0 (lv_args 0 [.ref 151]) [] (v_mk s) (v_Q none s') := by
  unfold f_Md_product at h
  show s_Ek (s_rows 3 L xs) D s_e191.1 0 [(0, .ref 151)] [] (v_mk s) _
  refine s_ek_bk 1 (P := 1) (ls' := [(0, .ref 151)]) (st' := [.ref 151]) (M' := v_mk s) rfl ?_
  obtain ⟨r1, s1, e1, h⟩ := v_bd h
  refine v_cV (ν := s_e190.1) (w := 1520) (a := 151) (as' := []) (r := []) (o := none) (by omega) rfl rfl rfl (v_mk_kd (k := 11) (rfl : v_kd 151 = 11) (by decide)) rfl (hrec (by omega) e1) ?_
  show s_Ek (s_rows 3 L xs) D s_e191.1 4 [(0, .ref 151)] [] (v_mk s1) _
  refine v_ls (ls' := [(0, .ref 151)]) ⟨rfl, trivial⟩ (show ([0] : List Nat).Nodup from by decide) ?_
  refine t_Md_product_L4 hrec (by omega) (fun s2 h => ?_) 4096  _ h
  show s_Ek (s_rows 3 L xs) D s_e191.1 66 [] [] (v_mk s2) _
  obtain ⟨rfl, rfl⟩ := v_so h
  exact v_ret (fun _ => rfl)
noncomputable def f_Md_sum_L4b (rec : vS → Option (Unit × vS)) (k57 : vS → Option (Unit × vS)) (again : vS → Option (Unit × vS)) (s : vS) : Option (Unit × vS) := (if 0 ≤ (s.1 151 4).toInt then (k57 s) else (v_bi (f_Md_look s) (fun r103 s103 => (if r103.toInt = 43 then (v_bi (f_Md_look s103) (fun r105 s105 => (v_let (v_w1 s105 151 3 ((s105.1 151 3) + (1 : Int32))) (fun s106 => (v_bi (f_Md_product rec s106) (fun _ s107 => (v_bi (f_Md_addStep r105 0 s107) (fun _ s108 => (again s108))))))))) else (v_bi (f_Md_look s103) (fun r109 s109 => (if r109.toInt = 45 then (v_bi (f_Md_look s109) (fun r111 s111 => (v_let (v_w1 s111 151 3 ((s111.1 151 3) + (1 : Int32))) (fun s112 => (v_bi (f_Md_product rec s112) (fun _ s113 => (v_bi (f_Md_addStep r111 0 s113) (fun _ s114 => (again s114))))))))) else (k57 s109))))))))
noncomputable def f_Md_sum_L4 (rec : vS → Option (Unit × vS)) (k57 : vS → Option (Unit × vS)) (n : Nat) : vS → Option (Unit × vS) := Nat.rec (motive := fun _ => vS → Option (Unit × vS)) (fun _ => none) (fun _ again => f_Md_sum_L4b rec k57 again) n
noncomputable def f_Md_sum (rec : vS → Option (Unit × vS)) (s : vS) : Option (Unit × vS) := (v_bi (f_Md_product rec s) (fun _ s1 => (f_Md_sum_L4 rec (fun s2 => (some ((), s2))) 4096 s1)))
set_option maxRecDepth 20000 in
set_option maxHeartbeats 4000000 in
theorem t_Md_sum_L4 {L : Nat} {xs : Nat → Int32} {H : Nat} {rec : vS → Option (Unit × vS)} (hrec : ∀ {D : Nat} {r : Unit} {s s' : vS}, H ≤ D → rec  s = some (r, s') → s_Ek (s_rows 3 L xs) D s_e190.1 0 (lv_args 0 [.ref 151]) [] (v_mk s) (v_Q none s')) {k57 : vS → Option (Unit × vS)} {D : Nat} (hD : H + 2 ≤ D) {r : Unit} {s' : vS} (hk57 : ∀ (s : vS), k57 s = some (r, s') → s_Ek (s_rows 3 L xs) D s_e192.1 57 [] [] (v_mk s) (v_Q none s')) : ∀ (n : Nat) (s : vS), f_Md_sum_L4 rec k57 n s = some (r, s') → s_Ek (s_rows 3 L xs) D s_e192.1 4 [(0, .ref 151)] [] (v_mk s) (v_Q none s') := by
  intro n
  induction n with
  | zero => intro s h; exact nomatch (show (none : Option (Unit × vS)) = some (r, s') from h)
  | succ n ih =>
    intro s h
    replace h : f_Md_sum_L4b rec k57 (f_Md_sum_L4 rec k57 n) s = some (r, s') := h
    unfold f_Md_sum_L4b at h
    refine s_ek_bk 1 (P := 5) (ls' := [(0, .ref 151)]) (st' := [.ref 151]) (M' := v_mk s) rfl ?_
    refine v_gf rfl (v_gi (rfl : v_kd 151 = 11) rfl ⟨rfl, rfl, by decide⟩) ?_
    rcases v_if h with ⟨c102, h⟩ | ⟨c102, h⟩
    · refine v_i1t (T := 57) rfl rfl c102 ?_
      refine v_ls (ls' := []) trivial (show ([] : List Nat).Nodup from by decide) ?_
      exact hk57 _ h
    · refine v_i1f (T := 57) rfl rfl c102 ?_
      refine s_ek_bk 1 (P := 12) (ls' := [(0, .ref 151)]) (st' := [.ref 151]) (M' := v_mk s) rfl ?_
      obtain ⟨r103, s103, e103, h⟩ := v_bd h
      refine v_cV (ν := s_e184.1) (w := 1472) (a := 151) (as' := []) (r := []) (o := some (.int r103)) (by omega) rfl rfl rfl (v_mk_kd (k := 11) (rfl : v_kd 151 = 11) (by decide)) rfl (t_Md_look e103 (by omega)) ?_
      show s_Ek (s_rows 3 L xs) D s_e192.1 15 [(0, .ref 151)] [.int r103] (v_mk s103) _
      refine s_ek_bk 1 (P := 17) (ls' := [(0, .ref 151)]) (st' := [.int 43, .int r103]) (M' := v_mk s103) rfl ?_
      rcases v_if h with ⟨c104, h⟩ | ⟨c104, h⟩
      · refine v_i2t (T := 29) rfl rfl c104 ?_
        refine s_ek_bk 1 (P := 30) (ls' := [(0, .ref 151)]) (st' := [.ref 151]) (M' := v_mk s103) rfl ?_
        obtain ⟨r105, s105, e105, h⟩ := v_bd h
        refine v_cV (ν := s_e184.1) (w := 1472) (a := 151) (as' := []) (r := []) (o := some (.int r105)) (by omega) rfl rfl rfl (v_mk_kd (k := 11) (rfl : v_kd 151 = 11) (by decide)) rfl (t_Md_look e105 (by omega)) ?_
        show s_Ek (s_rows 3 L xs) D s_e192.1 33 [(0, .ref 151)] [.int r105] (v_mk s105) _
        refine s_ek_bk 3 (P := 36) (ls' := [(1, .int r105), (0, .ref 151)]) (st' := [.ref 151, .ref 151]) (M' := v_mk s105) rfl ?_
        refine v_gf rfl (v_gi (rfl : v_kd 151 = 11) rfl ⟨rfl, rfl, by decide⟩) ?_
        refine s_ek_bk 2 (P := 41) (ls' := [(1, .int r105), (0, .ref 151)]) (st' := [.int ((s105.1 151 3) + (1 : Int32)), .ref 151]) (M' := v_mk s105) rfl ?_
        obtain ⟨s106, es106, h⟩ := v_ld h
        refine v_pf (M' := v_mk s106) rfl (by rw [es106]; exact v_pi (rfl : v_kd 151 = 11) rfl ⟨rfl, rfl, by decide⟩ rfl) ?_
        refine s_ek_bk 1 (P := 45) (ls' := [(1, .int r105), (0, .ref 151)]) (st' := [.ref 151]) (M' := v_mk s106) rfl ?_
        obtain ⟨r107, s107, e107, h⟩ := v_bd h
        refine v_cV (ν := s_e191.1) (w := 1528) (a := 151) (as' := []) (r := []) (o := none) (by omega) rfl rfl rfl (v_mk_kd (k := 11) (rfl : v_kd 151 = 11) (by decide)) rfl (t_Md_product hrec e107 (by omega)) ?_
        show s_Ek (s_rows 3 L xs) D s_e192.1 48 [(1, .int r105), (0, .ref 151)] [] (v_mk s107) _
        refine s_ek_bk 3 (P := 51) (ls' := [(1, .int r105), (0, .ref 151)]) (st' := [.int 0, .int r105, .ref 151]) (M' := v_mk s107) rfl ?_
        obtain ⟨r108, s108, e108, h⟩ := v_bd h
        refine v_cV (ν := s_e186.1) (w := 1490) (a := 151) (as' := [.int r105, .int 0]) (r := []) (o := none) (by omega) rfl rfl rfl (v_mk_kd (k := 11) (rfl : v_kd 151 = 11) (by decide)) rfl (t_Md_addStep e108 (by omega)) ?_
        show s_Ek (s_rows 3 L xs) D s_e192.1 54 [(1, .int r105), (0, .ref 151)] [] (v_mk s108) _
        refine s_ek_bk 1 (P := 4) (ls' := [(1, .int r105), (0, .ref 151)]) (st' := []) (M' := v_mk s108) rfl ?_
        refine v_ls (ls' := [(0, .ref 151)]) ⟨rfl, trivial⟩ (show ([0] : List Nat).Nodup from by decide) ?_
        exact ih _ h
      · refine v_i2f (T := 29) rfl rfl c104 ?_
        refine s_ek_bk 1 (P := 21) (ls' := [(0, .ref 151)]) (st' := [.ref 151]) (M' := v_mk s103) rfl ?_
        obtain ⟨r109, s109, e109, h⟩ := v_bd h
        refine v_cV (ν := s_e184.1) (w := 1472) (a := 151) (as' := []) (r := []) (o := some (.int r109)) (by omega) rfl rfl rfl (v_mk_kd (k := 11) (rfl : v_kd 151 = 11) (by decide)) rfl (t_Md_look e109 (by omega)) ?_
        show s_Ek (s_rows 3 L xs) D s_e192.1 24 [(0, .ref 151)] [.int r109] (v_mk s109) _
        refine s_ek_bk 1 (P := 26) (ls' := [(0, .ref 151)]) (st' := [.int 45, .int r109]) (M' := v_mk s109) rfl ?_
        rcases v_if h with ⟨c110, h⟩ | ⟨c110, h⟩
        · refine v_i2f (T := 57) rfl rfl (fun q => q c110) ?_
          refine s_ek_bk 1 (P := 30) (ls' := [(0, .ref 151)]) (st' := [.ref 151]) (M' := v_mk s109) rfl ?_
          obtain ⟨r111, s111, e111, h⟩ := v_bd h
          refine v_cV (ν := s_e184.1) (w := 1472) (a := 151) (as' := []) (r := []) (o := some (.int r111)) (by omega) rfl rfl rfl (v_mk_kd (k := 11) (rfl : v_kd 151 = 11) (by decide)) rfl (t_Md_look e111 (by omega)) ?_
          show s_Ek (s_rows 3 L xs) D s_e192.1 33 [(0, .ref 151)] [.int r111] (v_mk s111) _
          refine s_ek_bk 3 (P := 36) (ls' := [(1, .int r111), (0, .ref 151)]) (st' := [.ref 151, .ref 151]) (M' := v_mk s111) rfl ?_
          refine v_gf rfl (v_gi (rfl : v_kd 151 = 11) rfl ⟨rfl, rfl, by decide⟩) ?_
          refine s_ek_bk 2 (P := 41) (ls' := [(1, .int r111), (0, .ref 151)]) (st' := [.int ((s111.1 151 3) + (1 : Int32)), .ref 151]) (M' := v_mk s111) rfl ?_
          obtain ⟨s112, es112, h⟩ := v_ld h
          refine v_pf (M' := v_mk s112) rfl (by rw [es112]; exact v_pi (rfl : v_kd 151 = 11) rfl ⟨rfl, rfl, by decide⟩ rfl) ?_
          refine s_ek_bk 1 (P := 45) (ls' := [(1, .int r111), (0, .ref 151)]) (st' := [.ref 151]) (M' := v_mk s112) rfl ?_
          obtain ⟨r113, s113, e113, h⟩ := v_bd h
          refine v_cV (ν := s_e191.1) (w := 1528) (a := 151) (as' := []) (r := []) (o := none) (by omega) rfl rfl rfl (v_mk_kd (k := 11) (rfl : v_kd 151 = 11) (by decide)) rfl (t_Md_product hrec e113 (by omega)) ?_
          show s_Ek (s_rows 3 L xs) D s_e192.1 48 [(1, .int r111), (0, .ref 151)] [] (v_mk s113) _
          refine s_ek_bk 3 (P := 51) (ls' := [(1, .int r111), (0, .ref 151)]) (st' := [.int 0, .int r111, .ref 151]) (M' := v_mk s113) rfl ?_
          obtain ⟨r114, s114, e114, h⟩ := v_bd h
          refine v_cV (ν := s_e186.1) (w := 1490) (a := 151) (as' := [.int r111, .int 0]) (r := []) (o := none) (by omega) rfl rfl rfl (v_mk_kd (k := 11) (rfl : v_kd 151 = 11) (by decide)) rfl (t_Md_addStep e114 (by omega)) ?_
          show s_Ek (s_rows 3 L xs) D s_e192.1 54 [(1, .int r111), (0, .ref 151)] [] (v_mk s114) _
          refine s_ek_bk 1 (P := 4) (ls' := [(1, .int r111), (0, .ref 151)]) (st' := []) (M' := v_mk s114) rfl ?_
          refine v_ls (ls' := [(0, .ref 151)]) ⟨rfl, trivial⟩ (show ([0] : List Nat).Nodup from by decide) ?_
          exact ih _ h
        · refine v_i2t (T := 57) rfl rfl c110 ?_
          refine v_ls (ls' := []) trivial (show ([] : List Nat).Nodup from by decide) ?_
          exact hk57 _ h
set_option maxRecDepth 20000 in
set_option maxHeartbeats 4000000 in
theorem t_Md_sum {L : Nat} {xs : Nat → Int32} {H : Nat} {rec : vS → Option (Unit × vS)} (hrec : ∀ {D : Nat} {r : Unit} {s s' : vS}, H ≤ D → rec  s = some (r, s') → s_Ek (s_rows 3 L xs) D s_e190.1 0 (lv_args 0 [.ref 151]) [] (v_mk s) (v_Q none s')) {D : Nat} {r : Unit} {s s' : vS} (h : f_Md_sum rec s = some (r, s')) (hD : H + 2 ≤ D) : s_Ek (s_rows 3 L xs) D s_e192.1 0 (lv_args 0 [.ref 151]) [] (v_mk s) (v_Q none s') := by
  unfold f_Md_sum at h
  show s_Ek (s_rows 3 L xs) D s_e192.1 0 [(0, .ref 151)] [] (v_mk s) _
  refine s_ek_bk 1 (P := 1) (ls' := [(0, .ref 151)]) (st' := [.ref 151]) (M' := v_mk s) rfl ?_
  obtain ⟨r1, s1, e1, h⟩ := v_bd h
  refine v_cV (ν := s_e191.1) (w := 1528) (a := 151) (as' := []) (r := []) (o := none) (by omega) rfl rfl rfl (v_mk_kd (k := 11) (rfl : v_kd 151 = 11) (by decide)) rfl (t_Md_product hrec e1 (by omega)) ?_
  show s_Ek (s_rows 3 L xs) D s_e192.1 4 [(0, .ref 151)] [] (v_mk s1) _
  refine v_ls (ls' := [(0, .ref 151)]) ⟨rfl, trivial⟩ (show ([0] : List Nat).Nodup from by decide) ?_
  refine t_Md_sum_L4 hrec (by omega) (fun s2 h => ?_) 4096  _ h
  show s_Ek (s_rows 3 L xs) D s_e192.1 57 [] [] (v_mk s2) _
  obtain ⟨rfl, rfl⟩ := v_so h
  exact v_ret (fun _ => rfl)
noncomputable def f_Md_compared (rec : vS → Option (Unit × vS)) (s : vS) : Option (Unit × vS) := (v_bi (f_Md_sum rec s) (fun _ s1 => (v_bi (f_Md_look s1) (fun r2 s2 => (if 0 ≤ (s2.1 151 4).toInt then (some ((), s2)) else (if r2.toInt = 60 then (v_let (v_w1 s2 151 3 ((s2.1 151 3) + (1 : Int32))) (fun s5 => (v_bi (f_Md_sum rec s5) (fun _ s6 => (v_bi (f_Md_addStep r2 0 s6) (fun _ s7 => (some ((), s7)))))))) else (if r2.toInt = 61 then (v_let (v_w1 s2 151 3 ((s2.1 151 3) + (1 : Int32))) (fun s9 => (v_bi (f_Md_sum rec s9) (fun _ s10 => (v_bi (f_Md_addStep r2 0 s10) (fun _ s11 => (some ((), s11)))))))) else (if r2.toInt = 62 then (v_let (v_w1 s2 151 3 ((s2.1 151 3) + (1 : Int32))) (fun s13 => (v_bi (f_Md_sum rec s13) (fun _ s14 => (v_bi (f_Md_addStep r2 0 s14) (fun _ s15 => (some ((), s15)))))))) else (some ((), s2))))))))))
set_option maxRecDepth 20000 in
set_option maxHeartbeats 4000000 in
theorem t_Md_compared {L : Nat} {xs : Nat → Int32} {H : Nat} {rec : vS → Option (Unit × vS)} (hrec : ∀ {D : Nat} {r : Unit} {s s' : vS}, H ≤ D → rec  s = some (r, s') → s_Ek (s_rows 3 L xs) D s_e190.1 0 (lv_args 0 [.ref 151]) [] (v_mk s) (v_Q none s')) {D : Nat} {r : Unit} {s s' : vS} (h : f_Md_compared rec s = some (r, s')) (hD : H + 3 ≤ D) : s_Ek (s_rows 3 L xs) D s_e193.1 0 (lv_args 0 [.ref 151]) [] (v_mk s) (v_Q none s') := by
  unfold f_Md_compared at h
  show s_Ek (s_rows 3 L xs) D s_e193.1 0 [(0, .ref 151)] [] (v_mk s) _
  refine s_ek_bk 1 (P := 1) (ls' := [(0, .ref 151)]) (st' := [.ref 151]) (M' := v_mk s) rfl ?_
  obtain ⟨r1, s1, e1, h⟩ := v_bd h
  refine v_cV (ν := s_e192.1) (w := 1536) (a := 151) (as' := []) (r := []) (o := none) (by omega) rfl rfl rfl (v_mk_kd (k := 11) (rfl : v_kd 151 = 11) (by decide)) rfl (t_Md_sum hrec e1 (by omega)) ?_
  show s_Ek (s_rows 3 L xs) D s_e193.1 4 [(0, .ref 151)] [] (v_mk s1) _
  refine s_ek_bk 1 (P := 5) (ls' := [(0, .ref 151)]) (st' := [.ref 151]) (M' := v_mk s1) rfl ?_
  obtain ⟨r2, s2, e2, h⟩ := v_bd h
  refine v_cV (ν := s_e184.1) (w := 1472) (a := 151) (as' := []) (r := []) (o := some (.int r2)) (by omega) rfl rfl rfl (v_mk_kd (k := 11) (rfl : v_kd 151 = 11) (by decide)) rfl (t_Md_look e2 (by omega)) ?_
  show s_Ek (s_rows 3 L xs) D s_e193.1 8 [(0, .ref 151)] [.int r2] (v_mk s2) _
  refine s_ek_bk 2 (P := 10) (ls' := [(1, .int r2), (0, .ref 151)]) (st' := [.ref 151]) (M' := v_mk s2) rfl ?_
  refine v_gf rfl (v_gi (rfl : v_kd 151 = 11) rfl ⟨rfl, rfl, by decide⟩) ?_
  rcases v_if h with ⟨c3, h⟩ | ⟨c3, h⟩
  · refine v_i1t (T := 34) rfl rfl c3 ?_
    obtain ⟨rfl, rfl⟩ := v_so h
    exact v_ret (fun _ => rfl)
  · refine v_i1f (T := 34) rfl rfl c3 ?_
    refine s_ek_bk 2 (P := 19) (ls' := [(1, .int r2), (0, .ref 151)]) (st' := [.int 60, .int r2]) (M' := v_mk s2) rfl ?_
    rcases v_if h with ⟨c4, h⟩ | ⟨c4, h⟩
    · refine v_i2t (T := 35) rfl rfl c4 ?_
      refine s_ek_bk 2 (P := 37) (ls' := [(1, .int r2), (0, .ref 151)]) (st' := [.ref 151, .ref 151]) (M' := v_mk s2) rfl ?_
      refine v_gf rfl (v_gi (rfl : v_kd 151 = 11) rfl ⟨rfl, rfl, by decide⟩) ?_
      refine s_ek_bk 2 (P := 42) (ls' := [(1, .int r2), (0, .ref 151)]) (st' := [.int ((s2.1 151 3) + (1 : Int32)), .ref 151]) (M' := v_mk s2) rfl ?_
      obtain ⟨s5, es5, h⟩ := v_ld h
      refine v_pf (M' := v_mk s5) rfl (by rw [es5]; exact v_pi (rfl : v_kd 151 = 11) rfl ⟨rfl, rfl, by decide⟩ rfl) ?_
      refine s_ek_bk 1 (P := 46) (ls' := [(1, .int r2), (0, .ref 151)]) (st' := [.ref 151]) (M' := v_mk s5) rfl ?_
      obtain ⟨r6, s6, e6, h⟩ := v_bd h
      refine v_cV (ν := s_e192.1) (w := 1536) (a := 151) (as' := []) (r := []) (o := none) (by omega) rfl rfl rfl (v_mk_kd (k := 11) (rfl : v_kd 151 = 11) (by decide)) rfl (t_Md_sum hrec e6 (by omega)) ?_
      show s_Ek (s_rows 3 L xs) D s_e193.1 49 [(1, .int r2), (0, .ref 151)] [] (v_mk s6) _
      refine s_ek_bk 3 (P := 52) (ls' := [(1, .int r2), (0, .ref 151)]) (st' := [.int 0, .int r2, .ref 151]) (M' := v_mk s6) rfl ?_
      obtain ⟨r7, s7, e7, h⟩ := v_bd h
      refine v_cV (ν := s_e186.1) (w := 1490) (a := 151) (as' := [.int r2, .int 0]) (r := []) (o := none) (by omega) rfl rfl rfl (v_mk_kd (k := 11) (rfl : v_kd 151 = 11) (by decide)) rfl (t_Md_addStep e7 (by omega)) ?_
      show s_Ek (s_rows 3 L xs) D s_e193.1 55 [(1, .int r2), (0, .ref 151)] [] (v_mk s7) _
      obtain ⟨rfl, rfl⟩ := v_so h
      exact v_ret (fun _ => rfl)
    · refine v_i2f (T := 35) rfl rfl c4 ?_
      refine s_ek_bk 2 (P := 25) (ls' := [(1, .int r2), (0, .ref 151)]) (st' := [.int 61, .int r2]) (M' := v_mk s2) rfl ?_
      rcases v_if h with ⟨c8, h⟩ | ⟨c8, h⟩
      · refine v_i2t (T := 35) rfl rfl c8 ?_
        refine s_ek_bk 2 (P := 37) (ls' := [(1, .int r2), (0, .ref 151)]) (st' := [.ref 151, .ref 151]) (M' := v_mk s2) rfl ?_
        refine v_gf rfl (v_gi (rfl : v_kd 151 = 11) rfl ⟨rfl, rfl, by decide⟩) ?_
        refine s_ek_bk 2 (P := 42) (ls' := [(1, .int r2), (0, .ref 151)]) (st' := [.int ((s2.1 151 3) + (1 : Int32)), .ref 151]) (M' := v_mk s2) rfl ?_
        obtain ⟨s9, es9, h⟩ := v_ld h
        refine v_pf (M' := v_mk s9) rfl (by rw [es9]; exact v_pi (rfl : v_kd 151 = 11) rfl ⟨rfl, rfl, by decide⟩ rfl) ?_
        refine s_ek_bk 1 (P := 46) (ls' := [(1, .int r2), (0, .ref 151)]) (st' := [.ref 151]) (M' := v_mk s9) rfl ?_
        obtain ⟨r10, s10, e10, h⟩ := v_bd h
        refine v_cV (ν := s_e192.1) (w := 1536) (a := 151) (as' := []) (r := []) (o := none) (by omega) rfl rfl rfl (v_mk_kd (k := 11) (rfl : v_kd 151 = 11) (by decide)) rfl (t_Md_sum hrec e10 (by omega)) ?_
        show s_Ek (s_rows 3 L xs) D s_e193.1 49 [(1, .int r2), (0, .ref 151)] [] (v_mk s10) _
        refine s_ek_bk 3 (P := 52) (ls' := [(1, .int r2), (0, .ref 151)]) (st' := [.int 0, .int r2, .ref 151]) (M' := v_mk s10) rfl ?_
        obtain ⟨r11, s11, e11, h⟩ := v_bd h
        refine v_cV (ν := s_e186.1) (w := 1490) (a := 151) (as' := [.int r2, .int 0]) (r := []) (o := none) (by omega) rfl rfl rfl (v_mk_kd (k := 11) (rfl : v_kd 151 = 11) (by decide)) rfl (t_Md_addStep e11 (by omega)) ?_
        show s_Ek (s_rows 3 L xs) D s_e193.1 55 [(1, .int r2), (0, .ref 151)] [] (v_mk s11) _
        obtain ⟨rfl, rfl⟩ := v_so h
        exact v_ret (fun _ => rfl)
      · refine v_i2f (T := 35) rfl rfl c8 ?_
        refine s_ek_bk 2 (P := 31) (ls' := [(1, .int r2), (0, .ref 151)]) (st' := [.int 62, .int r2]) (M' := v_mk s2) rfl ?_
        rcases v_if h with ⟨c12, h⟩ | ⟨c12, h⟩
        · refine v_i2t (T := 35) rfl rfl c12 ?_
          refine s_ek_bk 2 (P := 37) (ls' := [(1, .int r2), (0, .ref 151)]) (st' := [.ref 151, .ref 151]) (M' := v_mk s2) rfl ?_
          refine v_gf rfl (v_gi (rfl : v_kd 151 = 11) rfl ⟨rfl, rfl, by decide⟩) ?_
          refine s_ek_bk 2 (P := 42) (ls' := [(1, .int r2), (0, .ref 151)]) (st' := [.int ((s2.1 151 3) + (1 : Int32)), .ref 151]) (M' := v_mk s2) rfl ?_
          obtain ⟨s13, es13, h⟩ := v_ld h
          refine v_pf (M' := v_mk s13) rfl (by rw [es13]; exact v_pi (rfl : v_kd 151 = 11) rfl ⟨rfl, rfl, by decide⟩ rfl) ?_
          refine s_ek_bk 1 (P := 46) (ls' := [(1, .int r2), (0, .ref 151)]) (st' := [.ref 151]) (M' := v_mk s13) rfl ?_
          obtain ⟨r14, s14, e14, h⟩ := v_bd h
          refine v_cV (ν := s_e192.1) (w := 1536) (a := 151) (as' := []) (r := []) (o := none) (by omega) rfl rfl rfl (v_mk_kd (k := 11) (rfl : v_kd 151 = 11) (by decide)) rfl (t_Md_sum hrec e14 (by omega)) ?_
          show s_Ek (s_rows 3 L xs) D s_e193.1 49 [(1, .int r2), (0, .ref 151)] [] (v_mk s14) _
          refine s_ek_bk 3 (P := 52) (ls' := [(1, .int r2), (0, .ref 151)]) (st' := [.int 0, .int r2, .ref 151]) (M' := v_mk s14) rfl ?_
          obtain ⟨r15, s15, e15, h⟩ := v_bd h
          refine v_cV (ν := s_e186.1) (w := 1490) (a := 151) (as' := [.int r2, .int 0]) (r := []) (o := none) (by omega) rfl rfl rfl (v_mk_kd (k := 11) (rfl : v_kd 151 = 11) (by decide)) rfl (t_Md_addStep e15 (by omega)) ?_
          show s_Ek (s_rows 3 L xs) D s_e193.1 55 [(1, .int r2), (0, .ref 151)] [] (v_mk s15) _
          obtain ⟨rfl, rfl⟩ := v_so h
          exact v_ret (fun _ => rfl)
        · refine v_i2f (T := 35) rfl rfl c12 ?_
          obtain ⟨rfl, rfl⟩ := v_so h
          exact v_ret (fun _ => rfl)
noncomputable def f_Md_both_L4b (rec : vS → Option (Unit × vS)) (k44 : vS → Option (Unit × vS)) (again : vS → Option (Unit × vS)) (s : vS) : Option (Unit × vS) := (if 0 ≤ (s.1 151 4).toInt then (k44 s) else (v_bi (f_Md_look s) (fun r103 s103 => (if r103.toInt = 38 then (v_let (v_w1 s103 151 3 ((s103.1 151 3) + (1 : Int32))) (fun s105 => (v_bi (f_Md_compared rec s105) (fun _ s106 => (v_bi (f_Md_addStep 38 0 s106) (fun _ s107 => (again s107))))))) else (k44 s103)))))
noncomputable def f_Md_both_L4 (rec : vS → Option (Unit × vS)) (k44 : vS → Option (Unit × vS)) (n : Nat) : vS → Option (Unit × vS) := Nat.rec (motive := fun _ => vS → Option (Unit × vS)) (fun _ => none) (fun _ again => f_Md_both_L4b rec k44 again) n
noncomputable def f_Md_both (rec : vS → Option (Unit × vS)) (s : vS) : Option (Unit × vS) := (v_bi (f_Md_compared rec s) (fun _ s1 => (f_Md_both_L4 rec (fun s2 => (some ((), s2))) 4096 s1)))
set_option maxRecDepth 20000 in
set_option maxHeartbeats 4000000 in
theorem t_Md_both_L4 {L : Nat} {xs : Nat → Int32} {H : Nat} {rec : vS → Option (Unit × vS)} (hrec : ∀ {D : Nat} {r : Unit} {s s' : vS}, H ≤ D → rec  s = some (r, s') → s_Ek (s_rows 3 L xs) D s_e190.1 0 (lv_args 0 [.ref 151]) [] (v_mk s) (v_Q none s')) {k44 : vS → Option (Unit × vS)} {D : Nat} (hD : H + 4 ≤ D) {r : Unit} {s' : vS} (hk44 : ∀ (s : vS), k44 s = some (r, s') → s_Ek (s_rows 3 L xs) D s_e194.1 44 [] [] (v_mk s) (v_Q none s')) : ∀ (n : Nat) (s : vS), f_Md_both_L4 rec k44 n s = some (r, s') → s_Ek (s_rows 3 L xs) D s_e194.1 4 [(0, .ref 151)] [] (v_mk s) (v_Q none s') := by
  intro n
  induction n with
  | zero => intro s h; exact nomatch (show (none : Option (Unit × vS)) = some (r, s') from h)
  | succ n ih =>
    intro s h
    replace h : f_Md_both_L4b rec k44 (f_Md_both_L4 rec k44 n) s = some (r, s') := h
    unfold f_Md_both_L4b at h
    refine s_ek_bk 1 (P := 5) (ls' := [(0, .ref 151)]) (st' := [.ref 151]) (M' := v_mk s) rfl ?_
    refine v_gf rfl (v_gi (rfl : v_kd 151 = 11) rfl ⟨rfl, rfl, by decide⟩) ?_
    rcases v_if h with ⟨c102, h⟩ | ⟨c102, h⟩
    · refine v_i1t (T := 44) rfl rfl c102 ?_
      refine v_ls (ls' := []) trivial (show ([] : List Nat).Nodup from by decide) ?_
      exact hk44 _ h
    · refine v_i1f (T := 44) rfl rfl c102 ?_
      refine s_ek_bk 1 (P := 12) (ls' := [(0, .ref 151)]) (st' := [.ref 151]) (M' := v_mk s) rfl ?_
      obtain ⟨r103, s103, e103, h⟩ := v_bd h
      refine v_cV (ν := s_e184.1) (w := 1472) (a := 151) (as' := []) (r := []) (o := some (.int r103)) (by omega) rfl rfl rfl (v_mk_kd (k := 11) (rfl : v_kd 151 = 11) (by decide)) rfl (t_Md_look e103 (by omega)) ?_
      show s_Ek (s_rows 3 L xs) D s_e194.1 15 [(0, .ref 151)] [.int r103] (v_mk s103) _
      refine s_ek_bk 1 (P := 17) (ls' := [(0, .ref 151)]) (st' := [.int 38, .int r103]) (M' := v_mk s103) rfl ?_
      rcases v_if h with ⟨c104, h⟩ | ⟨c104, h⟩
      · refine v_i2f (T := 44) rfl rfl (fun q => q c104) ?_
        refine s_ek_bk 2 (P := 22) (ls' := [(0, .ref 151)]) (st' := [.ref 151, .ref 151]) (M' := v_mk s103) rfl ?_
        refine v_gf rfl (v_gi (rfl : v_kd 151 = 11) rfl ⟨rfl, rfl, by decide⟩) ?_
        refine s_ek_bk 2 (P := 27) (ls' := [(0, .ref 151)]) (st' := [.int ((s103.1 151 3) + (1 : Int32)), .ref 151]) (M' := v_mk s103) rfl ?_
        obtain ⟨s105, es105, h⟩ := v_ld h
        refine v_pf (M' := v_mk s105) rfl (by rw [es105]; exact v_pi (rfl : v_kd 151 = 11) rfl ⟨rfl, rfl, by decide⟩ rfl) ?_
        refine s_ek_bk 1 (P := 31) (ls' := [(0, .ref 151)]) (st' := [.ref 151]) (M' := v_mk s105) rfl ?_
        obtain ⟨r106, s106, e106, h⟩ := v_bd h
        refine v_cV (ν := s_e193.1) (w := 1544) (a := 151) (as' := []) (r := []) (o := none) (by omega) rfl rfl rfl (v_mk_kd (k := 11) (rfl : v_kd 151 = 11) (by decide)) rfl (t_Md_compared hrec e106 (by omega)) ?_
        show s_Ek (s_rows 3 L xs) D s_e194.1 34 [(0, .ref 151)] [] (v_mk s106) _
        refine s_ek_bk 3 (P := 38) (ls' := [(0, .ref 151)]) (st' := [.int 0, .int 38, .ref 151]) (M' := v_mk s106) rfl ?_
        obtain ⟨r107, s107, e107, h⟩ := v_bd h
        refine v_cV (ν := s_e186.1) (w := 1490) (a := 151) (as' := [.int 38, .int 0]) (r := []) (o := none) (by omega) rfl rfl rfl (v_mk_kd (k := 11) (rfl : v_kd 151 = 11) (by decide)) rfl (t_Md_addStep e107 (by omega)) ?_
        show s_Ek (s_rows 3 L xs) D s_e194.1 41 [(0, .ref 151)] [] (v_mk s107) _
        refine s_ek_bk 1 (P := 4) (ls' := [(0, .ref 151)]) (st' := []) (M' := v_mk s107) rfl ?_
        refine v_ls (ls' := [(0, .ref 151)]) ⟨rfl, trivial⟩ (show ([0] : List Nat).Nodup from by decide) ?_
        exact ih _ h
      · refine v_i2t (T := 44) rfl rfl c104 ?_
        refine v_ls (ls' := []) trivial (show ([] : List Nat).Nodup from by decide) ?_
        exact hk44 _ h
set_option maxRecDepth 20000 in
set_option maxHeartbeats 4000000 in
theorem t_Md_both {L : Nat} {xs : Nat → Int32} {H : Nat} {rec : vS → Option (Unit × vS)} (hrec : ∀ {D : Nat} {r : Unit} {s s' : vS}, H ≤ D → rec  s = some (r, s') → s_Ek (s_rows 3 L xs) D s_e190.1 0 (lv_args 0 [.ref 151]) [] (v_mk s) (v_Q none s')) {D : Nat} {r : Unit} {s s' : vS} (h : f_Md_both rec s = some (r, s')) (hD : H + 4 ≤ D) : s_Ek (s_rows 3 L xs) D s_e194.1 0 (lv_args 0 [.ref 151]) [] (v_mk s) (v_Q none s') := by
  unfold f_Md_both at h
  show s_Ek (s_rows 3 L xs) D s_e194.1 0 [(0, .ref 151)] [] (v_mk s) _
  refine s_ek_bk 1 (P := 1) (ls' := [(0, .ref 151)]) (st' := [.ref 151]) (M' := v_mk s) rfl ?_
  obtain ⟨r1, s1, e1, h⟩ := v_bd h
  refine v_cV (ν := s_e193.1) (w := 1544) (a := 151) (as' := []) (r := []) (o := none) (by omega) rfl rfl rfl (v_mk_kd (k := 11) (rfl : v_kd 151 = 11) (by decide)) rfl (t_Md_compared hrec e1 (by omega)) ?_
  show s_Ek (s_rows 3 L xs) D s_e194.1 4 [(0, .ref 151)] [] (v_mk s1) _
  refine v_ls (ls' := [(0, .ref 151)]) ⟨rfl, trivial⟩ (show ([0] : List Nat).Nodup from by decide) ?_
  refine t_Md_both_L4 hrec (by omega) (fun s2 h => ?_) 4096  _ h
  show s_Ek (s_rows 3 L xs) D s_e194.1 44 [] [] (v_mk s2) _
  obtain ⟨rfl, rfl⟩ := v_so h
  exact v_ret (fun _ => rfl)
noncomputable def f_Md_either_L4b (rec : vS → Option (Unit × vS)) (k44 : vS → Option (Unit × vS)) (again : vS → Option (Unit × vS)) (s : vS) : Option (Unit × vS) := (if 0 ≤ (s.1 151 4).toInt then (k44 s) else (v_bi (f_Md_look s) (fun r103 s103 => (if r103.toInt = 124 then (v_let (v_w1 s103 151 3 ((s103.1 151 3) + (1 : Int32))) (fun s105 => (v_bi (f_Md_both rec s105) (fun _ s106 => (v_bi (f_Md_addStep 124 0 s106) (fun _ s107 => (again s107))))))) else (k44 s103)))))
noncomputable def f_Md_either_L4 (rec : vS → Option (Unit × vS)) (k44 : vS → Option (Unit × vS)) (n : Nat) : vS → Option (Unit × vS) := Nat.rec (motive := fun _ => vS → Option (Unit × vS)) (fun _ => none) (fun _ again => f_Md_either_L4b rec k44 again) n
noncomputable def f_Md_either (rec : vS → Option (Unit × vS)) (s : vS) : Option (Unit × vS) := (v_bi (f_Md_both rec s) (fun _ s1 => (f_Md_either_L4 rec (fun s2 => (some ((), s2))) 4096 s1)))
set_option maxRecDepth 20000 in
set_option maxHeartbeats 4000000 in
theorem t_Md_either_L4 {L : Nat} {xs : Nat → Int32} {H : Nat} {rec : vS → Option (Unit × vS)} (hrec : ∀ {D : Nat} {r : Unit} {s s' : vS}, H ≤ D → rec  s = some (r, s') → s_Ek (s_rows 3 L xs) D s_e190.1 0 (lv_args 0 [.ref 151]) [] (v_mk s) (v_Q none s')) {k44 : vS → Option (Unit × vS)} {D : Nat} (hD : H + 5 ≤ D) {r : Unit} {s' : vS} (hk44 : ∀ (s : vS), k44 s = some (r, s') → s_Ek (s_rows 3 L xs) D s_e195.1 44 [] [] (v_mk s) (v_Q none s')) : ∀ (n : Nat) (s : vS), f_Md_either_L4 rec k44 n s = some (r, s') → s_Ek (s_rows 3 L xs) D s_e195.1 4 [(0, .ref 151)] [] (v_mk s) (v_Q none s') := by
  intro n
  induction n with
  | zero => intro s h; exact nomatch (show (none : Option (Unit × vS)) = some (r, s') from h)
  | succ n ih =>
    intro s h
    replace h : f_Md_either_L4b rec k44 (f_Md_either_L4 rec k44 n) s = some (r, s') := h
    unfold f_Md_either_L4b at h
    refine s_ek_bk 1 (P := 5) (ls' := [(0, .ref 151)]) (st' := [.ref 151]) (M' := v_mk s) rfl ?_
    refine v_gf rfl (v_gi (rfl : v_kd 151 = 11) rfl ⟨rfl, rfl, by decide⟩) ?_
    rcases v_if h with ⟨c102, h⟩ | ⟨c102, h⟩
    · refine v_i1t (T := 44) rfl rfl c102 ?_
      refine v_ls (ls' := []) trivial (show ([] : List Nat).Nodup from by decide) ?_
      exact hk44 _ h
    · refine v_i1f (T := 44) rfl rfl c102 ?_
      refine s_ek_bk 1 (P := 12) (ls' := [(0, .ref 151)]) (st' := [.ref 151]) (M' := v_mk s) rfl ?_
      obtain ⟨r103, s103, e103, h⟩ := v_bd h
      refine v_cV (ν := s_e184.1) (w := 1472) (a := 151) (as' := []) (r := []) (o := some (.int r103)) (by omega) rfl rfl rfl (v_mk_kd (k := 11) (rfl : v_kd 151 = 11) (by decide)) rfl (t_Md_look e103 (by omega)) ?_
      show s_Ek (s_rows 3 L xs) D s_e195.1 15 [(0, .ref 151)] [.int r103] (v_mk s103) _
      refine s_ek_bk 1 (P := 17) (ls' := [(0, .ref 151)]) (st' := [.int 124, .int r103]) (M' := v_mk s103) rfl ?_
      rcases v_if h with ⟨c104, h⟩ | ⟨c104, h⟩
      · refine v_i2f (T := 44) rfl rfl (fun q => q c104) ?_
        refine s_ek_bk 2 (P := 22) (ls' := [(0, .ref 151)]) (st' := [.ref 151, .ref 151]) (M' := v_mk s103) rfl ?_
        refine v_gf rfl (v_gi (rfl : v_kd 151 = 11) rfl ⟨rfl, rfl, by decide⟩) ?_
        refine s_ek_bk 2 (P := 27) (ls' := [(0, .ref 151)]) (st' := [.int ((s103.1 151 3) + (1 : Int32)), .ref 151]) (M' := v_mk s103) rfl ?_
        obtain ⟨s105, es105, h⟩ := v_ld h
        refine v_pf (M' := v_mk s105) rfl (by rw [es105]; exact v_pi (rfl : v_kd 151 = 11) rfl ⟨rfl, rfl, by decide⟩ rfl) ?_
        refine s_ek_bk 1 (P := 31) (ls' := [(0, .ref 151)]) (st' := [.ref 151]) (M' := v_mk s105) rfl ?_
        obtain ⟨r106, s106, e106, h⟩ := v_bd h
        refine v_cV (ν := s_e194.1) (w := 1552) (a := 151) (as' := []) (r := []) (o := none) (by omega) rfl rfl rfl (v_mk_kd (k := 11) (rfl : v_kd 151 = 11) (by decide)) rfl (t_Md_both hrec e106 (by omega)) ?_
        show s_Ek (s_rows 3 L xs) D s_e195.1 34 [(0, .ref 151)] [] (v_mk s106) _
        refine s_ek_bk 3 (P := 38) (ls' := [(0, .ref 151)]) (st' := [.int 0, .int 124, .ref 151]) (M' := v_mk s106) rfl ?_
        obtain ⟨r107, s107, e107, h⟩ := v_bd h
        refine v_cV (ν := s_e186.1) (w := 1490) (a := 151) (as' := [.int 124, .int 0]) (r := []) (o := none) (by omega) rfl rfl rfl (v_mk_kd (k := 11) (rfl : v_kd 151 = 11) (by decide)) rfl (t_Md_addStep e107 (by omega)) ?_
        show s_Ek (s_rows 3 L xs) D s_e195.1 41 [(0, .ref 151)] [] (v_mk s107) _
        refine s_ek_bk 1 (P := 4) (ls' := [(0, .ref 151)]) (st' := []) (M' := v_mk s107) rfl ?_
        refine v_ls (ls' := [(0, .ref 151)]) ⟨rfl, trivial⟩ (show ([0] : List Nat).Nodup from by decide) ?_
        exact ih _ h
      · refine v_i2t (T := 44) rfl rfl c104 ?_
        refine v_ls (ls' := []) trivial (show ([] : List Nat).Nodup from by decide) ?_
        exact hk44 _ h
set_option maxRecDepth 20000 in
set_option maxHeartbeats 4000000 in
theorem t_Md_either {L : Nat} {xs : Nat → Int32} {H : Nat} {rec : vS → Option (Unit × vS)} (hrec : ∀ {D : Nat} {r : Unit} {s s' : vS}, H ≤ D → rec  s = some (r, s') → s_Ek (s_rows 3 L xs) D s_e190.1 0 (lv_args 0 [.ref 151]) [] (v_mk s) (v_Q none s')) {D : Nat} {r : Unit} {s s' : vS} (h : f_Md_either rec s = some (r, s')) (hD : H + 5 ≤ D) : s_Ek (s_rows 3 L xs) D s_e195.1 0 (lv_args 0 [.ref 151]) [] (v_mk s) (v_Q none s') := by
  unfold f_Md_either at h
  show s_Ek (s_rows 3 L xs) D s_e195.1 0 [(0, .ref 151)] [] (v_mk s) _
  refine s_ek_bk 1 (P := 1) (ls' := [(0, .ref 151)]) (st' := [.ref 151]) (M' := v_mk s) rfl ?_
  obtain ⟨r1, s1, e1, h⟩ := v_bd h
  refine v_cV (ν := s_e194.1) (w := 1552) (a := 151) (as' := []) (r := []) (o := none) (by omega) rfl rfl rfl (v_mk_kd (k := 11) (rfl : v_kd 151 = 11) (by decide)) rfl (t_Md_both hrec e1 (by omega)) ?_
  show s_Ek (s_rows 3 L xs) D s_e195.1 4 [(0, .ref 151)] [] (v_mk s1) _
  refine v_ls (ls' := [(0, .ref 151)]) ⟨rfl, trivial⟩ (show ([0] : List Nat).Nodup from by decide) ?_
  refine t_Md_either_L4 hrec (by omega) (fun s2 h => ?_) 4096  _ h
  show s_Ek (s_rows 3 L xs) D s_e195.1 44 [] [] (v_mk s2) _
  obtain ⟨rfl, rfl⟩ := v_so h
  exact v_ret (fun _ => rfl)
noncomputable def f_Md_operandb (rec : vS → Option (Unit × vS)) (s : vS) : Option (Unit × vS) := (v_bi (f_Md_look s) (fun r1 s1 => (v_bi (f_Md_nameOf r1 s1) (fun r2 s2 => (if r2.toInt < 0 then (if r1.toInt = 33 then (v_bi (f_Md_opens s2) (fun r5 s5 => (if r5.toInt = 0 then (some ((), s5)) else (v_bi (rec s5) (fun _ s7 => (v_let (v_w1 s7 151 5 ((s7.1 151 5) - (1 : Int32))) (fun s8 => (if r1.toInt = 33 then (v_bi (f_Md_addStep 3 0 s8) (fun _ s10 => (some ((), s10)))) else (v_bi (f_Md_addStep 4 0 s8) (fun _ s11 => (some ((), s11)))))))))))) else (if r1.toInt = 45 then (v_bi (f_Md_opens s2) (fun r13 s13 => (if r13.toInt = 0 then (some ((), s13)) else (v_bi (rec s13) (fun _ s15 => (v_let (v_w1 s15 151 5 ((s15.1 151 5) - (1 : Int32))) (fun s16 => (if r1.toInt = 33 then (v_bi (f_Md_addStep 3 0 s16) (fun _ s18 => (some ((), s18)))) else (v_bi (f_Md_addStep 4 0 s16) (fun _ s19 => (some ((), s19)))))))))))) else (if r1.toInt = 40 then (v_bi (f_Md_opens s2) (fun r21 s21 => (if r21.toInt = 0 then (some ((), s21)) else (v_bi (f_Md_either rec s21) (fun _ s23 => (if (s23.1 151 4).toInt < 0 then (v_bi (f_Md_look s23) (fun r25 s25 => (if r25.toInt = 41 then (v_let (v_w1 s25 151 3 ((s25.1 151 3) + (1 : Int32))) (fun s27 => (v_let (v_w1 s27 151 5 ((s27.1 151 5) - (1 : Int32))) (fun s28 => (some ((), s28)))))) else (v_bi (f_Md_faulty s25) (fun _ s29 => (some ((), s29))))))) else (some ((), s23)))))))) else (v_bi (f_Md_figure s2) (fun _ s30 => (some ((), s30))))))) else (v_bi (f_Md_nameOf r1 s2) (fun r31 s31 => (v_bi (f_Md_addStep 2 r31 s31) (fun _ s32 => (v_let (v_w1 s32 151 3 ((s32.1 151 3) + (1 : Int32))) (fun s33 => (some ((), s33)))))))))))))
noncomputable def f_Md_operand (n : Nat) : vS → Option (Unit × vS) := Nat.rec (motive := fun _ => vS → Option (Unit × vS)) (fun _ => none) (fun _ rec => f_Md_operandb rec) n
set_option maxRecDepth 20000 in
set_option maxHeartbeats 4000000 in
theorem t_Md_operandb {L : Nat} {xs : Nat → Int32} {H : Nat} {rec : vS → Option (Unit × vS)} (hrec : ∀ {D : Nat} {r : Unit} {s s' : vS}, H ≤ D → rec  s = some (r, s') → s_Ek (s_rows 3 L xs) D s_e190.1 0 (lv_args 0 [.ref 151]) [] (v_mk s) (v_Q none s')) {D : Nat} {r : Unit} {s s' : vS} (h : f_Md_operandb rec s = some (r, s')) (hD : H + 6 ≤ D) : s_Ek (s_rows 3 L xs) D s_e190.1 0 (lv_args 0 [.ref 151]) [] (v_mk s) (v_Q none s') := by
  unfold f_Md_operandb at h
  show s_Ek (s_rows 3 L xs) D s_e190.1 0 [(0, .ref 151)] [] (v_mk s) _
  refine s_ek_bk 1 (P := 1) (ls' := [(0, .ref 151)]) (st' := [.ref 151]) (M' := v_mk s) rfl ?_
  obtain ⟨r1, s1, e1, h⟩ := v_bd h
  refine v_cV (ν := s_e184.1) (w := 1472) (a := 151) (as' := []) (r := []) (o := some (.int r1)) (by omega) rfl rfl rfl (v_mk_kd (k := 11) (rfl : v_kd 151 = 11) (by decide)) rfl (t_Md_look e1 (by omega)) ?_
  show s_Ek (s_rows 3 L xs) D s_e190.1 4 [(0, .ref 151)] [.int r1] (v_mk s1) _
  refine s_ek_bk 2 (P := 6) (ls' := [(1, .int r1), (0, .ref 151)]) (st' := [.int r1]) (M' := v_mk s1) rfl ?_
  obtain ⟨r2, s2, e2, h⟩ := v_bd h
  refine v_cS (ν := s_e187.1) (w := 1497) (as := [.int r1]) (r := []) (o := some (.int r2)) (by omega) rfl rfl rfl rfl (t_Md_nameOf e2 (by omega)) ?_
  show s_Ek (s_rows 3 L xs) D s_e190.1 9 [(1, .int r1), (0, .ref 151)] [.int r2] (v_mk s2) _
  rcases v_if h with ⟨c3, h⟩ | ⟨c3, h⟩
  · refine v_i1t (T := 34) rfl rfl c3 ?_
    refine s_ek_bk 2 (P := 37) (ls' := [(1, .int r1), (0, .ref 151)]) (st' := [.int 33, .int r1]) (M' := v_mk s2) rfl ?_
    rcases v_if h with ⟨c4, h⟩ | ⟨c4, h⟩
    · refine v_i2t (T := 46) rfl rfl c4 ?_
      refine s_ek_bk 1 (P := 47) (ls' := [(1, .int r1), (0, .ref 151)]) (st' := [.ref 151]) (M' := v_mk s2) rfl ?_
      obtain ⟨r5, s5, e5, h⟩ := v_bd h
      refine v_cV (ν := s_e188.1) (w := 1504) (a := 151) (as' := []) (r := []) (o := some (.int r5)) (by omega) rfl rfl rfl (v_mk_kd (k := 11) (rfl : v_kd 151 = 11) (by decide)) rfl (t_Md_opens e5 (by omega)) ?_
      show s_Ek (s_rows 3 L xs) D s_e190.1 50 [(1, .int r1), (0, .ref 151)] [.int r5] (v_mk s5) _
      rcases v_if h with ⟨c6, h⟩ | ⟨c6, h⟩
      · refine v_i1f (T := 54) rfl rfl (fun q => q c6) ?_
        obtain ⟨rfl, rfl⟩ := v_so h
        exact v_ret (fun _ => rfl)
      · refine v_i1t (T := 54) rfl rfl c6 ?_
        refine s_ek_bk 1 (P := 55) (ls' := [(1, .int r1), (0, .ref 151)]) (st' := [.ref 151]) (M' := v_mk s5) rfl ?_
        obtain ⟨r7, s7, e7, h⟩ := v_bd h
        refine v_cV (ν := s_e190.1) (w := 1520) (a := 151) (as' := []) (r := []) (o := none) (by omega) rfl rfl rfl (v_mk_kd (k := 11) (rfl : v_kd 151 = 11) (by decide)) rfl (hrec (by omega) e7) ?_
        show s_Ek (s_rows 3 L xs) D s_e190.1 58 [(1, .int r1), (0, .ref 151)] [] (v_mk s7) _
        refine s_ek_bk 2 (P := 60) (ls' := [(1, .int r1), (0, .ref 151)]) (st' := [.ref 151, .ref 151]) (M' := v_mk s7) rfl ?_
        refine v_gf rfl (v_gi (rfl : v_kd 151 = 11) rfl ⟨rfl, rfl, by decide⟩) ?_
        refine s_ek_bk 2 (P := 65) (ls' := [(1, .int r1), (0, .ref 151)]) (st' := [.int ((s7.1 151 5) - (1 : Int32)), .ref 151]) (M' := v_mk s7) rfl ?_
        obtain ⟨s8, es8, h⟩ := v_ld h
        refine v_pf (M' := v_mk s8) rfl (by rw [es8]; exact v_pi (rfl : v_kd 151 = 11) rfl ⟨rfl, rfl, by decide⟩ rfl) ?_
        refine s_ek_bk 3 (P := 72) (ls' := [(1, .int r1), (0, .ref 151)]) (st' := [.int 33, .int r1, .ref 151]) (M' := v_mk s8) rfl ?_
        rcases v_if h with ⟨c9, h⟩ | ⟨c9, h⟩
        · refine v_i2f (T := 79) rfl rfl (fun q => q c9) ?_
          refine s_ek_bk 3 (P := 81) (ls' := [(1, .int r1), (0, .ref 151)]) (st' := [.int 0, .int 3, .ref 151]) (M' := v_mk s8) rfl ?_
          obtain ⟨r10, s10, e10, h⟩ := v_bd h
          refine v_cV (ν := s_e186.1) (w := 1490) (a := 151) (as' := [.int 3, .int 0]) (r := []) (o := none) (by omega) rfl rfl rfl (v_mk_kd (k := 11) (rfl : v_kd 151 = 11) (by decide)) rfl (t_Md_addStep e10 (by omega)) ?_
          show s_Ek (s_rows 3 L xs) D s_e190.1 84 [(1, .int r1), (0, .ref 151)] [] (v_mk s10) _
          refine s_ek_bk 1 (P := 154) (ls' := [(1, .int r1), (0, .ref 151)]) (st' := []) (M' := v_mk s10) rfl ?_
          obtain ⟨rfl, rfl⟩ := v_so h
          exact v_ret (fun _ => rfl)
        · refine v_i2t (T := 79) rfl rfl c9 ?_
          refine s_ek_bk 2 (P := 81) (ls' := [(1, .int r1), (0, .ref 151)]) (st' := [.int 0, .int 4, .ref 151]) (M' := v_mk s8) rfl ?_
          obtain ⟨r11, s11, e11, h⟩ := v_bd h
          refine v_cV (ν := s_e186.1) (w := 1490) (a := 151) (as' := [.int 4, .int 0]) (r := []) (o := none) (by omega) rfl rfl rfl (v_mk_kd (k := 11) (rfl : v_kd 151 = 11) (by decide)) rfl (t_Md_addStep e11 (by omega)) ?_
          show s_Ek (s_rows 3 L xs) D s_e190.1 84 [(1, .int r1), (0, .ref 151)] [] (v_mk s11) _
          refine s_ek_bk 1 (P := 154) (ls' := [(1, .int r1), (0, .ref 151)]) (st' := []) (M' := v_mk s11) rfl ?_
          obtain ⟨rfl, rfl⟩ := v_so h
          exact v_ret (fun _ => rfl)
    · refine v_i2f (T := 46) rfl rfl c4 ?_
      refine s_ek_bk 2 (P := 43) (ls' := [(1, .int r1), (0, .ref 151)]) (st' := [.int 45, .int r1]) (M' := v_mk s2) rfl ?_
      rcases v_if h with ⟨c12, h⟩ | ⟨c12, h⟩
      · refine v_i2f (T := 87) rfl rfl (fun q => q c12) ?_
        refine s_ek_bk 1 (P := 47) (ls' := [(1, .int r1), (0, .ref 151)]) (st' := [.ref 151]) (M' := v_mk s2) rfl ?_
        obtain ⟨r13, s13, e13, h⟩ := v_bd h
        refine v_cV (ν := s_e188.1) (w := 1504) (a := 151) (as' := []) (r := []) (o := some (.int r13)) (by omega) rfl rfl rfl (v_mk_kd (k := 11) (rfl : v_kd 151 = 11) (by decide)) rfl (t_Md_opens e13 (by omega)) ?_
        show s_Ek (s_rows 3 L xs) D s_e190.1 50 [(1, .int r1), (0, .ref 151)] [.int r13] (v_mk s13) _
        rcases v_if h with ⟨c14, h⟩ | ⟨c14, h⟩
        · refine v_i1f (T := 54) rfl rfl (fun q => q c14) ?_
          obtain ⟨rfl, rfl⟩ := v_so h
          exact v_ret (fun _ => rfl)
        · refine v_i1t (T := 54) rfl rfl c14 ?_
          refine s_ek_bk 1 (P := 55) (ls' := [(1, .int r1), (0, .ref 151)]) (st' := [.ref 151]) (M' := v_mk s13) rfl ?_
          obtain ⟨r15, s15, e15, h⟩ := v_bd h
          refine v_cV (ν := s_e190.1) (w := 1520) (a := 151) (as' := []) (r := []) (o := none) (by omega) rfl rfl rfl (v_mk_kd (k := 11) (rfl : v_kd 151 = 11) (by decide)) rfl (hrec (by omega) e15) ?_
          show s_Ek (s_rows 3 L xs) D s_e190.1 58 [(1, .int r1), (0, .ref 151)] [] (v_mk s15) _
          refine s_ek_bk 2 (P := 60) (ls' := [(1, .int r1), (0, .ref 151)]) (st' := [.ref 151, .ref 151]) (M' := v_mk s15) rfl ?_
          refine v_gf rfl (v_gi (rfl : v_kd 151 = 11) rfl ⟨rfl, rfl, by decide⟩) ?_
          refine s_ek_bk 2 (P := 65) (ls' := [(1, .int r1), (0, .ref 151)]) (st' := [.int ((s15.1 151 5) - (1 : Int32)), .ref 151]) (M' := v_mk s15) rfl ?_
          obtain ⟨s16, es16, h⟩ := v_ld h
          refine v_pf (M' := v_mk s16) rfl (by rw [es16]; exact v_pi (rfl : v_kd 151 = 11) rfl ⟨rfl, rfl, by decide⟩ rfl) ?_
          refine s_ek_bk 3 (P := 72) (ls' := [(1, .int r1), (0, .ref 151)]) (st' := [.int 33, .int r1, .ref 151]) (M' := v_mk s16) rfl ?_
          rcases v_if h with ⟨c17, h⟩ | ⟨c17, h⟩
          · refine v_i2f (T := 79) rfl rfl (fun q => q c17) ?_
            refine s_ek_bk 3 (P := 81) (ls' := [(1, .int r1), (0, .ref 151)]) (st' := [.int 0, .int 3, .ref 151]) (M' := v_mk s16) rfl ?_
            obtain ⟨r18, s18, e18, h⟩ := v_bd h
            refine v_cV (ν := s_e186.1) (w := 1490) (a := 151) (as' := [.int 3, .int 0]) (r := []) (o := none) (by omega) rfl rfl rfl (v_mk_kd (k := 11) (rfl : v_kd 151 = 11) (by decide)) rfl (t_Md_addStep e18 (by omega)) ?_
            show s_Ek (s_rows 3 L xs) D s_e190.1 84 [(1, .int r1), (0, .ref 151)] [] (v_mk s18) _
            refine s_ek_bk 1 (P := 154) (ls' := [(1, .int r1), (0, .ref 151)]) (st' := []) (M' := v_mk s18) rfl ?_
            obtain ⟨rfl, rfl⟩ := v_so h
            exact v_ret (fun _ => rfl)
          · refine v_i2t (T := 79) rfl rfl c17 ?_
            refine s_ek_bk 2 (P := 81) (ls' := [(1, .int r1), (0, .ref 151)]) (st' := [.int 0, .int 4, .ref 151]) (M' := v_mk s16) rfl ?_
            obtain ⟨r19, s19, e19, h⟩ := v_bd h
            refine v_cV (ν := s_e186.1) (w := 1490) (a := 151) (as' := [.int 4, .int 0]) (r := []) (o := none) (by omega) rfl rfl rfl (v_mk_kd (k := 11) (rfl : v_kd 151 = 11) (by decide)) rfl (t_Md_addStep e19 (by omega)) ?_
            show s_Ek (s_rows 3 L xs) D s_e190.1 84 [(1, .int r1), (0, .ref 151)] [] (v_mk s19) _
            refine s_ek_bk 1 (P := 154) (ls' := [(1, .int r1), (0, .ref 151)]) (st' := []) (M' := v_mk s19) rfl ?_
            obtain ⟨rfl, rfl⟩ := v_so h
            exact v_ret (fun _ => rfl)
      · refine v_i2t (T := 87) rfl rfl c12 ?_
        refine s_ek_bk 2 (P := 90) (ls' := [(1, .int r1), (0, .ref 151)]) (st' := [.int 40, .int r1]) (M' := v_mk s2) rfl ?_
        rcases v_if h with ⟨c20, h⟩ | ⟨c20, h⟩
        · refine v_i2f (T := 150) rfl rfl (fun q => q c20) ?_
          refine s_ek_bk 1 (P := 94) (ls' := [(1, .int r1), (0, .ref 151)]) (st' := [.ref 151]) (M' := v_mk s2) rfl ?_
          obtain ⟨r21, s21, e21, h⟩ := v_bd h
          refine v_cV (ν := s_e188.1) (w := 1504) (a := 151) (as' := []) (r := []) (o := some (.int r21)) (by omega) rfl rfl rfl (v_mk_kd (k := 11) (rfl : v_kd 151 = 11) (by decide)) rfl (t_Md_opens e21 (by omega)) ?_
          show s_Ek (s_rows 3 L xs) D s_e190.1 97 [(1, .int r1), (0, .ref 151)] [.int r21] (v_mk s21) _
          rcases v_if h with ⟨c22, h⟩ | ⟨c22, h⟩
          · refine v_i1f (T := 101) rfl rfl (fun q => q c22) ?_
            obtain ⟨rfl, rfl⟩ := v_so h
            exact v_ret (fun _ => rfl)
          · refine v_i1t (T := 101) rfl rfl c22 ?_
            refine s_ek_bk 1 (P := 102) (ls' := [(1, .int r1), (0, .ref 151)]) (st' := [.ref 151]) (M' := v_mk s21) rfl ?_
            obtain ⟨r23, s23, e23, h⟩ := v_bd h
            refine v_cV (ν := s_e195.1) (w := 1560) (a := 151) (as' := []) (r := []) (o := none) (by omega) rfl rfl rfl (v_mk_kd (k := 11) (rfl : v_kd 151 = 11) (by decide)) rfl (t_Md_either hrec e23 (by omega)) ?_
            show s_Ek (s_rows 3 L xs) D s_e190.1 105 [(1, .int r1), (0, .ref 151)] [] (v_mk s23) _
            refine s_ek_bk 1 (P := 106) (ls' := [(1, .int r1), (0, .ref 151)]) (st' := [.ref 151]) (M' := v_mk s23) rfl ?_
            refine v_gf rfl (v_gi (rfl : v_kd 151 = 11) rfl ⟨rfl, rfl, by decide⟩) ?_
            rcases v_if h with ⟨c24, h⟩ | ⟨c24, h⟩
            · refine v_i1t (T := 113) rfl rfl c24 ?_
              refine s_ek_bk 1 (P := 114) (ls' := [(1, .int r1), (0, .ref 151)]) (st' := [.ref 151]) (M' := v_mk s23) rfl ?_
              obtain ⟨r25, s25, e25, h⟩ := v_bd h
              refine v_cV (ν := s_e184.1) (w := 1472) (a := 151) (as' := []) (r := []) (o := some (.int r25)) (by omega) rfl rfl rfl (v_mk_kd (k := 11) (rfl : v_kd 151 = 11) (by decide)) rfl (t_Md_look e25 (by omega)) ?_
              show s_Ek (s_rows 3 L xs) D s_e190.1 117 [(1, .int r1), (0, .ref 151)] [.int r25] (v_mk s25) _
              refine s_ek_bk 1 (P := 119) (ls' := [(1, .int r1), (0, .ref 151)]) (st' := [.int 41, .int r25]) (M' := v_mk s25) rfl ?_
              rcases v_if h with ⟨c26, h⟩ | ⟨c26, h⟩
              · refine v_i2t (T := 127) rfl rfl c26 ?_
                refine s_ek_bk 2 (P := 129) (ls' := [(1, .int r1), (0, .ref 151)]) (st' := [.ref 151, .ref 151]) (M' := v_mk s25) rfl ?_
                refine v_gf rfl (v_gi (rfl : v_kd 151 = 11) rfl ⟨rfl, rfl, by decide⟩) ?_
                refine s_ek_bk 2 (P := 134) (ls' := [(1, .int r1), (0, .ref 151)]) (st' := [.int ((s25.1 151 3) + (1 : Int32)), .ref 151]) (M' := v_mk s25) rfl ?_
                obtain ⟨s27, es27, h⟩ := v_ld h
                refine v_pf (M' := v_mk s27) rfl (by rw [es27]; exact v_pi (rfl : v_kd 151 = 11) rfl ⟨rfl, rfl, by decide⟩ rfl) ?_
                refine s_ek_bk 2 (P := 139) (ls' := [(1, .int r1), (0, .ref 151)]) (st' := [.ref 151, .ref 151]) (M' := v_mk s27) rfl ?_
                refine v_gf rfl (v_gi (rfl : v_kd 151 = 11) rfl ⟨rfl, rfl, by decide⟩) ?_
                refine s_ek_bk 2 (P := 144) (ls' := [(1, .int r1), (0, .ref 151)]) (st' := [.int ((s27.1 151 5) - (1 : Int32)), .ref 151]) (M' := v_mk s27) rfl ?_
                obtain ⟨s28, es28, h⟩ := v_ld h
                refine v_pf (M' := v_mk s28) rfl (by rw [es28]; exact v_pi (rfl : v_kd 151 = 11) rfl ⟨rfl, rfl, by decide⟩ rfl) ?_
                refine s_ek_bk 1 (P := 154) (ls' := [(1, .int r1), (0, .ref 151)]) (st' := []) (M' := v_mk s28) rfl ?_
                obtain ⟨rfl, rfl⟩ := v_so h
                exact v_ret (fun _ => rfl)
              · refine v_i2f (T := 127) rfl rfl c26 ?_
                refine s_ek_bk 1 (P := 123) (ls' := [(1, .int r1), (0, .ref 151)]) (st' := [.ref 151]) (M' := v_mk s25) rfl ?_
                obtain ⟨r29, s29, e29, h⟩ := v_bd h
                refine v_cV (ν := s_e185.1) (w := 1480) (a := 151) (as' := []) (r := []) (o := none) (by omega) rfl rfl rfl (v_mk_kd (k := 11) (rfl : v_kd 151 = 11) (by decide)) rfl (t_Md_faulty e29 (by omega)) ?_
                show s_Ek (s_rows 3 L xs) D s_e190.1 126 [(1, .int r1), (0, .ref 151)] [] (v_mk s29) _
                obtain ⟨rfl, rfl⟩ := v_so h
                exact v_ret (fun _ => rfl)
            · refine v_i1f (T := 113) rfl rfl c24 ?_
              obtain ⟨rfl, rfl⟩ := v_so h
              exact v_ret (fun _ => rfl)
        · refine v_i2t (T := 150) rfl rfl c20 ?_
          refine s_ek_bk 1 (P := 151) (ls' := [(1, .int r1), (0, .ref 151)]) (st' := [.ref 151]) (M' := v_mk s2) rfl ?_
          obtain ⟨r30, s30, e30, h⟩ := v_bd h
          refine v_cV (ν := s_e189.1) (w := 1512) (a := 151) (as' := []) (r := []) (o := none) (by omega) rfl rfl rfl (v_mk_kd (k := 11) (rfl : v_kd 151 = 11) (by decide)) rfl (t_Md_figure e30 (by omega)) ?_
          show s_Ek (s_rows 3 L xs) D s_e190.1 154 [(1, .int r1), (0, .ref 151)] [] (v_mk s30) _
          obtain ⟨rfl, rfl⟩ := v_so h
          exact v_ret (fun _ => rfl)
  · refine v_i1f (T := 34) rfl rfl c3 ?_
    refine s_ek_bk 3 (P := 15) (ls' := [(1, .int r1), (0, .ref 151)]) (st' := [.int r1, .int 2, .ref 151]) (M' := v_mk s2) rfl ?_
    obtain ⟨r31, s31, e31, h⟩ := v_bd h
    refine v_cS (ν := s_e187.1) (w := 1497) (as := [.int r1]) (r := [.int 2, .ref 151]) (o := some (.int r31)) (by omega) rfl rfl rfl rfl (t_Md_nameOf e31 (by omega)) ?_
    show s_Ek (s_rows 3 L xs) D s_e190.1 18 [(1, .int r1), (0, .ref 151)] [.int r31, .int 2, .ref 151] (v_mk s31) _
    obtain ⟨r32, s32, e32, h⟩ := v_bd h
    refine v_cV (ν := s_e186.1) (w := 1490) (a := 151) (as' := [.int 2, .int r31]) (r := []) (o := none) (by omega) rfl rfl rfl (v_mk_kd (k := 11) (rfl : v_kd 151 = 11) (by decide)) rfl (t_Md_addStep e32 (by omega)) ?_
    show s_Ek (s_rows 3 L xs) D s_e190.1 21 [(1, .int r1), (0, .ref 151)] [] (v_mk s32) _
    refine s_ek_bk 2 (P := 23) (ls' := [(1, .int r1), (0, .ref 151)]) (st' := [.ref 151, .ref 151]) (M' := v_mk s32) rfl ?_
    refine v_gf rfl (v_gi (rfl : v_kd 151 = 11) rfl ⟨rfl, rfl, by decide⟩) ?_
    refine s_ek_bk 2 (P := 28) (ls' := [(1, .int r1), (0, .ref 151)]) (st' := [.int ((s32.1 151 3) + (1 : Int32)), .ref 151]) (M' := v_mk s32) rfl ?_
    obtain ⟨s33, es33, h⟩ := v_ld h
    refine v_pf (M' := v_mk s33) rfl (by rw [es33]; exact v_pi (rfl : v_kd 151 = 11) rfl ⟨rfl, rfl, by decide⟩ rfl) ?_
    refine s_ek_bk 1 (P := 154) (ls' := [(1, .int r1), (0, .ref 151)]) (st' := []) (M' := v_mk s33) rfl ?_
    obtain ⟨rfl, rfl⟩ := v_so h
    exact v_ret (fun _ => rfl)
set_option maxRecDepth 20000 in
set_option maxHeartbeats 4000000 in
theorem t_Md_operand {L : Nat} {xs : Nat → Int32} : ∀ (n : Nat) {D : Nat} {r : Unit} {s s' : vS}, 6 * n ≤ D → f_Md_operand n s = some (r, s') → s_Ek (s_rows 3 L xs) D s_e190.1 0 (lv_args 0 [.ref 151]) [] (v_mk s) (v_Q none s') := by
  intro n
  induction n with
  | zero => intro D r s s' hD h; exact nomatch (show (none : Option (Unit × vS)) = some (r, s') from h)
  | succ n ih =>
    intro D r s s' hD h
    exact t_Md_operandb (H := 6 * n) (rec := f_Md_operand n) (fun hD e => ih hD e) h (by omega)
noncomputable def f_Md_line (s : vS) : Option (Unit × vS) := (if v_in ((610 : Int32) + (s.1 155 10)) 671 then (v_let (v_w1 s 156 (Int32.toNatClampNeg ((610 : Int32) + (s.1 155 10))) (vp_nar .short (Int16.toInt32 (Int32.toInt16 (s.1 151 6))))) (fun s2 => (v_bi (f_Md_either (f_Md_operand 64) s2) (fun _ s3 => (if 0 ≤ (s3.1 151 4).toInt then (if v_in ((610 : Int32) + (s.1 155 10)) 671 then (v_let (v_w1 s3 157 (Int32.toNatClampNeg ((610 : Int32) + (s.1 155 10))) (vp_nar .short (Int16.toInt32 (Int32.toInt16 (s3.1 151 6))))) (fun s6 => (v_let (v_w1 s6 155 10 ((s6.1 155 10) + (1 : Int32))) (fun s7 => (some ((), s7)))))) else none) else (v_bi (f_Md_look s3) (fun r8 s8 => (if r8.toInt = 63 then (v_let (v_w1 s8 151 3 ((s8.1 151 3) + (1 : Int32))) (fun s10 => (if v_in ((610 : Int32) + (s.1 155 10)) 671 then (v_let (v_w1 s10 156 (Int32.toNatClampNeg ((610 : Int32) + (s.1 155 10))) (vp_nar .short (Int16.toInt32 (Int32.toInt16 (s10.1 151 6))))) (fun s12 => (v_bi (f_Md_either (f_Md_operand 64) s12) (fun _ s13 => (if v_in ((610 : Int32) + (s.1 155 10)) 671 then (v_let (v_w1 s13 157 (Int32.toNatClampNeg ((610 : Int32) + (s.1 155 10))) (vp_nar .short (Int16.toInt32 (Int32.toInt16 (s13.1 151 6))))) (fun s15 => (v_let (v_w1 s15 155 10 ((s15.1 155 10) + (1 : Int32))) (fun s16 => (some ((), s16)))))) else none))))) else none))) else (if v_in ((610 : Int32) + (s.1 155 10)) 671 then (v_let (v_w1 s8 157 (Int32.toNatClampNeg ((610 : Int32) + (s.1 155 10))) (vp_nar .short (Int16.toInt32 (Int32.toInt16 (s8.1 151 6))))) (fun s18 => (v_let (v_w1 s18 155 10 ((s18.1 155 10) + (1 : Int32))) (fun s19 => (some ((), s19)))))) else none))))))))) else none)
set_option maxRecDepth 20000 in
set_option maxHeartbeats 4000000 in
theorem t_Md_line {L : Nat} {xs : Nat → Int32} {D : Nat} {r : Unit} {s s' : vS} (h : f_Md_line s = some (r, s')) (hD : 390 ≤ D) : s_Ek (s_rows 3 L xs) D s_e196.1 0 (lv_args 0 [.ref 151]) [] (v_mk s) (v_Q none s') := by
  unfold f_Md_line at h
  show s_Ek (s_rows 3 L xs) D s_e196.1 0 [(0, .ref 151)] [] (v_mk s) _
  refine s_ek_bk 2 (P := 4) (ls' := [(0, .ref 151)]) (st' := [.ref 151, .int 610]) (M' := v_mk s) rfl ?_
  refine v_gf rfl (v_gr (rfl : v_kd 151 = 11) (rfl : v_sl 151 9 = .ref 155) ⟨rfl, rfl, by decide⟩) ?_
  refine s_ek_bk 1 (P := 9) (ls' := [(0, .ref 151)]) (st' := [.int 10, .ref 155, .int 610]) (M' := v_mk s) rfl ?_
  refine v_ia (i := 10) rfl (v_ai (rfl : v_kd 155 = 13) rfl (by decide) v_all13 (v_cn (rfl : v_ln 155 = 11) (by decide : v_in 10 11))) ?_
  show s_Ek (s_rows 3 L xs) D s_e196.1 10 [(0, .ref 151)] [.int (s.1 155 10), .int 610] (v_mk s) _
  refine s_ek_bk 3 (P := 13) (ls' := [(1, .int ((610 : Int32) + (s.1 155 10))), (0, .ref 151)]) (st' := [.ref 151]) (M' := v_mk s) rfl ?_
  refine v_gf rfl (v_gr (rfl : v_kd 151 = 11) (rfl : v_sl 151 10 = .ref 156) ⟨rfl, rfl, by decide⟩) ?_
  refine s_ek_bk 2 (P := 18) (ls' := [(1, .int ((610 : Int32) + (s.1 155 10))), (0, .ref 151)]) (st' := [.ref 151, .int ((610 : Int32) + (s.1 155 10)), .ref 156]) (M' := v_mk s) rfl ?_
  refine v_gf rfl (v_gi (rfl : v_kd 151 = 11) rfl ⟨rfl, rfl, by decide⟩) ?_
  refine s_ek_bk 1 (P := 22) (ls' := [(1, .int ((610 : Int32) + (s.1 155 10))), (0, .ref 151)]) (st' := [.int (Int16.toInt32 (Int32.toInt16 (s.1 151 6))), .int ((610 : Int32) + (s.1 155 10)), .ref 156]) (M' := v_mk s) rfl ?_
  obtain ⟨c1, h⟩ := v_ck h
  obtain ⟨s2, es2, h⟩ := v_ld h
  refine v_sst (M' := v_mk s2) (i := ((610 : Int32) + (s.1 155 10))) rfl (by rw [es2]; exact v_pai (rfl : v_kd 156 = 15) rfl (by decide) v_all15 (v_cn (rfl : v_ln 156 = 671) c1)) ?_
  refine s_ek_bk 1 (P := 24) (ls' := [(1, .int ((610 : Int32) + (s.1 155 10))), (0, .ref 151)]) (st' := [.ref 151]) (M' := v_mk s2) rfl ?_
  obtain ⟨r3, s3, e3, h⟩ := v_bd h
  refine v_cV (ν := s_e195.1) (w := 1560) (a := 151) (as' := []) (r := []) (o := none) (by omega) rfl rfl rfl (v_mk_kd (k := 11) (rfl : v_kd 151 = 11) (by decide)) rfl (t_Md_either (H := 384) (rec := f_Md_operand 64) (fun hD e => t_Md_operand 64 hD e) e3 (by omega)) ?_
  show s_Ek (s_rows 3 L xs) D s_e196.1 27 [(1, .int ((610 : Int32) + (s.1 155 10))), (0, .ref 151)] [] (v_mk s3) _
  refine s_ek_bk 1 (P := 28) (ls' := [(1, .int ((610 : Int32) + (s.1 155 10))), (0, .ref 151)]) (st' := [.ref 151]) (M' := v_mk s3) rfl ?_
  refine v_gf rfl (v_gi (rfl : v_kd 151 = 11) rfl ⟨rfl, rfl, by decide⟩) ?_
  rcases v_if h with ⟨c4, h⟩ | ⟨c4, h⟩
  · refine v_i1t (T := 68) rfl rfl c4 ?_
    refine s_ek_bk 1 (P := 69) (ls' := [(1, .int ((610 : Int32) + (s.1 155 10))), (0, .ref 151)]) (st' := [.ref 151]) (M' := v_mk s3) rfl ?_
    refine v_gf rfl (v_gr (rfl : v_kd 151 = 11) (rfl : v_sl 151 11 = .ref 157) ⟨rfl, rfl, by decide⟩) ?_
    refine s_ek_bk 2 (P := 74) (ls' := [(1, .int ((610 : Int32) + (s.1 155 10))), (0, .ref 151)]) (st' := [.ref 151, .int ((610 : Int32) + (s.1 155 10)), .ref 157]) (M' := v_mk s3) rfl ?_
    refine v_gf rfl (v_gi (rfl : v_kd 151 = 11) rfl ⟨rfl, rfl, by decide⟩) ?_
    refine s_ek_bk 1 (P := 78) (ls' := [(1, .int ((610 : Int32) + (s.1 155 10))), (0, .ref 151)]) (st' := [.int (Int16.toInt32 (Int32.toInt16 (s3.1 151 6))), .int ((610 : Int32) + (s.1 155 10)), .ref 157]) (M' := v_mk s3) rfl ?_
    obtain ⟨c5, h⟩ := v_ck h
    obtain ⟨s6, es6, h⟩ := v_ld h
    refine v_sst (M' := v_mk s6) (i := ((610 : Int32) + (s.1 155 10))) rfl (by rw [es6]; exact v_pai (rfl : v_kd 157 = 15) rfl (by decide) v_all15 (v_cn (rfl : v_ln 157 = 671) c5)) ?_
    refine s_ek_bk 1 (P := 80) (ls' := [(1, .int ((610 : Int32) + (s.1 155 10))), (0, .ref 151)]) (st' := [.ref 151]) (M' := v_mk s6) rfl ?_
    refine v_gf rfl (v_gr (rfl : v_kd 151 = 11) (rfl : v_sl 151 9 = .ref 155) ⟨rfl, rfl, by decide⟩) ?_
    refine s_ek_bk 2 (P := 86) (ls' := [(1, .int ((610 : Int32) + (s.1 155 10))), (0, .ref 151)]) (st' := [.int 10, .ref 155, .int 10, .ref 155]) (M' := v_mk s6) rfl ?_
    refine v_ia (i := 10) rfl (v_ai (rfl : v_kd 155 = 13) rfl (by decide) v_all13 (v_cn (rfl : v_ln 155 = 11) (by decide : v_in 10 11))) ?_
    show s_Ek (s_rows 3 L xs) D s_e196.1 87 [(1, .int ((610 : Int32) + (s.1 155 10))), (0, .ref 151)] [.int (s6.1 155 10), .int 10, .ref 155] (v_mk s6) _
    refine s_ek_bk 2 (P := 89) (ls' := [(1, .int ((610 : Int32) + (s.1 155 10))), (0, .ref 151)]) (st' := [.int ((s6.1 155 10) + (1 : Int32)), .int 10, .ref 155]) (M' := v_mk s6) rfl ?_
    obtain ⟨s7, es7, h⟩ := v_ld h
    refine v_ist (M' := v_mk s7) (i := 10) rfl (by rw [es7]; exact v_pai (rfl : v_kd 155 = 13) rfl (by decide) v_all13 (v_cn (rfl : v_ln 155 = 11) (by decide : v_in 10 11))) ?_
    obtain ⟨rfl, rfl⟩ := v_so h
    exact v_ret (fun _ => rfl)
  · refine v_i1f (T := 68) rfl rfl c4 ?_
    refine s_ek_bk 1 (P := 35) (ls' := [(1, .int ((610 : Int32) + (s.1 155 10))), (0, .ref 151)]) (st' := [.ref 151]) (M' := v_mk s3) rfl ?_
    obtain ⟨r8, s8, e8, h⟩ := v_bd h
    refine v_cV (ν := s_e184.1) (w := 1472) (a := 151) (as' := []) (r := []) (o := some (.int r8)) (by omega) rfl rfl rfl (v_mk_kd (k := 11) (rfl : v_kd 151 = 11) (by decide)) rfl (t_Md_look e8 (by omega)) ?_
    show s_Ek (s_rows 3 L xs) D s_e196.1 38 [(1, .int ((610 : Int32) + (s.1 155 10))), (0, .ref 151)] [.int r8] (v_mk s8) _
    refine s_ek_bk 1 (P := 40) (ls' := [(1, .int ((610 : Int32) + (s.1 155 10))), (0, .ref 151)]) (st' := [.int 63, .int r8]) (M' := v_mk s8) rfl ?_
    rcases v_if h with ⟨c9, h⟩ | ⟨c9, h⟩
    · refine v_i2f (T := 68) rfl rfl (fun q => q c9) ?_
      refine s_ek_bk 2 (P := 45) (ls' := [(1, .int ((610 : Int32) + (s.1 155 10))), (0, .ref 151)]) (st' := [.ref 151, .ref 151]) (M' := v_mk s8) rfl ?_
      refine v_gf rfl (v_gi (rfl : v_kd 151 = 11) rfl ⟨rfl, rfl, by decide⟩) ?_
      refine s_ek_bk 2 (P := 50) (ls' := [(1, .int ((610 : Int32) + (s.1 155 10))), (0, .ref 151)]) (st' := [.int ((s8.1 151 3) + (1 : Int32)), .ref 151]) (M' := v_mk s8) rfl ?_
      obtain ⟨s10, es10, h⟩ := v_ld h
      refine v_pf (M' := v_mk s10) rfl (by rw [es10]; exact v_pi (rfl : v_kd 151 = 11) rfl ⟨rfl, rfl, by decide⟩ rfl) ?_
      refine s_ek_bk 1 (P := 54) (ls' := [(1, .int ((610 : Int32) + (s.1 155 10))), (0, .ref 151)]) (st' := [.ref 151]) (M' := v_mk s10) rfl ?_
      refine v_gf rfl (v_gr (rfl : v_kd 151 = 11) (rfl : v_sl 151 10 = .ref 156) ⟨rfl, rfl, by decide⟩) ?_
      refine s_ek_bk 2 (P := 59) (ls' := [(1, .int ((610 : Int32) + (s.1 155 10))), (0, .ref 151)]) (st' := [.ref 151, .int ((610 : Int32) + (s.1 155 10)), .ref 156]) (M' := v_mk s10) rfl ?_
      refine v_gf rfl (v_gi (rfl : v_kd 151 = 11) rfl ⟨rfl, rfl, by decide⟩) ?_
      refine s_ek_bk 1 (P := 63) (ls' := [(1, .int ((610 : Int32) + (s.1 155 10))), (0, .ref 151)]) (st' := [.int (Int16.toInt32 (Int32.toInt16 (s10.1 151 6))), .int ((610 : Int32) + (s.1 155 10)), .ref 156]) (M' := v_mk s10) rfl ?_
      obtain ⟨c11, h⟩ := v_ck h
      obtain ⟨s12, es12, h⟩ := v_ld h
      refine v_sst (M' := v_mk s12) (i := ((610 : Int32) + (s.1 155 10))) rfl (by rw [es12]; exact v_pai (rfl : v_kd 156 = 15) rfl (by decide) v_all15 (v_cn (rfl : v_ln 156 = 671) c11)) ?_
      refine s_ek_bk 1 (P := 65) (ls' := [(1, .int ((610 : Int32) + (s.1 155 10))), (0, .ref 151)]) (st' := [.ref 151]) (M' := v_mk s12) rfl ?_
      obtain ⟨r13, s13, e13, h⟩ := v_bd h
      refine v_cV (ν := s_e195.1) (w := 1560) (a := 151) (as' := []) (r := []) (o := none) (by omega) rfl rfl rfl (v_mk_kd (k := 11) (rfl : v_kd 151 = 11) (by decide)) rfl (t_Md_either (H := 384) (rec := f_Md_operand 64) (fun hD e => t_Md_operand 64 hD e) e13 (by omega)) ?_
      show s_Ek (s_rows 3 L xs) D s_e196.1 68 [(1, .int ((610 : Int32) + (s.1 155 10))), (0, .ref 151)] [] (v_mk s13) _
      refine s_ek_bk 1 (P := 69) (ls' := [(1, .int ((610 : Int32) + (s.1 155 10))), (0, .ref 151)]) (st' := [.ref 151]) (M' := v_mk s13) rfl ?_
      refine v_gf rfl (v_gr (rfl : v_kd 151 = 11) (rfl : v_sl 151 11 = .ref 157) ⟨rfl, rfl, by decide⟩) ?_
      refine s_ek_bk 2 (P := 74) (ls' := [(1, .int ((610 : Int32) + (s.1 155 10))), (0, .ref 151)]) (st' := [.ref 151, .int ((610 : Int32) + (s.1 155 10)), .ref 157]) (M' := v_mk s13) rfl ?_
      refine v_gf rfl (v_gi (rfl : v_kd 151 = 11) rfl ⟨rfl, rfl, by decide⟩) ?_
      refine s_ek_bk 1 (P := 78) (ls' := [(1, .int ((610 : Int32) + (s.1 155 10))), (0, .ref 151)]) (st' := [.int (Int16.toInt32 (Int32.toInt16 (s13.1 151 6))), .int ((610 : Int32) + (s.1 155 10)), .ref 157]) (M' := v_mk s13) rfl ?_
      obtain ⟨c14, h⟩ := v_ck h
      obtain ⟨s15, es15, h⟩ := v_ld h
      refine v_sst (M' := v_mk s15) (i := ((610 : Int32) + (s.1 155 10))) rfl (by rw [es15]; exact v_pai (rfl : v_kd 157 = 15) rfl (by decide) v_all15 (v_cn (rfl : v_ln 157 = 671) c14)) ?_
      refine s_ek_bk 1 (P := 80) (ls' := [(1, .int ((610 : Int32) + (s.1 155 10))), (0, .ref 151)]) (st' := [.ref 151]) (M' := v_mk s15) rfl ?_
      refine v_gf rfl (v_gr (rfl : v_kd 151 = 11) (rfl : v_sl 151 9 = .ref 155) ⟨rfl, rfl, by decide⟩) ?_
      refine s_ek_bk 2 (P := 86) (ls' := [(1, .int ((610 : Int32) + (s.1 155 10))), (0, .ref 151)]) (st' := [.int 10, .ref 155, .int 10, .ref 155]) (M' := v_mk s15) rfl ?_
      refine v_ia (i := 10) rfl (v_ai (rfl : v_kd 155 = 13) rfl (by decide) v_all13 (v_cn (rfl : v_ln 155 = 11) (by decide : v_in 10 11))) ?_
      show s_Ek (s_rows 3 L xs) D s_e196.1 87 [(1, .int ((610 : Int32) + (s.1 155 10))), (0, .ref 151)] [.int (s15.1 155 10), .int 10, .ref 155] (v_mk s15) _
      refine s_ek_bk 2 (P := 89) (ls' := [(1, .int ((610 : Int32) + (s.1 155 10))), (0, .ref 151)]) (st' := [.int ((s15.1 155 10) + (1 : Int32)), .int 10, .ref 155]) (M' := v_mk s15) rfl ?_
      obtain ⟨s16, es16, h⟩ := v_ld h
      refine v_ist (M' := v_mk s16) (i := 10) rfl (by rw [es16]; exact v_pai (rfl : v_kd 155 = 13) rfl (by decide) v_all13 (v_cn (rfl : v_ln 155 = 11) (by decide : v_in 10 11))) ?_
      obtain ⟨rfl, rfl⟩ := v_so h
      exact v_ret (fun _ => rfl)
    · refine v_i2t (T := 68) rfl rfl c9 ?_
      refine s_ek_bk 1 (P := 69) (ls' := [(1, .int ((610 : Int32) + (s.1 155 10))), (0, .ref 151)]) (st' := [.ref 151]) (M' := v_mk s8) rfl ?_
      refine v_gf rfl (v_gr (rfl : v_kd 151 = 11) (rfl : v_sl 151 11 = .ref 157) ⟨rfl, rfl, by decide⟩) ?_
      refine s_ek_bk 2 (P := 74) (ls' := [(1, .int ((610 : Int32) + (s.1 155 10))), (0, .ref 151)]) (st' := [.ref 151, .int ((610 : Int32) + (s.1 155 10)), .ref 157]) (M' := v_mk s8) rfl ?_
      refine v_gf rfl (v_gi (rfl : v_kd 151 = 11) rfl ⟨rfl, rfl, by decide⟩) ?_
      refine s_ek_bk 1 (P := 78) (ls' := [(1, .int ((610 : Int32) + (s.1 155 10))), (0, .ref 151)]) (st' := [.int (Int16.toInt32 (Int32.toInt16 (s8.1 151 6))), .int ((610 : Int32) + (s.1 155 10)), .ref 157]) (M' := v_mk s8) rfl ?_
      obtain ⟨c17, h⟩ := v_ck h
      obtain ⟨s18, es18, h⟩ := v_ld h
      refine v_sst (M' := v_mk s18) (i := ((610 : Int32) + (s.1 155 10))) rfl (by rw [es18]; exact v_pai (rfl : v_kd 157 = 15) rfl (by decide) v_all15 (v_cn (rfl : v_ln 157 = 671) c17)) ?_
      refine s_ek_bk 1 (P := 80) (ls' := [(1, .int ((610 : Int32) + (s.1 155 10))), (0, .ref 151)]) (st' := [.ref 151]) (M' := v_mk s18) rfl ?_
      refine v_gf rfl (v_gr (rfl : v_kd 151 = 11) (rfl : v_sl 151 9 = .ref 155) ⟨rfl, rfl, by decide⟩) ?_
      refine s_ek_bk 2 (P := 86) (ls' := [(1, .int ((610 : Int32) + (s.1 155 10))), (0, .ref 151)]) (st' := [.int 10, .ref 155, .int 10, .ref 155]) (M' := v_mk s18) rfl ?_
      refine v_ia (i := 10) rfl (v_ai (rfl : v_kd 155 = 13) rfl (by decide) v_all13 (v_cn (rfl : v_ln 155 = 11) (by decide : v_in 10 11))) ?_
      show s_Ek (s_rows 3 L xs) D s_e196.1 87 [(1, .int ((610 : Int32) + (s.1 155 10))), (0, .ref 151)] [.int (s18.1 155 10), .int 10, .ref 155] (v_mk s18) _
      refine s_ek_bk 2 (P := 89) (ls' := [(1, .int ((610 : Int32) + (s.1 155 10))), (0, .ref 151)]) (st' := [.int ((s18.1 155 10) + (1 : Int32)), .int 10, .ref 155]) (M' := v_mk s18) rfl ?_
      obtain ⟨s19, es19, h⟩ := v_ld h
      refine v_ist (M' := v_mk s19) (i := 10) rfl (by rw [es19]; exact v_pai (rfl : v_kd 155 = 13) rfl (by decide) v_all13 (v_cn (rfl : v_ln 155 = 11) (by decide : v_in 10 11))) ?_
      obtain ⟨rfl, rfl⟩ := v_so h
      exact v_ret (fun _ => rfl)
