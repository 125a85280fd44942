/-! functions over the store, and the runs that they stand for: Md_element Md_shift Md_taken -/
noncomputable def f_Md_element (b : Int32) (c : Int32) (s : vS) : Option (Int64 × vS) := (v_bi (f_Md_whyNoPlace b c s) (fun r1 s1 => (if 0 ≤ r1.toInt then (if v_in (((60 : Int32) * b) + c) 360 then (some ((s1.2 183 (Int32.toNatClampNeg (((60 : Int32) * b) + c))), s1)) else none) else (some ((-9223372036854775808), s1)))))
set_option maxRecDepth 20000 in
set_option maxHeartbeats 4000000 in
theorem t_Md_element {L : Nat} {xs : Nat → Int32} {b : Int32} {c : Int32} {D : Nat} {r : Int64} {s s' : vS} (h : f_Md_element b c s = some (r, s')) (hD : 3 ≤ D) : s_Ek (s_rows 3 L xs) D s_e286.1 0 (lv_args 0 [.ref 151, .int b, .int c]) [] (v_mk s) (v_Q (some (.long r)) s') := by
  unfold f_Md_element at h
  show s_Ek (s_rows 3 L xs) D s_e286.1 0 [(0, .ref 151), (1, .int b), (2, .int c)] [] (v_mk s) _
  refine s_ek_bk 3 (P := 3) (ls' := [(0, .ref 151), (1, .int b), (2, .int c)]) (st' := [.int c, .int b, .ref 151]) (M' := v_mk s) rfl ?_
  obtain ⟨r1, s1, e1, h⟩ := v_bd h
  refine v_cV (ν := s_e284.1) (w := 2274) (a := 151) (as' := [.int b, .int c]) (r := []) (o := some (.int r1)) (by omega) rfl rfl rfl (v_mk_kd (k := 11) (rfl : v_kd 151 = 11) (by decide)) rfl (t_Md_whyNoPlace e1 (by omega)) ?_
  show s_Ek (s_rows 3 L xs) D s_e286.1 6 [(0, .ref 151), (1, .int b), (2, .int c)] [.int r1] (v_mk s1) _
  rcases v_if h with ⟨c2, h⟩ | ⟨c2, h⟩
  · refine v_i1t (T := 15) rfl rfl c2 ?_
    refine s_ek_bk 1 (P := 16) (ls' := [(0, .ref 151), (1, .int b), (2, .int c)]) (st' := [.ref 151]) (M' := v_mk s1) rfl ?_
    refine v_gf rfl (v_gr (rfl : v_kd 151 = 11) (rfl : v_sl 151 48 = .ref 183) ⟨rfl, rfl, by decide⟩) ?_
    refine s_ek_bk 5 (P := 25) (ls' := [(0, .ref 151), (1, .int b), (2, .int c)]) (st' := [.int (((60 : Int32) * b) + c), .ref 183]) (M' := v_mk s1) rfl ?_
    obtain ⟨c3, h⟩ := v_ck h
    refine v_la (i := (((60 : Int32) * b) + c)) rfl (v_al (rfl : v_kd 183 = 14) rfl (by decide) v_all14 (v_cn (rfl : v_ln 183 = 360) c3)) ?_
    obtain ⟨rfl, rfl⟩ := v_so h
    exact v_ret (fun _ => rfl)
  · refine v_i1f (T := 15) rfl rfl c2 ?_
    refine s_ek_bk 2 (P := 26) (ls' := [(0, .ref 151), (1, .int b), (2, .int c)]) (st' := [.long (-9223372036854775808)]) (M' := v_mk s1) rfl ?_
    obtain ⟨rfl, rfl⟩ := v_so h
    exact v_ret (fun _ => rfl)
noncomputable def f_Md_shift_L113b (p1 : Int32) (p2 : Int32) (p3 : Int32) (p4 : Int32) (p5 : Int32) (k147 : vS → Option (Int32 × vS)) (again : Int32 → vS → Option (Int32 × vS)) (v6 : Int32) (s : vS) : Option (Int32 × vS) := (if p5.toInt ≤ v6.toInt then (k147 s) else (if v_in ((((60 : Int32) * p1) + p2) + v6) 360 then (if v_in v6 60 then (v_let (v_w2 s 184 (Int32.toNatClampNeg v6) (s.2 183 (Int32.toNatClampNeg ((((60 : Int32) * p1) + p2) + v6)))) (fun s124 => (again (v6 + 1) s124))) else none) else none))
noncomputable def f_Md_shift_L113 (p1 : Int32) (p2 : Int32) (p3 : Int32) (p4 : Int32) (p5 : Int32) (k147 : vS → Option (Int32 × vS)) (n : Nat) : Int32 → vS → Option (Int32 × vS) := Nat.rec (motive := fun _ => Int32 → vS → Option (Int32 × vS)) (fun _ _ => none) (fun _ again => f_Md_shift_L113b p1 p2 p3 p4 p5 k147 again) n
noncomputable def f_Md_shift_L150b (p3 : Int32) (p4 : Int32) (p5 : Int32) (k185 : vS → Option (Int32 × vS)) (again : Int32 → vS → Option (Int32 × vS)) (v6 : Int32) (s : vS) : Option (Int32 × vS) := (if p5.toInt ≤ v6.toInt then (k185 s) else (if v_in v6 60 then (if v_in ((((60 : Int32) * p3) + p4) + v6) 360 then (v_let (v_w2 s 183 (Int32.toNatClampNeg ((((60 : Int32) * p3) + p4) + v6)) (s.2 184 (Int32.toNatClampNeg v6))) (fun s225 => (again (v6 + 1) s225))) else none) else none))
noncomputable def f_Md_shift_L150 (p3 : Int32) (p4 : Int32) (p5 : Int32) (k185 : vS → Option (Int32 × vS)) (n : Nat) : Int32 → vS → Option (Int32 × vS) := Nat.rec (motive := fun _ => Int32 → vS → Option (Int32 × vS)) (fun _ _ => none) (fun _ again => f_Md_shift_L150b p3 p4 p5 k185 again) n
noncomputable def f_Md_shift (b : Int32) (c : Int32) (d : Int32) (e : Int32) (f : Int32) (s : vS) : Option (Int32 × vS) := (v_bi (f_Md_isShelf b s) (fun r1 s1 => (if r1.toInt = 0 then (some ((-1), s1)) else (v_bi (f_Md_isShelf d s1) (fun r3 s3 => (if r3.toInt = 0 then (some ((-1), s3)) else (if v_in b 6 then (if (s3.1 181 (Int32.toNatClampNeg b)).toInt = (-1) then (some ((-11), s3)) else (if v_in d 6 then (if (s3.1 181 (Int32.toNatClampNeg d)).toInt = (-1) then (some ((-11), s3)) else (if v_in b 6 then (if 0 ≤ (s3.1 181 (Int32.toNatClampNeg b)).toInt then (some ((-12), s3)) else (if v_in b 6 then (if v_in d 6 then (if (s3.1 181 (Int32.toNatClampNeg b)).toInt = (s3.1 181 (Int32.toNatClampNeg d)).toInt then (if f.toInt < 0 then (some ((-13), s3)) else (if c.toInt < 0 then (some ((-13), s3)) else (if e.toInt < 0 then (some ((-13), s3)) else (if v_in b 6 then (if ((s3.1 182 (Int32.toNatClampNeg b)) - f).toInt < c.toInt then (some ((-13), s3)) else (if v_in d 6 then (if e.toInt ≤ ((s3.1 182 (Int32.toNatClampNeg d)) - f).toInt then (f_Md_shift_L113 b c d e f (fun s21 => (f_Md_shift_L150 d e f (fun s22 => (some (f, s22))) 4096 0 s21)) 4096 0 s3) else (some ((-13), s3))) else none)) else none)))) else (some ((-12), s3))) else none) else none)) else none)) else none)) else none)))))))
set_option maxRecDepth 20000 in
set_option maxHeartbeats 4000000 in
theorem t_Md_shift_L113 {L : Nat} {xs : Nat → Int32} {p1 : Int32} {p2 : Int32} {p3 : Int32} {p4 : Int32} {p5 : Int32} {k147 : vS → Option (Int32 × vS)} {D : Nat} (hD : 2 ≤ D) {r : Int32} {s' : vS} (hk147 : ∀ (s : vS), k147 s = some (r, s') → s_Ek (s_rows 3 L xs) D s_e287.1 147 [(0, .ref 151), (3, .int p3), (4, .int p4), (5, .int p5)] [] (v_mk s) (v_Q (some (.int r)) s')) : ∀ (n : Nat) (v6 : Int32) (s : vS), f_Md_shift_L113 p1 p2 p3 p4 p5 k147 n v6 s = some (r, s') → s_Ek (s_rows 3 L xs) D s_e287.1 113 [(0, .ref 151), (1, .int p1), (2, .int p2), (3, .int p3), (4, .int p4), (5, .int p5), (6, .int v6)] [] (v_mk s) (v_Q (some (.int r)) s') := by
  intro n
  induction n with
  | zero => intro v6 s h; exact nomatch (show (none : Option (Int32 × vS)) = some (r, s') from h)
  | succ n ih =>
    intro v6 s h
    replace h : f_Md_shift_L113b p1 p2 p3 p4 p5 k147 (f_Md_shift_L113 p1 p2 p3 p4 p5 k147 n) v6 s = some (r, s') := h
    unfold f_Md_shift_L113b at h
    refine s_ek_bk 2 (P := 117) (ls' := [(0, .ref 151), (1, .int p1), (2, .int p2), (3, .int p3), (4, .int p4), (5, .int p5), (6, .int v6)]) (st' := [.int p5, .int v6]) (M' := v_mk s) rfl ?_
    rcases v_if h with ⟨c121, h⟩ | ⟨c121, h⟩
    · refine v_i2t (T := 147) rfl rfl c121 ?_
      refine v_ls (ls' := [(0, .ref 151), (3, .int p3), (4, .int p4), (5, .int p5)]) ⟨rfl, rfl, rfl, rfl, trivial⟩ (show ([0, 3, 4, 5] : List Nat).Nodup from by decide) ?_
      exact hk147 _ h
    · refine v_i2f (T := 147) rfl rfl c121 ?_
      refine s_ek_bk 1 (P := 121) (ls' := [(0, .ref 151), (1, .int p1), (2, .int p2), (3, .int p3), (4, .int p4), (5, .int p5), (6, .int v6)]) (st' := [.ref 151]) (M' := v_mk s) rfl ?_
      refine v_gf rfl (v_gr (rfl : v_kd 151 = 11) (rfl : v_sl 151 49 = .ref 184) ⟨rfl, rfl, by decide⟩) ?_
      refine s_ek_bk 2 (P := 127) (ls' := [(0, .ref 151), (1, .int p1), (2, .int p2), (3, .int p3), (4, .int p4), (5, .int p5), (6, .int v6)]) (st' := [.ref 151, .int v6, .ref 184]) (M' := v_mk s) rfl ?_
      refine v_gf rfl (v_gr (rfl : v_kd 151 = 11) (rfl : v_sl 151 48 = .ref 183) ⟨rfl, rfl, by decide⟩) ?_
      refine s_ek_bk 7 (P := 139) (ls' := [(0, .ref 151), (1, .int p1), (2, .int p2), (3, .int p3), (4, .int p4), (5, .int p5), (6, .int v6)]) (st' := [.int ((((60 : Int32) * p1) + p2) + v6), .ref 183, .int v6, .ref 184]) (M' := v_mk s) rfl ?_
      obtain ⟨c122, h⟩ := v_ck h
      refine v_la (i := ((((60 : Int32) * p1) + p2) + v6)) rfl (v_al (rfl : v_kd 183 = 14) rfl (by decide) v_all14 (v_cn (rfl : v_ln 183 = 360) c122)) ?_
      obtain ⟨c123, h⟩ := v_ck h
      obtain ⟨s124, es124, h⟩ := v_ld h
      refine v_lst (M' := v_mk s124) (i := v6) rfl (by rw [es124]; exact v_pal (rfl : v_kd 184 = 14) rfl (by decide) v_all14 (v_cn (rfl : v_ln 184 = 60) c123)) ?_
      refine s_ek_bk 2 (P := 113) (ls' := [(6, .int (v6 + 1)), (0, .ref 151), (1, .int p1), (2, .int p2), (3, .int p3), (4, .int p4), (5, .int p5)]) (st' := []) (M' := v_mk s124) rfl ?_
      refine v_ls (ls' := [(0, .ref 151), (1, .int p1), (2, .int p2), (3, .int p3), (4, .int p4), (5, .int p5), (6, .int (v6 + 1))]) ⟨rfl, rfl, rfl, rfl, rfl, rfl, rfl, trivial⟩ (show ([0, 1, 2, 3, 4, 5, 6] : List Nat).Nodup from by decide) ?_
      exact ih _ _ h
set_option maxRecDepth 20000 in
set_option maxHeartbeats 4000000 in
theorem t_Md_shift_L150 {L : Nat} {xs : Nat → Int32} {p3 : Int32} {p4 : Int32} {p5 : Int32} {k185 : vS → Option (Int32 × vS)} {D : Nat} (hD : 2 ≤ D) {r : Int32} {s' : vS} (hk185 : ∀ (s : vS), k185 s = some (r, s') → s_Ek (s_rows 3 L xs) D s_e287.1 185 [(5, .int p5)] [] (v_mk s) (v_Q (some (.int r)) s')) : ∀ (n : Nat) (v6 : Int32) (s : vS), f_Md_shift_L150 p3 p4 p5 k185 n v6 s = some (r, s') → s_Ek (s_rows 3 L xs) D s_e287.1 150 [(0, .ref 151), (3, .int p3), (4, .int p4), (5, .int p5), (6, .int v6)] [] (v_mk s) (v_Q (some (.int r)) s') := by
  intro n
  induction n with
  | zero => intro v6 s h; exact nomatch (show (none : Option (Int32 × vS)) = some (r, s') from h)
  | succ n ih =>
    intro v6 s h
    replace h : f_Md_shift_L150b p3 p4 p5 k185 (f_Md_shift_L150 p3 p4 p5 k185 n) v6 s = some (r, s') := h
    unfold f_Md_shift_L150b at h
    refine s_ek_bk 2 (P := 154) (ls' := [(0, .ref 151), (3, .int p3), (4, .int p4), (5, .int p5), (6, .int v6)]) (st' := [.int p5, .int v6]) (M' := v_mk s) rfl ?_
    rcases v_if h with ⟨c222, h⟩ | ⟨c222, h⟩
    · refine v_i2t (T := 185) rfl rfl c222 ?_
      refine v_ls (ls' := [(5, .int p5)]) ⟨rfl, trivial⟩ (show ([5] : List Nat).Nodup from by decide) ?_
      exact hk185 _ h
    · refine v_i2f (T := 185) rfl rfl c222 ?_
      refine s_ek_bk 1 (P := 158) (ls' := [(0, .ref 151), (3, .int p3), (4, .int p4), (5, .int p5), (6, .int v6)]) (st' := [.ref 151]) (M' := v_mk s) rfl ?_
      refine v_gf rfl (v_gr (rfl : v_kd 151 = 11) (rfl : v_sl 151 48 = .ref 183) ⟨rfl, rfl, by decide⟩) ?_
      refine s_ek_bk 8 (P := 172) (ls' := [(0, .ref 151), (3, .int p3), (4, .int p4), (5, .int p5), (6, .int v6)]) (st' := [.ref 151, .int ((((60 : Int32) * p3) + p4) + v6), .ref 183]) (M' := v_mk s) rfl ?_
      refine v_gf rfl (v_gr (rfl : v_kd 151 = 11) (rfl : v_sl 151 49 = .ref 184) ⟨rfl, rfl, by decide⟩) ?_
      refine s_ek_bk 1 (P := 177) (ls' := [(0, .ref 151), (3, .int p3), (4, .int p4), (5, .int p5), (6, .int v6)]) (st' := [.int v6, .ref 184, .int ((((60 : Int32) * p3) + p4) + v6), .ref 183]) (M' := v_mk s) rfl ?_
      obtain ⟨c223, h⟩ := v_ck h
      refine v_la (i := v6) rfl (v_al (rfl : v_kd 184 = 14) rfl (by decide) v_all14 (v_cn (rfl : v_ln 184 = 60) c223)) ?_
      obtain ⟨c224, h⟩ := v_ck h
      obtain ⟨s225, es225, h⟩ := v_ld h
      refine v_lst (M' := v_mk s225) (i := ((((60 : Int32) * p3) + p4) + v6)) rfl (by rw [es225]; exact v_pal (rfl : v_kd 183 = 14) rfl (by decide) v_all14 (v_cn (rfl : v_ln 183 = 360) c224)) ?_
      refine s_ek_bk 2 (P := 150) (ls' := [(6, .int (v6 + 1)), (0, .ref 151), (3, .int p3), (4, .int p4), (5, .int p5)]) (st' := []) (M' := v_mk s225) rfl ?_
      refine v_ls (ls' := [(0, .ref 151), (3, .int p3), (4, .int p4), (5, .int p5), (6, .int (v6 + 1))]) ⟨rfl, rfl, rfl, rfl, rfl, trivial⟩ (show ([0, 3, 4, 5, 6] : List Nat).Nodup from by decide) ?_
      exact ih _ _ h
set_option maxRecDepth 20000 in
set_option maxHeartbeats 4000000 in
theorem t_Md_shift {L : Nat} {xs : Nat → Int32} {b : Int32} {c : Int32} {d : Int32} {e : Int32} {f : Int32} {D : Nat} {r : Int32} {s s' : vS} (h : f_Md_shift b c d e f s = some (r, s')) (hD : 2 ≤ D) : s_Ek (s_rows 3 L xs) D s_e287.1 0 (lv_args 0 [.ref 151, .int b, .int c, .int d, .int e, .int f]) [] (v_mk s) (v_Q (some (.int r)) s') := by
  unfold f_Md_shift at h
  show s_Ek (s_rows 3 L xs) D s_e287.1 0 [(0, .ref 151), (1, .int b), (2, .int c), (3, .int d), (4, .int e), (5, .int f)] [] (v_mk s) _
  refine s_ek_bk 1 (P := 1) (ls' := [(0, .ref 151), (1, .int b), (2, .int c), (3, .int d), (4, .int e), (5, .int f)]) (st' := [.int b]) (M' := v_mk s) rfl ?_
  obtain ⟨r1, s1, e1, h⟩ := v_bd h
  refine v_cS (ν := s_e281.1) (w := 2249) (as := [.int b]) (r := []) (o := some (.int r1)) (by omega) rfl rfl rfl rfl (t_Md_isShelf e1 (by omega)) ?_
  show s_Ek (s_rows 3 L xs) D s_e287.1 4 [(0, .ref 151), (1, .int b), (2, .int c), (3, .int d), (4, .int e), (5, .int f)] [.int r1] (v_mk s1) _
  rcases v_if h with ⟨c2, h⟩ | ⟨c2, h⟩
  · refine v_i1t (T := 14) rfl rfl c2 ?_
    refine s_ek_bk 1 (P := 15) (ls' := [(0, .ref 151), (1, .int b), (2, .int c), (3, .int d), (4, .int e), (5, .int f)]) (st' := [.int (-1)]) (M' := v_mk s1) rfl ?_
    obtain ⟨rfl, rfl⟩ := v_so h
    exact v_ret (fun _ => rfl)
  · refine v_i1f (T := 14) rfl rfl c2 ?_
    refine s_ek_bk 1 (P := 8) (ls' := [(0, .ref 151), (1, .int b), (2, .int c), (3, .int d), (4, .int e), (5, .int f)]) (st' := [.int d]) (M' := v_mk s1) rfl ?_
    obtain ⟨r3, s3, e3, h⟩ := v_bd h
    refine v_cS (ν := s_e281.1) (w := 2249) (as := [.int d]) (r := []) (o := some (.int r3)) (by omega) rfl rfl rfl rfl (t_Md_isShelf e3 (by omega)) ?_
    show s_Ek (s_rows 3 L xs) D s_e287.1 11 [(0, .ref 151), (1, .int b), (2, .int c), (3, .int d), (4, .int e), (5, .int f)] [.int r3] (v_mk s3) _
    rcases v_if h with ⟨c4, h⟩ | ⟨c4, h⟩
    · refine v_i1f (T := 16) rfl rfl (fun q => q c4) ?_
      refine s_ek_bk 1 (P := 15) (ls' := [(0, .ref 151), (1, .int b), (2, .int c), (3, .int d), (4, .int e), (5, .int f)]) (st' := [.int (-1)]) (M' := v_mk s3) rfl ?_
      obtain ⟨rfl, rfl⟩ := v_so h
      exact v_ret (fun _ => rfl)
    · refine v_i1t (T := 16) rfl rfl c4 ?_
      refine s_ek_bk 1 (P := 17) (ls' := [(0, .ref 151), (1, .int b), (2, .int c), (3, .int d), (4, .int e), (5, .int f)]) (st' := [.ref 151]) (M' := v_mk s3) rfl ?_
      refine v_gf rfl (v_gr (rfl : v_kd 151 = 11) (rfl : v_sl 151 46 = .ref 181) ⟨rfl, rfl, by decide⟩) ?_
      refine s_ek_bk 1 (P := 21) (ls' := [(0, .ref 151), (1, .int b), (2, .int c), (3, .int d), (4, .int e), (5, .int f)]) (st' := [.int b, .ref 181]) (M' := v_mk s3) rfl ?_
      obtain ⟨c5, h⟩ := v_ck h
      refine v_ia (i := b) rfl (v_ai (rfl : v_kd 181 = 13) rfl (by decide) v_all13 (v_cn (rfl : v_ln 181 = 6) c5)) ?_
      refine s_ek_bk 1 (P := 23) (ls' := [(0, .ref 151), (1, .int b), (2, .int c), (3, .int d), (4, .int e), (5, .int f)]) (st' := [.int (-1), .int (s3.1 181 (Int32.toNatClampNeg b))]) (M' := v_mk s3) rfl ?_
      rcases v_if h with ⟨c6, h⟩ | ⟨c6, h⟩
      · refine v_i2t (T := 36) rfl rfl c6 ?_
        refine s_ek_bk 1 (P := 38) (ls' := [(0, .ref 151), (1, .int b), (2, .int c), (3, .int d), (4, .int e), (5, .int f)]) (st' := [.int (-11)]) (M' := v_mk s3) rfl ?_
        obtain ⟨rfl, rfl⟩ := v_so h
        exact v_ret (fun _ => rfl)
      · refine v_i2f (T := 36) rfl rfl c6 ?_
        refine s_ek_bk 1 (P := 27) (ls' := [(0, .ref 151), (1, .int b), (2, .int c), (3, .int d), (4, .int e), (5, .int f)]) (st' := [.ref 151]) (M' := v_mk s3) rfl ?_
        refine v_gf rfl (v_gr (rfl : v_kd 151 = 11) (rfl : v_sl 151 46 = .ref 181) ⟨rfl, rfl, by decide⟩) ?_
        refine s_ek_bk 1 (P := 31) (ls' := [(0, .ref 151), (1, .int b), (2, .int c), (3, .int d), (4, .int e), (5, .int f)]) (st' := [.int d, .ref 181]) (M' := v_mk s3) rfl ?_
        obtain ⟨c7, h⟩ := v_ck h
        refine v_ia (i := d) rfl (v_ai (rfl : v_kd 181 = 13) rfl (by decide) v_all13 (v_cn (rfl : v_ln 181 = 6) c7)) ?_
        refine s_ek_bk 1 (P := 33) (ls' := [(0, .ref 151), (1, .int b), (2, .int c), (3, .int d), (4, .int e), (5, .int f)]) (st' := [.int (-1), .int (s3.1 181 (Int32.toNatClampNeg d))]) (M' := v_mk s3) rfl ?_
        rcases v_if h with ⟨c8, h⟩ | ⟨c8, h⟩
        · refine v_i2f (T := 39) rfl rfl (fun q => q c8) ?_
          refine s_ek_bk 1 (P := 38) (ls' := [(0, .ref 151), (1, .int b), (2, .int c), (3, .int d), (4, .int e), (5, .int f)]) (st' := [.int (-11)]) (M' := v_mk s3) rfl ?_
          obtain ⟨rfl, rfl⟩ := v_so h
          exact v_ret (fun _ => rfl)
        · refine v_i2t (T := 39) rfl rfl c8 ?_
          refine s_ek_bk 1 (P := 40) (ls' := [(0, .ref 151), (1, .int b), (2, .int c), (3, .int d), (4, .int e), (5, .int f)]) (st' := [.ref 151]) (M' := v_mk s3) rfl ?_
          refine v_gf rfl (v_gr (rfl : v_kd 151 = 11) (rfl : v_sl 151 46 = .ref 181) ⟨rfl, rfl, by decide⟩) ?_
          refine s_ek_bk 1 (P := 44) (ls' := [(0, .ref 151), (1, .int b), (2, .int c), (3, .int d), (4, .int e), (5, .int f)]) (st' := [.int b, .ref 181]) (M' := v_mk s3) rfl ?_
          obtain ⟨c9, h⟩ := v_ck h
          refine v_ia (i := b) rfl (v_ai (rfl : v_kd 181 = 13) rfl (by decide) v_all13 (v_cn (rfl : v_ln 181 = 6) c9)) ?_
          rcases v_if h with ⟨c10, h⟩ | ⟨c10, h⟩
          · refine v_i1t (T := 63) rfl rfl c10 ?_
            refine s_ek_bk 1 (P := 65) (ls' := [(0, .ref 151), (1, .int b), (2, .int c), (3, .int d), (4, .int e), (5, .int f)]) (st' := [.int (-12)]) (M' := v_mk s3) rfl ?_
            obtain ⟨rfl, rfl⟩ := v_so h
            exact v_ret (fun _ => rfl)
          · refine v_i1f (T := 63) rfl rfl c10 ?_
            refine s_ek_bk 1 (P := 49) (ls' := [(0, .ref 151), (1, .int b), (2, .int c), (3, .int d), (4, .int e), (5, .int f)]) (st' := [.ref 151]) (M' := v_mk s3) rfl ?_
            refine v_gf rfl (v_gr (rfl : v_kd 151 = 11) (rfl : v_sl 151 46 = .ref 181) ⟨rfl, rfl, by decide⟩) ?_
            refine s_ek_bk 1 (P := 53) (ls' := [(0, .ref 151), (1, .int b), (2, .int c), (3, .int d), (4, .int e), (5, .int f)]) (st' := [.int b, .ref 181]) (M' := v_mk s3) rfl ?_
            obtain ⟨c11, h⟩ := v_ck h
            refine v_ia (i := b) rfl (v_ai (rfl : v_kd 181 = 13) rfl (by decide) v_all13 (v_cn (rfl : v_ln 181 = 6) c11)) ?_
            refine s_ek_bk 1 (P := 55) (ls' := [(0, .ref 151), (1, .int b), (2, .int c), (3, .int d), (4, .int e), (5, .int f)]) (st' := [.ref 151, .int (s3.1 181 (Int32.toNatClampNeg b))]) (M' := v_mk s3) rfl ?_
            refine v_gf rfl (v_gr (rfl : v_kd 151 = 11) (rfl : v_sl 151 46 = .ref 181) ⟨rfl, rfl, by decide⟩) ?_
            refine s_ek_bk 1 (P := 59) (ls' := [(0, .ref 151), (1, .int b), (2, .int c), (3, .int d), (4, .int e), (5, .int f)]) (st' := [.int d, .ref 181, .int (s3.1 181 (Int32.toNatClampNeg b))]) (M' := v_mk s3) rfl ?_
            obtain ⟨c12, h⟩ := v_ck h
            refine v_ia (i := d) rfl (v_ai (rfl : v_kd 181 = 13) rfl (by decide) v_all13 (v_cn (rfl : v_ln 181 = 6) c12)) ?_
            rcases v_if h with ⟨c13, h⟩ | ⟨c13, h⟩
            · refine v_i2t (T := 66) rfl rfl c13 ?_
              refine s_ek_bk 1 (P := 68) (ls' := [(0, .ref 151), (1, .int b), (2, .int c), (3, .int d), (4, .int e), (5, .int f)]) (st' := [.int f]) (M' := v_mk s3) rfl ?_
              rcases v_if h with ⟨c14, h⟩ | ⟨c14, h⟩
              · refine v_i1t (T := 107) rfl rfl c14 ?_
                refine s_ek_bk 1 (P := 109) (ls' := [(0, .ref 151), (1, .int b), (2, .int c), (3, .int d), (4, .int e), (5, .int f)]) (st' := [.int (-13)]) (M' := v_mk s3) rfl ?_
                obtain ⟨rfl, rfl⟩ := v_so h
                exact v_ret (fun _ => rfl)
              · refine v_i1f (T := 107) rfl rfl c14 ?_
                refine s_ek_bk 1 (P := 72) (ls' := [(0, .ref 151), (1, .int b), (2, .int c), (3, .int d), (4, .int e), (5, .int f)]) (st' := [.int c]) (M' := v_mk s3) rfl ?_
                rcases v_if h with ⟨c15, h⟩ | ⟨c15, h⟩
                · refine v_i1t (T := 107) rfl rfl c15 ?_
                  refine s_ek_bk 1 (P := 109) (ls' := [(0, .ref 151), (1, .int b), (2, .int c), (3, .int d), (4, .int e), (5, .int f)]) (st' := [.int (-13)]) (M' := v_mk s3) rfl ?_
                  obtain ⟨rfl, rfl⟩ := v_so h
                  exact v_ret (fun _ => rfl)
                · refine v_i1f (T := 107) rfl rfl c15 ?_
                  refine s_ek_bk 1 (P := 77) (ls' := [(0, .ref 151), (1, .int b), (2, .int c), (3, .int d), (4, .int e), (5, .int f)]) (st' := [.int e]) (M' := v_mk s3) rfl ?_
                  rcases v_if h with ⟨c16, h⟩ | ⟨c16, h⟩
                  · refine v_i1t (T := 107) rfl rfl c16 ?_
                    refine s_ek_bk 1 (P := 109) (ls' := [(0, .ref 151), (1, .int b), (2, .int c), (3, .int d), (4, .int e), (5, .int f)]) (st' := [.int (-13)]) (M' := v_mk s3) rfl ?_
                    obtain ⟨rfl, rfl⟩ := v_so h
                    exact v_ret (fun _ => rfl)
                  · refine v_i1f (T := 107) rfl rfl c16 ?_
                    refine s_ek_bk 2 (P := 82) (ls' := [(0, .ref 151), (1, .int b), (2, .int c), (3, .int d), (4, .int e), (5, .int f)]) (st' := [.ref 151, .int c]) (M' := v_mk s3) rfl ?_
                    refine v_gf rfl (v_gr (rfl : v_kd 151 = 11) (rfl : v_sl 151 47 = .ref 182) ⟨rfl, rfl, by decide⟩) ?_
                    refine s_ek_bk 1 (P := 86) (ls' := [(0, .ref 151), (1, .int b), (2, .int c), (3, .int d), (4, .int e), (5, .int f)]) (st' := [.int b, .ref 182, .int c]) (M' := v_mk s3) rfl ?_
                    obtain ⟨c17, h⟩ := v_ck h
                    refine v_ia (i := b) rfl (v_ai (rfl : v_kd 182 = 13) rfl (by decide) v_all13 (v_cn (rfl : v_ln 182 = 6) c17)) ?_
                    refine s_ek_bk 2 (P := 90) (ls' := [(0, .ref 151), (1, .int b), (2, .int c), (3, .int d), (4, .int e), (5, .int f)]) (st' := [.int ((s3.1 182 (Int32.toNatClampNeg b)) - f), .int c]) (M' := v_mk s3) rfl ?_
                    rcases v_if h with ⟨c18, h⟩ | ⟨c18, h⟩
                    · refine v_i2t (T := 107) rfl rfl c18 ?_
                      refine s_ek_bk 1 (P := 109) (ls' := [(0, .ref 151), (1, .int b), (2, .int c), (3, .int d), (4, .int e), (5, .int f)]) (st' := [.int (-13)]) (M' := v_mk s3) rfl ?_
                      obtain ⟨rfl, rfl⟩ := v_so h
                      exact v_ret (fun _ => rfl)
                    · refine v_i2f (T := 107) rfl rfl c18 ?_
                      refine s_ek_bk 2 (P := 96) (ls' := [(0, .ref 151), (1, .int b), (2, .int c), (3, .int d), (4, .int e), (5, .int f)]) (st' := [.ref 151, .int e]) (M' := v_mk s3) rfl ?_
                      refine v_gf rfl (v_gr (rfl : v_kd 151 = 11) (rfl : v_sl 151 47 = .ref 182) ⟨rfl, rfl, by decide⟩) ?_
                      refine s_ek_bk 1 (P := 100) (ls' := [(0, .ref 151), (1, .int b), (2, .int c), (3, .int d), (4, .int e), (5, .int f)]) (st' := [.int d, .ref 182, .int e]) (M' := v_mk s3) rfl ?_
                      obtain ⟨c19, h⟩ := v_ck h
                      refine v_ia (i := d) rfl (v_ai (rfl : v_kd 182 = 13) rfl (by decide) v_all13 (v_cn (rfl : v_ln 182 = 6) c19)) ?_
                      refine s_ek_bk 2 (P := 104) (ls' := [(0, .ref 151), (1, .int b), (2, .int c), (3, .int d), (4, .int e), (5, .int f)]) (st' := [.int ((s3.1 182 (Int32.toNatClampNeg d)) - f), .int e]) (M' := v_mk s3) rfl ?_
                      rcases v_if h with ⟨c20, h⟩ | ⟨c20, h⟩
                      · refine v_i2t (T := 110) rfl rfl c20 ?_
                        refine s_ek_bk 2 (P := 113) (ls' := [(6, .int 0), (0, .ref 151), (1, .int b), (2, .int c), (3, .int d), (4, .int e), (5, .int f)]) (st' := []) (M' := v_mk s3) rfl ?_
                        refine v_ls (ls' := [(0, .ref 151), (1, .int b), (2, .int c), (3, .int d), (4, .int e), (5, .int f), (6, .int 0)]) ⟨rfl, rfl, rfl, rfl, rfl, rfl, rfl, trivial⟩ (show ([0, 1, 2, 3, 4, 5, 6] : List Nat).Nodup from by decide) ?_
                        refine t_Md_shift_L113 (by omega) (fun s21 h => ?_) 4096 _ _ h
                        show s_Ek (s_rows 3 L xs) D s_e287.1 147 [(0, .ref 151), (3, .int d), (4, .int e), (5, .int f)] [] (v_mk s21) _
                        refine s_ek_bk 2 (P := 150) (ls' := [(6, .int 0), (0, .ref 151), (3, .int d), (4, .int e), (5, .int f)]) (st' := []) (M' := v_mk s21) rfl ?_
                        refine v_ls (ls' := [(0, .ref 151), (3, .int d), (4, .int e), (5, .int f), (6, .int 0)]) ⟨rfl, rfl, rfl, rfl, rfl, trivial⟩ (show ([0, 3, 4, 5, 6] : List Nat).Nodup from by decide) ?_
                        refine t_Md_shift_L150 (by omega) (fun s22 h => ?_) 4096 _ _ h
                        show s_Ek (s_rows 3 L xs) D s_e287.1 185 [(5, .int f)] [] (v_mk s22) _
                        refine s_ek_bk 1 (P := 187) (ls' := [(5, .int f)]) (st' := [.int f]) (M' := v_mk s22) rfl ?_
                        obtain ⟨rfl, rfl⟩ := v_so h
                        exact v_ret (fun _ => rfl)
                      · refine v_i2f (T := 110) rfl rfl c20 ?_
                        refine s_ek_bk 1 (P := 109) (ls' := [(0, .ref 151), (1, .int b), (2, .int c), (3, .int d), (4, .int e), (5, .int f)]) (st' := [.int (-13)]) (M' := v_mk s3) rfl ?_
                        obtain ⟨rfl, rfl⟩ := v_so h
                        exact v_ret (fun _ => rfl)
            · refine v_i2f (T := 66) rfl rfl c13 ?_
              refine s_ek_bk 1 (P := 65) (ls' := [(0, .ref 151), (1, .int b), (2, .int c), (3, .int d), (4, .int e), (5, .int f)]) (st' := [.int (-12)]) (M' := v_mk s3) rfl ?_
              obtain ⟨rfl, rfl⟩ := v_so h
              exact v_ret (fun _ => rfl)
noncomputable def f_Md_taken (b : Int32) (c : Int32) (s : vS) : Option (Int32 × vS) := (v_bi (f_Md_isShelf b s) (fun r1 s1 => (if r1.toInt = 0 then (some ((-1), s1)) else (v_bi (f_Md_in c 0 7 s1) (fun r3 s3 => (if r3.toInt = 0 then (some ((-1), s3)) else (if v_in b 6 then (if (s3.1 181 (Int32.toNatClampNeg b)).toInt = (-1) then (some ((-11), s3)) else (if v_in b 6 then (if (s3.1 181 (Int32.toNatClampNeg b)).toInt < 0 then (some ((-12), s3)) else (if v_in b 6 then (if v_in (s3.1 181 (Int32.toNatClampNeg b)) 50 then (v_bi (f_Md_isUnder (s3.1 179 (Int32.toNatClampNeg (s3.1 181 (Int32.toNatClampNeg b)))) c s3) (fun r11 s11 => (if r11.toInt = 0 then (some ((-12), s11)) else (if v_in b 6 then (if v_in (s11.1 181 (Int32.toNatClampNeg b)) 50 then (some ((s11.1 179 (Int32.toNatClampNeg (s11.1 181 (Int32.toNatClampNeg b)))), s11)) else none) else none)))) else none) else none)) else none)) else none)))))))
set_option maxRecDepth 20000 in
set_option maxHeartbeats 4000000 in
theorem t_Md_taken {L : Nat} {xs : Nat → Int32} {b : Int32} {c : Int32} {D : Nat} {r : Int32} {s s' : vS} (h : f_Md_taken b c s = some (r, s')) (hD : 2 ≤ D) : s_Ek (s_rows 3 L xs) D s_e288.1 0 (lv_args 0 [.ref 151, .int b, .int c]) [] (v_mk s) (v_Q (some (.int r)) s') := by
  unfold f_Md_taken at h
  show s_Ek (s_rows 3 L xs) D s_e288.1 0 [(0, .ref 151), (1, .int b), (2, .int c)] [] (v_mk s) _
  refine s_ek_bk 1 (P := 1) (ls' := [(0, .ref 151), (1, .int b), (2, .int c)]) (st' := [.int b]) (M' := v_mk s) rfl ?_
  obtain ⟨r1, s1, e1, h⟩ := v_bd h
  refine v_cS (ν := s_e281.1) (w := 2249) (as := [.int b]) (r := []) (o := some (.int r1)) (by omega) rfl rfl rfl rfl (t_Md_isShelf e1 (by omega)) ?_
  show s_Ek (s_rows 3 L xs) D s_e288.1 4 [(0, .ref 151), (1, .int b), (2, .int c)] [.int r1] (v_mk s1) _
  rcases v_if h with ⟨c2, h⟩ | ⟨c2, h⟩
  · refine v_i1t (T := 17) rfl rfl c2 ?_
    refine s_ek_bk 1 (P := 18) (ls' := [(0, .ref 151), (1, .int b), (2, .int c)]) (st' := [.int (-1)]) (M' := v_mk s1) rfl ?_
    obtain ⟨rfl, rfl⟩ := v_so h
    exact v_ret (fun _ => rfl)
  · refine v_i1f (T := 17) rfl rfl c2 ?_
    refine s_ek_bk 3 (P := 11) (ls' := [(0, .ref 151), (1, .int b), (2, .int c)]) (st' := [.int 7, .int 0, .int c]) (M' := v_mk s1) rfl ?_
    obtain ⟨r3, s3, e3, h⟩ := v_bd h
    refine v_cS (ν := s_e181.1) (w := 1451) (as := [.int c, .int 0, .int 7]) (r := []) (o := some (.int r3)) (by omega) rfl rfl rfl rfl (t_Md_in e3 (by omega)) ?_
    show s_Ek (s_rows 3 L xs) D s_e288.1 14 [(0, .ref 151), (1, .int b), (2, .int c)] [.int r3] (v_mk s3) _
    rcases v_if h with ⟨c4, h⟩ | ⟨c4, h⟩
    · refine v_i1f (T := 19) rfl rfl (fun q => q c4) ?_
      refine s_ek_bk 1 (P := 18) (ls' := [(0, .ref 151), (1, .int b), (2, .int c)]) (st' := [.int (-1)]) (M' := v_mk s3) rfl ?_
      obtain ⟨rfl, rfl⟩ := v_so h
      exact v_ret (fun _ => rfl)
    · refine v_i1t (T := 19) rfl rfl c4 ?_
      refine s_ek_bk 1 (P := 20) (ls' := [(0, .ref 151), (1, .int b), (2, .int c)]) (st' := [.ref 151]) (M' := v_mk s3) rfl ?_
      refine v_gf rfl (v_gr (rfl : v_kd 151 = 11) (rfl : v_sl 151 46 = .ref 181) ⟨rfl, rfl, by decide⟩) ?_
      refine s_ek_bk 1 (P := 24) (ls' := [(0, .ref 151), (1, .int b), (2, .int c)]) (st' := [.int b, .ref 181]) (M' := v_mk s3) rfl ?_
      obtain ⟨c5, h⟩ := v_ck h
      refine v_ia (i := b) rfl (v_ai (rfl : v_kd 181 = 13) rfl (by decide) v_all13 (v_cn (rfl : v_ln 181 = 6) c5)) ?_
      refine s_ek_bk 1 (P := 26) (ls' := [(0, .ref 151), (1, .int b), (2, .int c)]) (st' := [.int (-1), .int (s3.1 181 (Int32.toNatClampNeg b))]) (M' := v_mk s3) rfl ?_
      rcases v_if h with ⟨c6, h⟩ | ⟨c6, h⟩
      · refine v_i2f (T := 32) rfl rfl (fun q => q c6) ?_
        refine s_ek_bk 1 (P := 31) (ls' := [(0, .ref 151), (1, .int b), (2, .int c)]) (st' := [.int (-11)]) (M' := v_mk s3) rfl ?_
        obtain ⟨rfl, rfl⟩ := v_so h
        exact v_ret (fun _ => rfl)
      · refine v_i2t (T := 32) rfl rfl c6 ?_
        refine s_ek_bk 1 (P := 33) (ls' := [(0, .ref 151), (1, .int b), (2, .int c)]) (st' := [.ref 151]) (M' := v_mk s3) rfl ?_
        refine v_gf rfl (v_gr (rfl : v_kd 151 = 11) (rfl : v_sl 151 46 = .ref 181) ⟨rfl, rfl, by decide⟩) ?_
        refine s_ek_bk 1 (P := 37) (ls' := [(0, .ref 151), (1, .int b), (2, .int c)]) (st' := [.int b, .ref 181]) (M' := v_mk s3) rfl ?_
        obtain ⟨c7, h⟩ := v_ck h
        refine v_ia (i := b) rfl (v_ai (rfl : v_kd 181 = 13) rfl (by decide) v_all13 (v_cn (rfl : v_ln 181 = 6) c7)) ?_
        rcases v_if h with ⟨c8, h⟩ | ⟨c8, h⟩
        · refine v_i1t (T := 73) rfl rfl c8 ?_
          refine s_ek_bk 1 (P := 75) (ls' := [(0, .ref 151), (1, .int b), (2, .int c)]) (st' := [.int (-12)]) (M' := v_mk s3) rfl ?_
          obtain ⟨rfl, rfl⟩ := v_so h
          exact v_ret (fun _ => rfl)
        · refine v_i1f (T := 73) rfl rfl c8 ?_
          refine s_ek_bk 1 (P := 42) (ls' := [(0, .ref 151), (1, .int b), (2, .int c)]) (st' := [.ref 151]) (M' := v_mk s3) rfl ?_
          refine v_gf rfl (v_gr (rfl : v_kd 151 = 11) (rfl : v_sl 151 43 = .ref 179) ⟨rfl, rfl, by decide⟩) ?_
          refine s_ek_bk 1 (P := 46) (ls' := [(0, .ref 151), (1, .int b), (2, .int c)]) (st' := [.ref 151, .ref 179]) (M' := v_mk s3) rfl ?_
          refine v_gf rfl (v_gr (rfl : v_kd 151 = 11) (rfl : v_sl 151 46 = .ref 181) ⟨rfl, rfl, by decide⟩) ?_
          refine s_ek_bk 1 (P := 50) (ls' := [(0, .ref 151), (1, .int b), (2, .int c)]) (st' := [.int b, .ref 181, .ref 179]) (M' := v_mk s3) rfl ?_
          obtain ⟨c9, h⟩ := v_ck h
          refine v_ia (i := b) rfl (v_ai (rfl : v_kd 181 = 13) rfl (by decide) v_all13 (v_cn (rfl : v_ln 181 = 6) c9)) ?_
          obtain ⟨c10, h⟩ := v_ck h
          refine v_ia (i := (s3.1 181 (Int32.toNatClampNeg b))) rfl (v_ai (rfl : v_kd 179 = 13) rfl (by decide) v_all13 (v_cn (rfl : v_ln 179 = 50) c10)) ?_
          refine s_ek_bk 1 (P := 53) (ls' := [(0, .ref 151), (1, .int b), (2, .int c)]) (st' := [.int c, .int (s3.1 179 (Int32.toNatClampNeg (s3.1 181 (Int32.toNatClampNeg b))))]) (M' := v_mk s3) rfl ?_
          obtain ⟨r11, s11, e11, h⟩ := v_bd h
          refine v_cS (ν := s_e266.1) (w := 2130) (as := [.int (s3.1 179 (Int32.toNatClampNeg (s3.1 181 (Int32.toNatClampNeg b)))), .int c]) (r := []) (o := some (.int r11)) (by omega) rfl rfl rfl rfl (t_Md_isUnder e11 (by omega)) ?_
          show s_Ek (s_rows 3 L xs) D s_e288.1 56 [(0, .ref 151), (1, .int b), (2, .int c)] [.int r11] (v_mk s11) _
          rcases v_if h with ⟨c12, h⟩ | ⟨c12, h⟩
          · refine v_i1t (T := 73) rfl rfl c12 ?_
            refine s_ek_bk 1 (P := 75) (ls' := [(0, .ref 151), (1, .int b), (2, .int c)]) (st' := [.int (-12)]) (M' := v_mk s11) rfl ?_
            obtain ⟨rfl, rfl⟩ := v_so h
            exact v_ret (fun _ => rfl)
          · refine v_i1f (T := 73) rfl rfl c12 ?_
            refine s_ek_bk 1 (P := 60) (ls' := [(0, .ref 151), (1, .int b), (2, .int c)]) (st' := [.ref 151]) (M' := v_mk s11) rfl ?_
            refine v_gf rfl (v_gr (rfl : v_kd 151 = 11) (rfl : v_sl 151 43 = .ref 179) ⟨rfl, rfl, by decide⟩) ?_
            refine s_ek_bk 1 (P := 64) (ls' := [(0, .ref 151), (1, .int b), (2, .int c)]) (st' := [.ref 151, .ref 179]) (M' := v_mk s11) rfl ?_
            refine v_gf rfl (v_gr (rfl : v_kd 151 = 11) (rfl : v_sl 151 46 = .ref 181) ⟨rfl, rfl, by decide⟩) ?_
            refine s_ek_bk 1 (P := 68) (ls' := [(0, .ref 151), (1, .int b), (2, .int c)]) (st' := [.int b, .ref 181, .ref 179]) (M' := v_mk s11) rfl ?_
            obtain ⟨c13, h⟩ := v_ck h
            refine v_ia (i := b) rfl (v_ai (rfl : v_kd 181 = 13) rfl (by decide) v_all13 (v_cn (rfl : v_ln 181 = 6) c13)) ?_
            obtain ⟨c14, h⟩ := v_ck h
            refine v_ia (i := (s11.1 181 (Int32.toNatClampNeg b))) rfl (v_ai (rfl : v_kd 179 = 13) rfl (by decide) v_all13 (v_cn (rfl : v_ln 179 = 50) c14)) ?_
            refine s_ek_bk 1 (P := 75) (ls' := [(0, .ref 151), (1, .int b), (2, .int c)]) (st' := [.int (s11.1 179 (Int32.toNatClampNeg (s11.1 181 (Int32.toNatClampNeg b))))]) (M' := v_mk s11) rfl ?_
            obtain ⟨rfl, rfl⟩ := v_so h
            exact v_ret (fun _ => rfl)
