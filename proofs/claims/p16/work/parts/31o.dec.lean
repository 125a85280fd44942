/-! functions over the store, and the runs that they stand for: Md_wrongIn Md_judge Md_never Md_clash Md_isSo Md_findWording Md_verdictWith Md_isRowSo Md_writes Md_write Md_canBe -/
noncomputable def f_Md_wrongIn_L2b (p1 : Int32) (k49 : Int32 → vS → Option (Int32 × vS)) (k57 : vS → Option (Int32 × vS)) (again : Int32 → vS → Option (Int32 × vS)) (v2 : Int32) (s : vS) : Option (Int32 × vS) := (if v_in p1 6 then (if (s.1 182 (Int32.toNatClampNeg p1)).toInt ≤ ((2 : Int32) * v2).toInt then (k57 s) else (v_bi (f_Md_isTwo p1 v2 s) (fun r103 s103 => (if r103.toInt = 0 then (k49 v2 s103) else (v_bi (f_Md_caseAt p1 v2 s103) (fun r105 s105 => (v_bi (f_Md_caseOf r105 s105) (fun r106 s106 => (v_bi (f_Md_verdictIn r106 (s106.1 151 18) s106) (fun r107 s107 => (v_bi (f_Md_dueAt p1 v2 s107) (fun r108 s108 => (if r107.toInt = r108.toInt then (again (v2 + 1) s108) else (k49 v2 s108)))))))))))))) else none)
noncomputable def f_Md_wrongIn_L2 (p1 : Int32) (k49 : Int32 → vS → Option (Int32 × vS)) (k57 : vS → Option (Int32 × vS)) (n : Nat) : Int32 → vS → Option (Int32 × vS) := Nat.rec (motive := fun _ => Int32 → vS → Option (Int32 × vS)) (fun _ _ => none) (fun _ again => f_Md_wrongIn_L2b p1 k49 k57 again) n
noncomputable def f_Md_wrongIn (b : Int32) (s : vS) : Option (Int32 × vS) := (f_Md_wrongIn_L2 b (fun w1 s2 => (some (w1, s2))) (fun s3 => (some ((-2), s3))) 4096 0 s)
set_option maxRecDepth 20000 in
set_option maxHeartbeats 4000000 in
theorem t_Md_wrongIn_L2 {L : Nat} {xs : Nat → Int32} {p1 : Int32} {k49 : Int32 → vS → Option (Int32 × vS)} {k57 : vS → Option (Int32 × vS)} {D : Nat} (hD : 5 ≤ D) {r : Int32} {s' : vS} (hk49 : ∀ (v2 : Int32) (s : vS), k49 v2 s = some (r, s') → s_Ek (s_rows 3 L xs) D s_e240.1 49 [(2, .int v2)] [] (v_mk s) (v_Q (some (.int r)) s')) (hk57 : ∀ (s : vS), k57 s = some (r, s') → s_Ek (s_rows 3 L xs) D s_e240.1 57 [] [] (v_mk s) (v_Q (some (.int r)) s')) : ∀ (n : Nat) (v2 : Int32) (s : vS), f_Md_wrongIn_L2 p1 k49 k57 n v2 s = some (r, s') → s_Ek (s_rows 3 L xs) D s_e240.1 2 [(0, .ref 151), (1, .int p1), (2, .int v2)] [] (v_mk s) (v_Q (some (.int r)) s') := by
  intro n
  induction n with
  | zero => intro v2 s h; exact nomatch (show (none : Option (Int32 × vS)) = some (r, s') from h)
  | succ n ih =>
    intro v2 s h
    replace h : f_Md_wrongIn_L2b p1 k49 k57 (f_Md_wrongIn_L2 p1 k49 k57 n) v2 s = some (r, s') := h
    unfold f_Md_wrongIn_L2b at h
    refine s_ek_bk 4 (P := 6) (ls' := [(0, .ref 151), (1, .int p1), (2, .int v2)]) (st' := [.ref 151, .int ((2 : Int32) * v2)]) (M' := v_mk s) rfl ?_
    refine v_gf rfl (v_gr (rfl : v_kd 151 = 11) (rfl : v_sl 151 47 = .ref 182) ⟨rfl, rfl, by decide⟩) ?_
    refine s_ek_bk 1 (P := 10) (ls' := [(0, .ref 151), (1, .int p1), (2, .int v2)]) (st' := [.int p1, .ref 182, .int ((2 : Int32) * v2)]) (M' := v_mk s) rfl ?_
    obtain ⟨c101, h⟩ := v_ck h
    refine v_ia (i := p1) rfl (v_ai (rfl : v_kd 182 = 13) rfl (by decide) v_all13 (v_cn (rfl : v_ln 182 = 6) c101)) ?_
    rcases v_if h with ⟨c102, h⟩ | ⟨c102, h⟩
    · refine v_i2t (T := 57) rfl rfl c102 ?_
      refine v_ls (ls' := []) trivial (show ([] : List Nat).Nodup from by decide) ?_
      exact hk57 _ h
    · refine v_i2f (T := 57) rfl rfl c102 ?_
      refine s_ek_bk 3 (P := 17) (ls' := [(0, .ref 151), (1, .int p1), (2, .int v2)]) (st' := [.int v2, .int p1, .ref 151]) (M' := v_mk s) rfl ?_
      obtain ⟨r103, s103, e103, h⟩ := v_bd h
      refine v_cV (ν := s_e239.1) (w := 1914) (a := 151) (as' := [.int p1, .int v2]) (r := []) (o := some (.int r103)) (by omega) rfl rfl rfl (v_mk_kd (k := 11) (rfl : v_kd 151 = 11) (by decide)) rfl (t_Md_isTwo e103 (by omega)) ?_
      show s_Ek (s_rows 3 L xs) D s_e240.1 20 [(0, .ref 151), (1, .int p1), (2, .int v2)] [.int r103] (v_mk s103) _
      rcases v_if h with ⟨c104, h⟩ | ⟨c104, h⟩
      · refine v_i1t (T := 49) rfl rfl c104 ?_
        refine v_ls (ls' := [(2, .int v2)]) ⟨rfl, trivial⟩ (show ([2] : List Nat).Nodup from by decide) ?_
        exact hk49 _ _ h
      · refine v_i1f (T := 49) rfl rfl c104 ?_
        refine s_ek_bk 4 (P := 27) (ls' := [(0, .ref 151), (1, .int p1), (2, .int v2)]) (st' := [.int v2, .int p1, .ref 151, .ref 151]) (M' := v_mk s103) rfl ?_
        obtain ⟨r105, s105, e105, h⟩ := v_bd h
        refine v_cV (ν := s_e237.1) (w := 1898) (a := 151) (as' := [.int p1, .int v2]) (r := [.ref 151]) (o := some (.int r105)) (by omega) rfl rfl rfl (v_mk_kd (k := 11) (rfl : v_kd 151 = 11) (by decide)) rfl (t_Md_caseAt e105 (by omega)) ?_
        show s_Ek (s_rows 3 L xs) D s_e240.1 30 [(0, .ref 151), (1, .int p1), (2, .int v2)] [.int r105, .ref 151] (v_mk s105) _
        obtain ⟨r106, s106, e106, h⟩ := v_bd h
        refine v_cS (ν := s_e224.1) (w := 1793) (as := [.int r105]) (r := [.ref 151]) (o := some (.int r106)) (by omega) rfl rfl rfl rfl (t_Md_caseOf e106 (by omega)) ?_
        show s_Ek (s_rows 3 L xs) D s_e240.1 33 [(0, .ref 151), (1, .int p1), (2, .int v2)] [.int r106, .ref 151] (v_mk s106) _
        refine s_ek_bk 1 (P := 34) (ls' := [(0, .ref 151), (1, .int p1), (2, .int v2)]) (st' := [.ref 151, .int r106, .ref 151]) (M' := v_mk s106) rfl ?_
        refine v_gf rfl (v_gi (rfl : v_kd 151 = 11) rfl ⟨rfl, rfl, by decide⟩) ?_
        obtain ⟨r107, s107, e107, h⟩ := v_bd h
        refine v_cV (ν := s_e233.1) (w := 1866) (a := 151) (as' := [.int r106, .int (s106.1 151 18)]) (r := []) (o := some (.int r107)) (by omega) rfl rfl rfl (v_mk_kd (k := 11) (rfl : v_kd 151 = 11) (by decide)) rfl (t_Md_verdictIn e107 (by omega)) ?_
        show s_Ek (s_rows 3 L xs) D s_e240.1 40 [(0, .ref 151), (1, .int p1), (2, .int v2)] [.int r107] (v_mk s107) _
        refine s_ek_bk 3 (P := 43) (ls' := [(0, .ref 151), (1, .int p1), (2, .int v2)]) (st' := [.int v2, .int p1, .ref 151, .int r107]) (M' := v_mk s107) rfl ?_
        obtain ⟨r108, s108, e108, h⟩ := v_bd h
        refine v_cV (ν := s_e238.1) (w := 1906) (a := 151) (as' := [.int p1, .int v2]) (r := [.int r107]) (o := some (.int r108)) (by omega) rfl rfl rfl (v_mk_kd (k := 11) (rfl : v_kd 151 = 11) (by decide)) rfl (t_Md_dueAt e108 (by omega)) ?_
        show s_Ek (s_rows 3 L xs) D s_e240.1 46 [(0, .ref 151), (1, .int p1), (2, .int v2)] [.int r108, .int r107] (v_mk s108) _
        rcases v_if h with ⟨c109, h⟩ | ⟨c109, h⟩
        · refine v_i2t (T := 51) rfl rfl c109 ?_
          refine s_ek_bk 2 (P := 2) (ls' := [(2, .int (v2 + 1)), (0, .ref 151), (1, .int p1)]) (st' := []) (M' := v_mk s108) rfl ?_
          refine v_ls (ls' := [(0, .ref 151), (1, .int p1), (2, .int (v2 + 1))]) ⟨rfl, rfl, rfl, trivial⟩ (show ([0, 1, 2] : List Nat).Nodup from by decide) ?_
          exact ih _ _ h
        · refine v_i2f (T := 51) rfl rfl c109 ?_
          refine v_ls (ls' := [(2, .int v2)]) ⟨rfl, trivial⟩ (show ([2] : List Nat).Nodup from by decide) ?_
          exact hk49 _ _ h
set_option maxRecDepth 20000 in
set_option maxHeartbeats 4000000 in
theorem t_Md_wrongIn {L : Nat} {xs : Nat → Int32} {b : Int32} {D : Nat} {r : Int32} {s s' : vS} (h : f_Md_wrongIn b s = some (r, s')) (hD : 5 ≤ D) : s_Ek (s_rows 3 L xs) D s_e240.1 0 (lv_args 0 [.ref 151, .int b]) [] (v_mk s) (v_Q (some (.int r)) s') := by
  unfold f_Md_wrongIn at h
  show s_Ek (s_rows 3 L xs) D s_e240.1 0 [(0, .ref 151), (1, .int b)] [] (v_mk s) _
  refine s_ek_bk 2 (P := 2) (ls' := [(2, .int 0), (0, .ref 151), (1, .int b)]) (st' := []) (M' := v_mk s) rfl ?_
  refine v_ls (ls' := [(0, .ref 151), (1, .int b), (2, .int 0)]) ⟨rfl, rfl, rfl, trivial⟩ (show ([0, 1, 2] : List Nat).Nodup from by decide) ?_
  refine t_Md_wrongIn_L2 (by omega) (fun w1 s2 h => ?_) (fun s3 h => ?_) 4096 _ _ h
  · show s_Ek (s_rows 3 L xs) D s_e240.1 49 [(2, .int w1)] [] (v_mk s2) _
    refine s_ek_bk 1 (P := 50) (ls' := [(2, .int w1)]) (st' := [.int w1]) (M' := v_mk s2) rfl ?_
    obtain ⟨rfl, rfl⟩ := v_so h
    exact v_ret (fun _ => rfl)
  · show s_Ek (s_rows 3 L xs) D s_e240.1 57 [] [] (v_mk s3) _
    refine s_ek_bk 1 (P := 59) (ls' := []) (st' := [.int (-2)]) (M' := v_mk s3) rfl ?_
    obtain ⟨rfl, rfl⟩ := v_so h
    exact v_ret (fun _ => rfl)
noncomputable def f_Md_judge (b : Int32) (s : vS) : Option (Int32 × vS) := (v_bi (f_Md_isShelf b s) (fun r1 s1 => (if r1.toInt = 0 then (some ((-1), s1)) else (v_bi (f_Md_rowFault b s1) (fun r3 s3 => (if 0 ≤ r3.toInt then (v_bi (f_Md_findAll s3) (fun _ s5 => (v_bi (f_Md_wrongIn b s5) (fun r6 s6 => (some (r6, s6)))))) else (v_bi (f_Md_rowFault b s3) (fun r7 s7 => (some (r7, s7))))))))))
set_option maxRecDepth 20000 in
set_option maxHeartbeats 4000000 in
theorem t_Md_judge {L : Nat} {xs : Nat → Int32} {b : Int32} {D : Nat} {r : Int32} {s s' : vS} (h : f_Md_judge b s = some (r, s')) (hD : 6 ≤ D) : s_Ek (s_rows 3 L xs) D s_e241.1 0 (lv_args 0 [.ref 151, .int b]) [] (v_mk s) (v_Q (some (.int r)) s') := by
  unfold f_Md_judge at h
  show s_Ek (s_rows 3 L xs) D s_e241.1 0 [(0, .ref 151), (1, .int b)] [] (v_mk s) _
  refine s_ek_bk 1 (P := 1) (ls' := [(0, .ref 151), (1, .int b)]) (st' := [.int b]) (M' := v_mk s) rfl ?_
  obtain ⟨r1, s1, e1, h⟩ := v_bd h
  refine v_cS (ν := s_e281.1) (w := 2249) (as := [.int b]) (r := []) (o := some (.int r1)) (by omega) rfl rfl rfl rfl (t_Md_isShelf e1 (by omega)) ?_
  show s_Ek (s_rows 3 L xs) D s_e241.1 4 [(0, .ref 151), (1, .int b)] [.int r1] (v_mk s1) _
  rcases v_if h with ⟨c2, h⟩ | ⟨c2, h⟩
  · refine v_i1f (T := 9) rfl rfl (fun q => q c2) ?_
    refine s_ek_bk 1 (P := 8) (ls' := [(0, .ref 151), (1, .int b)]) (st' := [.int (-1)]) (M' := v_mk s1) rfl ?_
    obtain ⟨rfl, rfl⟩ := v_so h
    exact v_ret (fun _ => rfl)
  · refine v_i1t (T := 9) rfl rfl c2 ?_
    refine s_ek_bk 2 (P := 11) (ls' := [(0, .ref 151), (1, .int b)]) (st' := [.int b, .ref 151]) (M' := v_mk s1) rfl ?_
    obtain ⟨r3, s3, e3, h⟩ := v_bd h
    refine v_cV (ν := s_e236.1) (w := 1889) (a := 151) (as' := [.int b]) (r := []) (o := some (.int r3)) (by omega) rfl rfl rfl (v_mk_kd (k := 11) (rfl : v_kd 151 = 11) (by decide)) rfl (t_Md_rowFault e3 (by omega)) ?_
    show s_Ek (s_rows 3 L xs) D s_e241.1 14 [(0, .ref 151), (1, .int b)] [.int r3] (v_mk s3) _
    rcases v_if h with ⟨c4, h⟩ | ⟨c4, h⟩
    · refine v_i1t (T := 23) rfl rfl c4 ?_
      refine s_ek_bk 1 (P := 24) (ls' := [(0, .ref 151), (1, .int b)]) (st' := [.ref 151]) (M' := v_mk s3) rfl ?_
      obtain ⟨r5, s5, e5, h⟩ := v_bd h
      refine v_cV (ν := s_e223.1) (w := 1784) (a := 151) (as' := []) (r := []) (o := none) (by omega) rfl rfl rfl (v_mk_kd (k := 11) (rfl : v_kd 151 = 11) (by decide)) rfl (t_Md_findAll e5 (by omega)) ?_
      show s_Ek (s_rows 3 L xs) D s_e241.1 27 [(0, .ref 151), (1, .int b)] [] (v_mk s5) _
      refine s_ek_bk 2 (P := 29) (ls' := [(0, .ref 151), (1, .int b)]) (st' := [.int b, .ref 151]) (M' := v_mk s5) rfl ?_
      obtain ⟨r6, s6, e6, h⟩ := v_bd h
      refine v_cV (ν := s_e240.1) (w := 1921) (a := 151) (as' := [.int b]) (r := []) (o := some (.int r6)) (by omega) rfl rfl rfl (v_mk_kd (k := 11) (rfl : v_kd 151 = 11) (by decide)) rfl (t_Md_wrongIn e6 (by omega)) ?_
      show s_Ek (s_rows 3 L xs) D s_e241.1 32 [(0, .ref 151), (1, .int b)] [.int r6] (v_mk s6) _
      obtain ⟨rfl, rfl⟩ := v_so h
      exact v_ret (fun _ => rfl)
    · refine v_i1f (T := 23) rfl rfl c4 ?_
      refine s_ek_bk 2 (P := 19) (ls' := [(0, .ref 151), (1, .int b)]) (st' := [.int b, .ref 151]) (M' := v_mk s3) rfl ?_
      obtain ⟨r7, s7, e7, h⟩ := v_bd h
      refine v_cV (ν := s_e236.1) (w := 1889) (a := 151) (as' := [.int b]) (r := []) (o := some (.int r7)) (by omega) rfl rfl rfl (v_mk_kd (k := 11) (rfl : v_kd 151 = 11) (by decide)) rfl (t_Md_rowFault e7 (by omega)) ?_
      show s_Ek (s_rows 3 L xs) D s_e241.1 22 [(0, .ref 151), (1, .int b)] [.int r7] (v_mk s7) _
      obtain ⟨rfl, rfl⟩ := v_so h
      exact v_ret (fun _ => rfl)
noncomputable def f_Md_never_L15b (k49 : Int32 → vS → Option (Int32 × vS)) (again : Int32 → Int32 → vS → Option (Int32 × vS)) (v1 : Int32) (v2 : Int32) (s : vS) : Option (Int32 × vS) := (if 125 ≤ v2.toInt then (k49 v1 s) else (v_bi (f_Md_holder v2 (s.1 151 18) s) (fun r103 s103 => (if r103.toInt < 0 then (again v1 (v2 + 1) s103) else (again (v1 &&& (((1 : Int32) <<< (r103 &&& 31)) ^^^ ((-1) : Int32))) (v2 + 1) s103)))))
noncomputable def f_Md_never_L15 (k49 : Int32 → vS → Option (Int32 × vS)) (n : Nat) : Int32 → Int32 → vS → Option (Int32 × vS) := Nat.rec (motive := fun _ => Int32 → Int32 → vS → Option (Int32 × vS)) (fun _ _ _ => none) (fun _ again => f_Md_never_L15b k49 again) n
noncomputable def f_Md_never (s : vS) : Option (Int32 × vS) := (v_bi (f_Md_findAll s) (fun _ s1 => (f_Md_never_L15 (fun w2 s3 => (some (w2, s3))) 4096 (((1 : Int32) <<< ((s1.1 151 14) &&& 31)) - (1 : Int32)) 0 s1)))
set_option maxRecDepth 20000 in
set_option maxHeartbeats 4000000 in
theorem t_Md_never_L15 {L : Nat} {xs : Nat → Int32} {k49 : Int32 → vS → Option (Int32 × vS)} {D : Nat} (hD : 6 ≤ D) {r : Int32} {s' : vS} (hk49 : ∀ (v1 : Int32) (s : vS), k49 v1 s = some (r, s') → s_Ek (s_rows 3 L xs) D s_e242.1 49 [(1, .int v1)] [] (v_mk s) (v_Q (some (.int r)) s')) : ∀ (n : Nat) (v1 : Int32) (v2 : Int32) (s : vS), f_Md_never_L15 k49 n v1 v2 s = some (r, s') → s_Ek (s_rows 3 L xs) D s_e242.1 15 [(0, .ref 151), (1, .int v1), (2, .int v2)] [] (v_mk s) (v_Q (some (.int r)) s') := by
  intro n
  induction n with
  | zero => intro v1 v2 s h; exact nomatch (show (none : Option (Int32 × vS)) = some (r, s') from h)
  | succ n ih =>
    intro v1 v2 s h
    replace h : f_Md_never_L15b k49 (f_Md_never_L15 k49 n) v1 v2 s = some (r, s') := h
    unfold f_Md_never_L15b at h
    refine s_ek_bk 2 (P := 18) (ls' := [(0, .ref 151), (1, .int v1), (2, .int v2)]) (st' := [.int 125, .int v2]) (M' := v_mk s) rfl ?_
    rcases v_if h with ⟨c102, h⟩ | ⟨c102, h⟩
    · refine v_i2t (T := 49) rfl rfl c102 ?_
      refine v_ls (ls' := [(1, .int v1)]) ⟨rfl, trivial⟩ (show ([1] : List Nat).Nodup from by decide) ?_
      exact hk49 _ _ h
    · refine v_i2f (T := 49) rfl rfl c102 ?_
      refine s_ek_bk 3 (P := 24) (ls' := [(0, .ref 151), (1, .int v1), (2, .int v2)]) (st' := [.ref 151, .int v2, .ref 151]) (M' := v_mk s) rfl ?_
      refine v_gf rfl (v_gi (rfl : v_kd 151 = 11) rfl ⟨rfl, rfl, by decide⟩) ?_
      obtain ⟨r103, s103, e103, h⟩ := v_bd h
      refine v_cV (ν := s_e232.1) (w := 1858) (a := 151) (as' := [.int v2, .int (s.1 151 18)]) (r := []) (o := some (.int r103)) (by omega) rfl rfl rfl (v_mk_kd (k := 11) (rfl : v_kd 151 = 11) (by decide)) rfl (t_Md_holder e103 (by omega)) ?_
      show s_Ek (s_rows 3 L xs) D s_e242.1 30 [(0, .ref 151), (1, .int v1), (2, .int v2)] [.int r103] (v_mk s103) _
      refine s_ek_bk 2 (P := 32) (ls' := [(3, .int r103), (0, .ref 151), (1, .int v1), (2, .int v2)]) (st' := [.int r103]) (M' := v_mk s103) rfl ?_
      rcases v_if h with ⟨c104, h⟩ | ⟨c104, h⟩
      · refine v_i1t (T := 43) rfl rfl c104 ?_
        refine s_ek_bk 2 (P := 15) (ls' := [(2, .int (v2 + 1)), (3, .int r103), (0, .ref 151), (1, .int v1)]) (st' := []) (M' := v_mk s103) rfl ?_
        refine v_ls (ls' := [(0, .ref 151), (1, .int v1), (2, .int (v2 + 1))]) ⟨rfl, rfl, rfl, trivial⟩ (show ([0, 1, 2] : List Nat).Nodup from by decide) ?_
        exact ih _ _ _ h
      · refine v_i1f (T := 43) rfl rfl c104 ?_
        refine s_ek_bk 10 (P := 15) (ls' := [(2, .int (v2 + 1)), (1, .int (v1 &&& (((1 : Int32) <<< (r103 &&& 31)) ^^^ ((-1) : Int32)))), (3, .int r103), (0, .ref 151)]) (st' := []) (M' := v_mk s103) rfl ?_
        refine v_ls (ls' := [(0, .ref 151), (1, .int (v1 &&& (((1 : Int32) <<< (r103 &&& 31)) ^^^ ((-1) : Int32)))), (2, .int (v2 + 1))]) ⟨rfl, rfl, rfl, trivial⟩ (show ([0, 1, 2] : List Nat).Nodup from by decide) ?_
        exact ih _ _ _ h
set_option maxRecDepth 20000 in
set_option maxHeartbeats 4000000 in
theorem t_Md_never {L : Nat} {xs : Nat → Int32} {D : Nat} {r : Int32} {s s' : vS} (h : f_Md_never s = some (r, s')) (hD : 6 ≤ D) : s_Ek (s_rows 3 L xs) D s_e242.1 0 (lv_args 0 [.ref 151]) [] (v_mk s) (v_Q (some (.int r)) s') := by
  unfold f_Md_never at h
  show s_Ek (s_rows 3 L xs) D s_e242.1 0 [(0, .ref 151)] [] (v_mk s) _
  refine s_ek_bk 1 (P := 1) (ls' := [(0, .ref 151)]) (st' := [.ref 151]) (M' := v_mk s) rfl ?_
  obtain ⟨r1, s1, e1, h⟩ := v_bd h
  refine v_cV (ν := s_e223.1) (w := 1784) (a := 151) (as' := []) (r := []) (o := none) (by omega) rfl rfl rfl (v_mk_kd (k := 11) (rfl : v_kd 151 = 11) (by decide)) rfl (t_Md_findAll e1 (by omega)) ?_
  show s_Ek (s_rows 3 L xs) D s_e242.1 4 [(0, .ref 151)] [] (v_mk s1) _
  refine s_ek_bk 2 (P := 6) (ls' := [(0, .ref 151)]) (st' := [.ref 151, .int 1]) (M' := v_mk s1) rfl ?_
  refine v_gf rfl (v_gi (rfl : v_kd 151 = 11) rfl ⟨rfl, rfl, by decide⟩) ?_
  refine s_ek_bk 6 (P := 15) (ls' := [(2, .int 0), (1, .int (((1 : Int32) <<< ((s1.1 151 14) &&& 31)) - (1 : Int32))), (0, .ref 151)]) (st' := []) (M' := v_mk s1) rfl ?_
  refine v_ls (ls' := [(0, .ref 151), (1, .int (((1 : Int32) <<< ((s1.1 151 14) &&& 31)) - (1 : Int32))), (2, .int 0)]) ⟨rfl, rfl, rfl, trivial⟩ (show ([0, 1, 2] : List Nat).Nodup from by decide) ?_
  refine t_Md_never_L15 (by omega) (fun w2 s3 h => ?_) 4096 _ _ _ h
  show s_Ek (s_rows 3 L xs) D s_e242.1 49 [(1, .int w2)] [] (v_mk s3) _
  refine s_ek_bk 1 (P := 50) (ls' := [(1, .int w2)]) (st' := [.int w2]) (M' := v_mk s3) rfl ?_
  obtain ⟨rfl, rfl⟩ := v_so h
  exact v_ret (fun _ => rfl)
noncomputable def f_Md_clash_L84b (p1 : Int32) (p2 : Int32) (k164 : Int32 → Int32 → vS → Option (Int32 × vS)) (again : Int32 → Int32 → Int32 → vS → Option (Int32 × vS)) (v3 : Int32) (v4 : Int32) (v5 : Int32) (s : vS) : Option (Int32 × vS) := (if v5.toInt < 0 then (k164 v3 v4 s) else (if v_in (p1 / (10 : Int32)) 11 then (if v_in (p1 - p1 / (10 : Int32) * (10 : Int32)) 11 then (if (s.1 161 (Int32.toNatClampNeg (p1 / (10 : Int32)))).toInt = (s.1 161 (Int32.toNatClampNeg (p1 - p1 / (10 : Int32) * (10 : Int32)))).toInt then (again v3 v4 (v5 + (-1)) s) else (if v_in (((125 : Int32) * (p1 / (10 : Int32))) + v5) 1375 then (if (s.1 171 (Int32.toNatClampNeg (((125 : Int32) * (p1 / (10 : Int32))) + v5))).toInt = 0 then (again v3 v4 (v5 + (-1)) s) else (if v_in (((125 : Int32) * (p1 - p1 / (10 : Int32) * (10 : Int32))) + v5) 1375 then (if (s.1 171 (Int32.toNatClampNeg (((125 : Int32) * (p1 - p1 / (10 : Int32) * (10 : Int32))) + v5))).toInt = 0 then (again v3 v4 (v5 + (-1)) s) else (v_bi (f_Md_numberOf v5 s) (fun r122 s122 => (again r122 (v4 + 1) (v5 + (-1)) s122)))) else none)) else none)) else none) else none))
noncomputable def f_Md_clash_L84 (p1 : Int32) (p2 : Int32) (k164 : Int32 → Int32 → vS → Option (Int32 × vS)) (n : Nat) : Int32 → Int32 → Int32 → vS → Option (Int32 × vS) := Nat.rec (motive := fun _ => Int32 → Int32 → Int32 → vS → Option (Int32 × vS)) (fun _ _ _ _ => none) (fun _ again => f_Md_clash_L84b p1 p2 k164 again) n
noncomputable def f_Md_clash (b : Int32) (c : Int32) (s : vS) : Option (Int32 × vS) := (if b.toInt < 0 then (some ((-1), s)) else (v_bi (f_Md_isLaw (b / (10 : Int32)) s) (fun r2 s2 => (if r2.toInt = 0 then (some ((-1), s2)) else (v_bi (f_Md_isLaw (b - b / (10 : Int32) * (10 : Int32)) s2) (fun r4 s4 => (if r4.toInt = 0 then (some ((-1), s4)) else (if (b / (10 : Int32)).toInt = (b - b / (10 : Int32) * (10 : Int32)).toInt then (some ((-1), s4)) else (v_bi (f_Md_isThere (b / (10 : Int32)) s4) (fun r7 s7 => (if r7.toInt = 0 then (some ((-1), s7)) else (v_bi (f_Md_isThere (b - b / (10 : Int32) * (10 : Int32)) s7) (fun r9 s9 => (if r9.toInt = 0 then (some ((-1), s9)) else (v_bi (f_Md_in c 0 1 s9) (fun r11 s11 => (if r11.toInt = 0 then (some ((-1), s11)) else (v_bi (f_Md_findSpeaks s11) (fun _ s13 => (f_Md_clash_L84 b c (fun w14 w15 s16 => (if c.toInt = 0 then (some (w14, s16)) else (some (w15, s16)))) 4096 (-2) 0 124 s13))))))))))))))))))))
set_option maxRecDepth 20000 in
set_option maxHeartbeats 4000000 in
theorem t_Md_clash_L84 {L : Nat} {xs : Nat → Int32} {p1 : Int32} {p2 : Int32} {k164 : Int32 → Int32 → vS → Option (Int32 × vS)} {D : Nat} (hD : 5 ≤ D) {r : Int32} {s' : vS} (hk164 : ∀ (v3 : Int32) (v4 : Int32) (s : vS), k164 v3 v4 s = some (r, s') → s_Ek (s_rows 3 L xs) D s_e243.1 164 [(2, .int p2), (3, .int v3), (4, .int v4)] [] (v_mk s) (v_Q (some (.int r)) s')) : ∀ (n : Nat) (v3 : Int32) (v4 : Int32) (v5 : Int32) (s : vS), f_Md_clash_L84 p1 p2 k164 n v3 v4 v5 s = some (r, s') → s_Ek (s_rows 3 L xs) D s_e243.1 84 [(0, .ref 151), (1, .int p1), (2, .int p2), (3, .int v3), (4, .int v4), (5, .int v5)] [] (v_mk s) (v_Q (some (.int r)) s') := by
  intro n
  induction n with
  | zero => intro v3 v4 v5 s h; exact nomatch (show (none : Option (Int32 × vS)) = some (r, s') from h)
  | succ n ih =>
    intro v3 v4 v5 s h
    replace h : f_Md_clash_L84b p1 p2 k164 (f_Md_clash_L84 p1 p2 k164 n) v3 v4 v5 s = some (r, s') := h
    unfold f_Md_clash_L84b at h
    refine s_ek_bk 1 (P := 86) (ls' := [(0, .ref 151), (1, .int p1), (2, .int p2), (3, .int v3), (4, .int v4), (5, .int v5)]) (st' := [.int v5]) (M' := v_mk s) rfl ?_
    rcases v_if h with ⟨c114, h⟩ | ⟨c114, h⟩
    · refine v_i1t (T := 164) rfl rfl c114 ?_
      refine v_ls (ls' := [(2, .int p2), (3, .int v3), (4, .int v4)]) ⟨rfl, rfl, rfl, trivial⟩ (show ([2, 3, 4] : List Nat).Nodup from by decide) ?_
      exact hk164 _ _ _ h
    · refine v_i1f (T := 164) rfl rfl c114 ?_
      refine s_ek_bk 1 (P := 90) (ls' := [(0, .ref 151), (1, .int p1), (2, .int p2), (3, .int v3), (4, .int v4), (5, .int v5)]) (st' := [.ref 151]) (M' := v_mk s) rfl ?_
      refine v_gf rfl (v_gr (rfl : v_kd 151 = 11) (rfl : v_sl 151 16 = .ref 161) ⟨rfl, rfl, by decide⟩) ?_
      refine s_ek_bk 3 (P := 97) (ls' := [(0, .ref 151), (1, .int p1), (2, .int p2), (3, .int v3), (4, .int v4), (5, .int v5)]) (st' := [.int (p1 / (10 : Int32)), .ref 161]) (M' := v_mk s) rfl ?_
      obtain ⟨c115, h⟩ := v_ck h
      refine v_ia (i := (p1 / (10 : Int32))) rfl (v_ai (rfl : v_kd 161 = 13) rfl (by decide) v_all13 (v_cn (rfl : v_ln 161 = 11) c115)) ?_
      refine s_ek_bk 1 (P := 99) (ls' := [(0, .ref 151), (1, .int p1), (2, .int p2), (3, .int v3), (4, .int v4), (5, .int v5)]) (st' := [.ref 151, .int (s.1 161 (Int32.toNatClampNeg (p1 / (10 : Int32))))]) (M' := v_mk s) rfl ?_
      refine v_gf rfl (v_gr (rfl : v_kd 151 = 11) (rfl : v_sl 151 16 = .ref 161) ⟨rfl, rfl, by decide⟩) ?_
      refine s_ek_bk 3 (P := 106) (ls' := [(0, .ref 151), (1, .int p1), (2, .int p2), (3, .int v3), (4, .int v4), (5, .int v5)]) (st' := [.int (p1 - p1 / (10 : Int32) * (10 : Int32)), .ref 161, .int (s.1 161 (Int32.toNatClampNeg (p1 / (10 : Int32))))]) (M' := v_mk s) rfl ?_
      obtain ⟨c116, h⟩ := v_ck h
      refine v_ia (i := (p1 - p1 / (10 : Int32) * (10 : Int32))) rfl (v_ai (rfl : v_kd 161 = 13) rfl (by decide) v_all13 (v_cn (rfl : v_ln 161 = 11) c116)) ?_
      rcases v_if h with ⟨c117, h⟩ | ⟨c117, h⟩
      · refine v_i2t (T := 158) rfl rfl c117 ?_
        refine s_ek_bk 2 (P := 84) (ls' := [(5, .int (v5 + (-1))), (0, .ref 151), (1, .int p1), (2, .int p2), (3, .int v3), (4, .int v4)]) (st' := []) (M' := v_mk s) rfl ?_
        refine v_ls (ls' := [(0, .ref 151), (1, .int p1), (2, .int p2), (3, .int v3), (4, .int v4), (5, .int (v5 + (-1)))]) ⟨rfl, rfl, rfl, rfl, rfl, rfl, trivial⟩ (show ([0, 1, 2, 3, 4, 5] : List Nat).Nodup from by decide) ?_
        exact ih _ _ _ _ h
      · refine v_i2f (T := 158) rfl rfl c117 ?_
        refine s_ek_bk 1 (P := 111) (ls' := [(0, .ref 151), (1, .int p1), (2, .int p2), (3, .int v3), (4, .int v4), (5, .int v5)]) (st' := [.ref 151]) (M' := v_mk s) rfl ?_
        refine v_gf rfl (v_gr (rfl : v_kd 151 = 11) (rfl : v_sl 151 32 = .ref 171) ⟨rfl, rfl, by decide⟩) ?_
        refine s_ek_bk 7 (P := 124) (ls' := [(0, .ref 151), (1, .int p1), (2, .int p2), (3, .int v3), (4, .int v4), (5, .int v5)]) (st' := [.int (((125 : Int32) * (p1 / (10 : Int32))) + v5), .ref 171]) (M' := v_mk s) rfl ?_
        obtain ⟨c118, h⟩ := v_ck h
        refine v_ba (i := (((125 : Int32) * (p1 / (10 : Int32))) + v5)) rfl (v_ai (rfl : v_kd 171 = 16) rfl (by decide) v_all16 (v_cn (rfl : v_ln 171 = 1375) c118)) ?_
        rcases v_if h with ⟨c119, h⟩ | ⟨c119, h⟩
        · refine v_i1t (T := 158) rfl rfl c119 ?_
          refine s_ek_bk 2 (P := 84) (ls' := [(5, .int (v5 + (-1))), (0, .ref 151), (1, .int p1), (2, .int p2), (3, .int v3), (4, .int v4)]) (st' := []) (M' := v_mk s) rfl ?_
          refine v_ls (ls' := [(0, .ref 151), (1, .int p1), (2, .int p2), (3, .int v3), (4, .int v4), (5, .int (v5 + (-1)))]) ⟨rfl, rfl, rfl, rfl, rfl, rfl, trivial⟩ (show ([0, 1, 2, 3, 4, 5] : List Nat).Nodup from by decide) ?_
          exact ih _ _ _ _ h
        · refine v_i1f (T := 158) rfl rfl c119 ?_
          refine s_ek_bk 1 (P := 129) (ls' := [(0, .ref 151), (1, .int p1), (2, .int p2), (3, .int v3), (4, .int v4), (5, .int v5)]) (st' := [.ref 151]) (M' := v_mk s) rfl ?_
          refine v_gf rfl (v_gr (rfl : v_kd 151 = 11) (rfl : v_sl 151 32 = .ref 171) ⟨rfl, rfl, by decide⟩) ?_
          refine s_ek_bk 7 (P := 142) (ls' := [(0, .ref 151), (1, .int p1), (2, .int p2), (3, .int v3), (4, .int v4), (5, .int v5)]) (st' := [.int (((125 : Int32) * (p1 - p1 / (10 : Int32) * (10 : Int32))) + v5), .ref 171]) (M' := v_mk s) rfl ?_
          obtain ⟨c120, h⟩ := v_ck h
          refine v_ba (i := (((125 : Int32) * (p1 - p1 / (10 : Int32) * (10 : Int32))) + v5)) rfl (v_ai (rfl : v_kd 171 = 16) rfl (by decide) v_all16 (v_cn (rfl : v_ln 171 = 1375) c120)) ?_
          rcases v_if h with ⟨c121, h⟩ | ⟨c121, h⟩
          · refine v_i1f (T := 149) rfl rfl (fun q => q c121) ?_
            refine s_ek_bk 3 (P := 84) (ls' := [(5, .int (v5 + (-1))), (0, .ref 151), (1, .int p1), (2, .int p2), (3, .int v3), (4, .int v4)]) (st' := []) (M' := v_mk s) rfl ?_
            refine v_ls (ls' := [(0, .ref 151), (1, .int p1), (2, .int p2), (3, .int v3), (4, .int v4), (5, .int (v5 + (-1)))]) ⟨rfl, rfl, rfl, rfl, rfl, rfl, trivial⟩ (show ([0, 1, 2, 3, 4, 5] : List Nat).Nodup from by decide) ?_
            exact ih _ _ _ _ h
          · refine v_i1t (T := 149) rfl rfl c121 ?_
            refine s_ek_bk 1 (P := 151) (ls' := [(0, .ref 151), (1, .int p1), (2, .int p2), (3, .int v3), (4, .int v4), (5, .int v5)]) (st' := [.int v5]) (M' := v_mk s) rfl ?_
            obtain ⟨r122, s122, e122, h⟩ := v_bd h
            refine v_cS (ν := s_e225.1) (w := 1801) (as := [.int v5]) (r := []) (o := some (.int r122)) (by omega) rfl rfl rfl rfl (t_Md_numberOf e122 (by omega)) ?_
            show s_Ek (s_rows 3 L xs) D s_e243.1 154 [(0, .ref 151), (1, .int p1), (2, .int p2), (3, .int v3), (4, .int v4), (5, .int v5)] [.int r122] (v_mk s122) _
            refine s_ek_bk 4 (P := 84) (ls' := [(5, .int (v5 + (-1))), (4, .int (v4 + 1)), (3, .int r122), (0, .ref 151), (1, .int p1), (2, .int p2)]) (st' := []) (M' := v_mk s122) rfl ?_
            refine v_ls (ls' := [(0, .ref 151), (1, .int p1), (2, .int p2), (3, .int r122), (4, .int (v4 + 1)), (5, .int (v5 + (-1)))]) ⟨rfl, rfl, rfl, rfl, rfl, rfl, trivial⟩ (show ([0, 1, 2, 3, 4, 5] : List Nat).Nodup from by decide) ?_
            exact ih _ _ _ _ h
set_option maxRecDepth 20000 in
set_option maxHeartbeats 4000000 in
theorem t_Md_clash {L : Nat} {xs : Nat → Int32} {b : Int32} {c : Int32} {D : Nat} {r : Int32} {s s' : vS} (h : f_Md_clash b c s = some (r, s')) (hD : 5 ≤ D) : s_Ek (s_rows 3 L xs) D s_e243.1 0 (lv_args 0 [.ref 151, .int b, .int c]) [] (v_mk s) (v_Q (some (.int r)) s') := by
  unfold f_Md_clash at h
  show s_Ek (s_rows 3 L xs) D s_e243.1 0 [(0, .ref 151), (1, .int b), (2, .int c)] [] (v_mk s) _
  refine s_ek_bk 1 (P := 1) (ls' := [(0, .ref 151), (1, .int b), (2, .int c)]) (st' := [.int b]) (M' := v_mk s) rfl ?_
  rcases v_if h with ⟨c1, h⟩ | ⟨c1, h⟩
  · refine v_i1t (T := 68) rfl rfl c1 ?_
    refine s_ek_bk 1 (P := 69) (ls' := [(0, .ref 151), (1, .int b), (2, .int c)]) (st' := [.int (-1)]) (M' := v_mk s) rfl ?_
    obtain ⟨rfl, rfl⟩ := v_so h
    exact v_ret (fun _ => rfl)
  · refine v_i1f (T := 68) rfl rfl c1 ?_
    refine s_ek_bk 4 (P := 9) (ls' := [(0, .ref 151), (1, .int b), (2, .int c)]) (st' := [.int (b / (10 : Int32)), .ref 151]) (M' := v_mk s) rfl ?_
    obtain ⟨r2, s2, e2, h⟩ := v_bd h
    refine v_cV (ν := s_e201.1) (w := 1609) (a := 151) (as' := [.int (b / (10 : Int32))]) (r := []) (o := some (.int r2)) (by omega) rfl rfl rfl (v_mk_kd (k := 11) (rfl : v_kd 151 = 11) (by decide)) rfl (t_Md_isLaw e2 (by omega)) ?_
    show s_Ek (s_rows 3 L xs) D s_e243.1 12 [(0, .ref 151), (1, .int b), (2, .int c)] [.int r2] (v_mk s2) _
    rcases v_if h with ⟨c3, h⟩ | ⟨c3, h⟩
    · refine v_i1t (T := 68) rfl rfl c3 ?_
      refine s_ek_bk 1 (P := 69) (ls' := [(0, .ref 151), (1, .int b), (2, .int c)]) (st' := [.int (-1)]) (M' := v_mk s2) rfl ?_
      obtain ⟨rfl, rfl⟩ := v_so h
      exact v_ret (fun _ => rfl)
    · refine v_i1f (T := 68) rfl rfl c3 ?_
      refine s_ek_bk 4 (P := 20) (ls' := [(0, .ref 151), (1, .int b), (2, .int c)]) (st' := [.int (b - b / (10 : Int32) * (10 : Int32)), .ref 151]) (M' := v_mk s2) rfl ?_
      obtain ⟨r4, s4, e4, h⟩ := v_bd h
      refine v_cV (ν := s_e201.1) (w := 1609) (a := 151) (as' := [.int (b - b / (10 : Int32) * (10 : Int32))]) (r := []) (o := some (.int r4)) (by omega) rfl rfl rfl (v_mk_kd (k := 11) (rfl : v_kd 151 = 11) (by decide)) rfl (t_Md_isLaw e4 (by omega)) ?_
      show s_Ek (s_rows 3 L xs) D s_e243.1 23 [(0, .ref 151), (1, .int b), (2, .int c)] [.int r4] (v_mk s4) _
      rcases v_if h with ⟨c5, h⟩ | ⟨c5, h⟩
      · refine v_i1t (T := 68) rfl rfl c5 ?_
        refine s_ek_bk 1 (P := 69) (ls' := [(0, .ref 151), (1, .int b), (2, .int c)]) (st' := [.int (-1)]) (M' := v_mk s4) rfl ?_
        obtain ⟨rfl, rfl⟩ := v_so h
        exact v_ret (fun _ => rfl)
      · refine v_i1f (T := 68) rfl rfl c5 ?_
        refine s_ek_bk 6 (P := 34) (ls' := [(0, .ref 151), (1, .int b), (2, .int c)]) (st' := [.int (b - b / (10 : Int32) * (10 : Int32)), .int (b / (10 : Int32))]) (M' := v_mk s4) rfl ?_
        rcases v_if h with ⟨c6, h⟩ | ⟨c6, h⟩
        · refine v_i2t (T := 68) rfl rfl c6 ?_
          refine s_ek_bk 1 (P := 69) (ls' := [(0, .ref 151), (1, .int b), (2, .int c)]) (st' := [.int (-1)]) (M' := v_mk s4) rfl ?_
          obtain ⟨rfl, rfl⟩ := v_so h
          exact v_ret (fun _ => rfl)
        · refine v_i2f (T := 68) rfl rfl c6 ?_
          refine s_ek_bk 4 (P := 42) (ls' := [(0, .ref 151), (1, .int b), (2, .int c)]) (st' := [.int (b / (10 : Int32)), .ref 151]) (M' := v_mk s4) rfl ?_
          obtain ⟨r7, s7, e7, h⟩ := v_bd h
          refine v_cV (ν := s_e202.1) (w := 1617) (a := 151) (as' := [.int (b / (10 : Int32))]) (r := []) (o := some (.int r7)) (by omega) rfl rfl rfl (v_mk_kd (k := 11) (rfl : v_kd 151 = 11) (by decide)) rfl (t_Md_isThere e7 (by omega)) ?_
          show s_Ek (s_rows 3 L xs) D s_e243.1 45 [(0, .ref 151), (1, .int b), (2, .int c)] [.int r7] (v_mk s7) _
          rcases v_if h with ⟨c8, h⟩ | ⟨c8, h⟩
          · refine v_i1t (T := 68) rfl rfl c8 ?_
            refine s_ek_bk 1 (P := 69) (ls' := [(0, .ref 151), (1, .int b), (2, .int c)]) (st' := [.int (-1)]) (M' := v_mk s7) rfl ?_
            obtain ⟨rfl, rfl⟩ := v_so h
            exact v_ret (fun _ => rfl)
          · refine v_i1f (T := 68) rfl rfl c8 ?_
            refine s_ek_bk 4 (P := 53) (ls' := [(0, .ref 151), (1, .int b), (2, .int c)]) (st' := [.int (b - b / (10 : Int32) * (10 : Int32)), .ref 151]) (M' := v_mk s7) rfl ?_
            obtain ⟨r9, s9, e9, h⟩ := v_bd h
            refine v_cV (ν := s_e202.1) (w := 1617) (a := 151) (as' := [.int (b - b / (10 : Int32) * (10 : Int32))]) (r := []) (o := some (.int r9)) (by omega) rfl rfl rfl (v_mk_kd (k := 11) (rfl : v_kd 151 = 11) (by decide)) rfl (t_Md_isThere e9 (by omega)) ?_
            show s_Ek (s_rows 3 L xs) D s_e243.1 56 [(0, .ref 151), (1, .int b), (2, .int c)] [.int r9] (v_mk s9) _
            rcases v_if h with ⟨c10, h⟩ | ⟨c10, h⟩
            · refine v_i1t (T := 68) rfl rfl c10 ?_
              refine s_ek_bk 1 (P := 69) (ls' := [(0, .ref 151), (1, .int b), (2, .int c)]) (st' := [.int (-1)]) (M' := v_mk s9) rfl ?_
              obtain ⟨rfl, rfl⟩ := v_so h
              exact v_ret (fun _ => rfl)
            · refine v_i1f (T := 68) rfl rfl c10 ?_
              refine s_ek_bk 3 (P := 62) (ls' := [(0, .ref 151), (1, .int b), (2, .int c)]) (st' := [.int 1, .int 0, .int c]) (M' := v_mk s9) rfl ?_
              obtain ⟨r11, s11, e11, h⟩ := v_bd h
              refine v_cS (ν := s_e181.1) (w := 1451) (as := [.int c, .int 0, .int 1]) (r := []) (o := some (.int r11)) (by omega) rfl rfl rfl rfl (t_Md_in e11 (by omega)) ?_
              show s_Ek (s_rows 3 L xs) D s_e243.1 65 [(0, .ref 151), (1, .int b), (2, .int c)] [.int r11] (v_mk s11) _
              rcases v_if h with ⟨c12, h⟩ | ⟨c12, h⟩
              · refine v_i1f (T := 70) rfl rfl (fun q => q c12) ?_
                refine s_ek_bk 1 (P := 69) (ls' := [(0, .ref 151), (1, .int b), (2, .int c)]) (st' := [.int (-1)]) (M' := v_mk s11) rfl ?_
                obtain ⟨rfl, rfl⟩ := v_so h
                exact v_ret (fun _ => rfl)
              · refine v_i1t (T := 70) rfl rfl c12 ?_
                refine s_ek_bk 1 (P := 71) (ls' := [(0, .ref 151), (1, .int b), (2, .int c)]) (st' := [.ref 151]) (M' := v_mk s11) rfl ?_
                obtain ⟨r13, s13, e13, h⟩ := v_bd h
                refine v_cV (ν := s_e222.1) (w := 1776) (a := 151) (as' := []) (r := []) (o := none) (by omega) rfl rfl rfl (v_mk_kd (k := 11) (rfl : v_kd 151 = 11) (by decide)) rfl (t_Md_findSpeaks e13 (by omega)) ?_
                show s_Ek (s_rows 3 L xs) D s_e243.1 74 [(0, .ref 151), (1, .int b), (2, .int c)] [] (v_mk s13) _
                refine s_ek_bk 6 (P := 84) (ls' := [(5, .int 124), (4, .int 0), (3, .int (-2)), (0, .ref 151), (1, .int b), (2, .int c)]) (st' := []) (M' := v_mk s13) rfl ?_
                refine v_ls (ls' := [(0, .ref 151), (1, .int b), (2, .int c), (3, .int (-2)), (4, .int 0), (5, .int 124)]) ⟨rfl, rfl, rfl, rfl, rfl, rfl, trivial⟩ (show ([0, 1, 2, 3, 4, 5] : List Nat).Nodup from by decide) ?_
                refine t_Md_clash_L84 (by omega) (fun w14 w15 s16 h => ?_) 4096 _ _ _ _ h
                show s_Ek (s_rows 3 L xs) D s_e243.1 164 [(2, .int c), (3, .int w14), (4, .int w15)] [] (v_mk s16) _
                refine s_ek_bk 1 (P := 165) (ls' := [(2, .int c), (3, .int w14), (4, .int w15)]) (st' := [.int c]) (M' := v_mk s16) rfl ?_
                rcases v_if h with ⟨c17, h⟩ | ⟨c17, h⟩
                · refine v_i1f (T := 172) rfl rfl (fun q => q c17) ?_
                  refine s_ek_bk 2 (P := 174) (ls' := [(2, .int c), (3, .int w14), (4, .int w15)]) (st' := [.int w14]) (M' := v_mk s16) rfl ?_
                  obtain ⟨rfl, rfl⟩ := v_so h
                  exact v_ret (fun _ => rfl)
                · refine v_i1t (T := 172) rfl rfl c17 ?_
                  refine s_ek_bk 1 (P := 174) (ls' := [(2, .int c), (3, .int w14), (4, .int w15)]) (st' := [.int w15]) (M' := v_mk s16) rfl ?_
                  obtain ⟨rfl, rfl⟩ := v_so h
                  exact v_ret (fun _ => rfl)
noncomputable def f_Md_isSo (b : Int32) (c : Int32) (s : vS) : Option (Int32 × vS) := (if 0 ≤ b.toInt then (v_bi (f_Md_meaning (b / (15 : Int32)) s) (fun r2 s2 => (v_bi (f_Md_wordIn c r2 s2) (fun r3 s3 => (if ((b / (5 : Int32)) - (b / (5 : Int32)) / (3 : Int32) * (3 : Int32)).toInt = 0 then (if (b - b / (5 : Int32) * (5 : Int32)).toInt ≤ r3.toInt then (some (0, s3)) else (some (1, s3))) else (if ((b / (5 : Int32)) - (b / (5 : Int32)) / (3 : Int32) * (3 : Int32)).toInt = 1 then (if r3.toInt = (b - b / (5 : Int32) * (5 : Int32)).toInt then (some (1, s3)) else (some (0, s3))) else (if r3.toInt ≤ (b - b / (5 : Int32) * (5 : Int32)).toInt then (some (0, s3)) else (some (1, s3))))))))) else (some (1, s)))
set_option maxRecDepth 20000 in
set_option maxHeartbeats 4000000 in
theorem t_Md_isSo {L : Nat} {xs : Nat → Int32} {b : Int32} {c : Int32} {D : Nat} {r : Int32} {s s' : vS} (h : f_Md_isSo b c s = some (r, s')) (hD : 1 ≤ D) : s_Ek (s_rows 3 L xs) D s_e244.1 0 (lv_args 0 [.ref 151, .int b, .int c]) [] (v_mk s) (v_Q (some (.int r)) s') := by
  unfold f_Md_isSo at h
  show s_Ek (s_rows 3 L xs) D s_e244.1 0 [(0, .ref 151), (1, .int b), (2, .int c)] [] (v_mk s) _
  refine s_ek_bk 1 (P := 1) (ls' := [(0, .ref 151), (1, .int b), (2, .int c)]) (st' := [.int b]) (M' := v_mk s) rfl ?_
  rcases v_if h with ⟨c1, h⟩ | ⟨c1, h⟩
  · refine v_i1t (T := 6) rfl rfl c1 ?_
    refine s_ek_bk 5 (P := 12) (ls' := [(0, .ref 151), (1, .int b), (2, .int c)]) (st' := [.int (b / (15 : Int32)), .ref 151, .int c]) (M' := v_mk s) rfl ?_
    obtain ⟨r2, s2, e2, h⟩ := v_bd h
    refine v_cV (ν := s_e215.1) (w := 1721) (a := 151) (as' := [.int (b / (15 : Int32))]) (r := [.int c]) (o := some (.int r2)) (by omega) rfl rfl rfl (v_mk_kd (k := 11) (rfl : v_kd 151 = 11) (by decide)) rfl (t_Md_meaning e2 (by omega)) ?_
    show s_Ek (s_rows 3 L xs) D s_e244.1 15 [(0, .ref 151), (1, .int b), (2, .int c)] [.int r2, .int c] (v_mk s2) _
    obtain ⟨r3, s3, e3, h⟩ := v_bd h
    refine v_cS (ν := s_e220.1) (w := 1762) (as := [.int c, .int r2]) (r := []) (o := some (.int r3)) (by omega) rfl rfl rfl rfl (t_Md_wordIn e3 (by omega)) ?_
    show s_Ek (s_rows 3 L xs) D s_e244.1 18 [(0, .ref 151), (1, .int b), (2, .int c)] [.int r3] (v_mk s3) _
    refine s_ek_bk 12 (P := 33) (ls' := [(5, .int ((b / (5 : Int32)) - (b / (5 : Int32)) / (3 : Int32) * (3 : Int32))), (4, .int (b - b / (5 : Int32) * (5 : Int32))), (3, .int r3), (0, .ref 151), (1, .int b), (2, .int c)]) (st' := [.int ((b / (5 : Int32)) - (b / (5 : Int32)) / (3 : Int32) * (3 : Int32))]) (M' := v_mk s3) rfl ?_
    rcases v_if h with ⟨c4, h⟩ | ⟨c4, h⟩
    · refine v_i1f (T := 50) rfl rfl (fun q => q c4) ?_
      refine s_ek_bk 2 (P := 39) (ls' := [(5, .int ((b / (5 : Int32)) - (b / (5 : Int32)) / (3 : Int32) * (3 : Int32))), (4, .int (b - b / (5 : Int32) * (5 : Int32))), (3, .int r3), (0, .ref 151), (1, .int b), (2, .int c)]) (st' := [.int (b - b / (5 : Int32) * (5 : Int32)), .int r3]) (M' := v_mk s3) rfl ?_
      rcases v_if h with ⟨c5, h⟩ | ⟨c5, h⟩
      · refine v_i2t (T := 46) rfl rfl c5 ?_
        refine s_ek_bk 2 (P := 81) (ls' := [(5, .int ((b / (5 : Int32)) - (b / (5 : Int32)) / (3 : Int32) * (3 : Int32))), (4, .int (b - b / (5 : Int32) * (5 : Int32))), (3, .int r3), (0, .ref 151), (1, .int b), (2, .int c)]) (st' := [.int 0]) (M' := v_mk s3) rfl ?_
        obtain ⟨rfl, rfl⟩ := v_so h
        exact v_ret (fun _ => rfl)
      · refine v_i2f (T := 46) rfl rfl c5 ?_
        refine s_ek_bk 2 (P := 81) (ls' := [(5, .int ((b / (5 : Int32)) - (b / (5 : Int32)) / (3 : Int32) * (3 : Int32))), (4, .int (b - b / (5 : Int32) * (5 : Int32))), (3, .int r3), (0, .ref 151), (1, .int b), (2, .int c)]) (st' := [.int 1]) (M' := v_mk s3) rfl ?_
        obtain ⟨rfl, rfl⟩ := v_so h
        exact v_ret (fun _ => rfl)
    · refine v_i1t (T := 50) rfl rfl c4 ?_
      refine s_ek_bk 2 (P := 53) (ls' := [(5, .int ((b / (5 : Int32)) - (b / (5 : Int32)) / (3 : Int32) * (3 : Int32))), (4, .int (b - b / (5 : Int32) * (5 : Int32))), (3, .int r3), (0, .ref 151), (1, .int b), (2, .int c)]) (st' := [.int 1, .int ((b / (5 : Int32)) - (b / (5 : Int32)) / (3 : Int32) * (3 : Int32))]) (M' := v_mk s3) rfl ?_
      rcases v_if h with ⟨c6, h⟩ | ⟨c6, h⟩
      · refine v_i2f (T := 70) rfl rfl (fun q => q c6) ?_
        refine s_ek_bk 2 (P := 59) (ls' := [(5, .int ((b / (5 : Int32)) - (b / (5 : Int32)) / (3 : Int32) * (3 : Int32))), (4, .int (b - b / (5 : Int32) * (5 : Int32))), (3, .int r3), (0, .ref 151), (1, .int b), (2, .int c)]) (st' := [.int (b - b / (5 : Int32) * (5 : Int32)), .int r3]) (M' := v_mk s3) rfl ?_
        rcases v_if h with ⟨c7, h⟩ | ⟨c7, h⟩
        · refine v_i2f (T := 66) rfl rfl (fun q => q c7) ?_
          refine s_ek_bk 2 (P := 81) (ls' := [(5, .int ((b / (5 : Int32)) - (b / (5 : Int32)) / (3 : Int32) * (3 : Int32))), (4, .int (b - b / (5 : Int32) * (5 : Int32))), (3, .int r3), (0, .ref 151), (1, .int b), (2, .int c)]) (st' := [.int 1]) (M' := v_mk s3) rfl ?_
          obtain ⟨rfl, rfl⟩ := v_so h
          exact v_ret (fun _ => rfl)
        · refine v_i2t (T := 66) rfl rfl c7 ?_
          refine s_ek_bk 2 (P := 81) (ls' := [(5, .int ((b / (5 : Int32)) - (b / (5 : Int32)) / (3 : Int32) * (3 : Int32))), (4, .int (b - b / (5 : Int32) * (5 : Int32))), (3, .int r3), (0, .ref 151), (1, .int b), (2, .int c)]) (st' := [.int 0]) (M' := v_mk s3) rfl ?_
          obtain ⟨rfl, rfl⟩ := v_so h
          exact v_ret (fun _ => rfl)
      · refine v_i2t (T := 70) rfl rfl c6 ?_
        refine s_ek_bk 2 (P := 73) (ls' := [(5, .int ((b / (5 : Int32)) - (b / (5 : Int32)) / (3 : Int32) * (3 : Int32))), (4, .int (b - b / (5 : Int32) * (5 : Int32))), (3, .int r3), (0, .ref 151), (1, .int b), (2, .int c)]) (st' := [.int (b - b / (5 : Int32) * (5 : Int32)), .int r3]) (M' := v_mk s3) rfl ?_
        rcases v_if h with ⟨c8, h⟩ | ⟨c8, h⟩
        · refine v_i2t (T := 80) rfl rfl c8 ?_
          refine s_ek_bk 1 (P := 81) (ls' := [(5, .int ((b / (5 : Int32)) - (b / (5 : Int32)) / (3 : Int32) * (3 : Int32))), (4, .int (b - b / (5 : Int32) * (5 : Int32))), (3, .int r3), (0, .ref 151), (1, .int b), (2, .int c)]) (st' := [.int 0]) (M' := v_mk s3) rfl ?_
          obtain ⟨rfl, rfl⟩ := v_so h
          exact v_ret (fun _ => rfl)
        · refine v_i2f (T := 80) rfl rfl c8 ?_
          refine s_ek_bk 2 (P := 81) (ls' := [(5, .int ((b / (5 : Int32)) - (b / (5 : Int32)) / (3 : Int32) * (3 : Int32))), (4, .int (b - b / (5 : Int32) * (5 : Int32))), (3, .int r3), (0, .ref 151), (1, .int b), (2, .int c)]) (st' := [.int 1]) (M' := v_mk s3) rfl ?_
          obtain ⟨rfl, rfl⟩ := v_so h
          exact v_ret (fun _ => rfl)
  · refine v_i1f (T := 6) rfl rfl c1 ?_
    refine s_ek_bk 1 (P := 5) (ls' := [(0, .ref 151), (1, .int b), (2, .int c)]) (st' := [.int 1]) (M' := v_mk s) rfl ?_
    obtain ⟨rfl, rfl⟩ := v_so h
    exact v_ret (fun _ => rfl)
noncomputable def f_Md_findWording_L10b (p1 : Int32) (p2 : Int32) (k75 : vS → Option (Unit × vS)) (again : Int32 → vS → Option (Unit × vS)) (v3 : Int32) (s : vS) : Option (Unit × vS) := (if 125 ≤ v3.toInt then (k75 s) else (v_bi (f_Md_isSo p1 v3 s) (fun r103 s103 => (if r103.toInt = 0 then (if v_in ((1250 : Int32) + v3) 1375 then (v_let (v_w1 s103 171 (Int32.toNatClampNeg ((1250 : Int32) + v3)) (vp_nar .boolean 0)) (fun s106 => (again (v3 + 1) s106))) else none) else (v_bi (f_Md_isSo p2 v3 s103) (fun r107 s107 => (if r107.toInt = 0 then (if v_in ((1250 : Int32) + v3) 1375 then (v_let (v_w1 s107 171 (Int32.toNatClampNeg ((1250 : Int32) + v3)) (vp_nar .boolean 0)) (fun s110 => (again (v3 + 1) s110))) else none) else (if v_in ((1250 : Int32) + v3) 1375 then (v_let (v_w1 s107 171 (Int32.toNatClampNeg ((1250 : Int32) + v3)) (vp_nar .boolean 1)) (fun s112 => (v_let (v_w1 s112 172 10 ((s112.1 172 10) + (1 : Int32))) (fun s113 => (again (v3 + 1) s113))))) else none))))))))
noncomputable def f_Md_findWording_L10 (p1 : Int32) (p2 : Int32) (k75 : vS → Option (Unit × vS)) (n : Nat) : Int32 → vS → Option (Unit × vS) := Nat.rec (motive := fun _ => Int32 → vS → Option (Unit × vS)) (fun _ _ => none) (fun _ again => f_Md_findWording_L10b p1 p2 k75 again) n
noncomputable def f_Md_findWording (b : Int32) (c : Int32) (s : vS) : Option (Unit × vS) := (v_let (v_w1 s 172 10 0) (fun s1 => (f_Md_findWording_L10 b c (fun s2 => (some ((), s2))) 4096 0 s1)))
set_option maxRecDepth 20000 in
set_option maxHeartbeats 4000000 in
theorem t_Md_findWording_L10 {L : Nat} {xs : Nat → Int32} {p1 : Int32} {p2 : Int32} {k75 : vS → Option (Unit × vS)} {D : Nat} (hD : 2 ≤ D) {r : Unit} {s' : vS} (hk75 : ∀ (s : vS), k75 s = some (r, s') → s_Ek (s_rows 3 L xs) D s_e245.1 75 [] [] (v_mk s) (v_Q none s')) : ∀ (n : Nat) (v3 : Int32) (s : vS), f_Md_findWording_L10 p1 p2 k75 n v3 s = some (r, s') → s_Ek (s_rows 3 L xs) D s_e245.1 10 [(0, .ref 151), (1, .int p1), (2, .int p2), (3, .int v3)] [] (v_mk s) (v_Q none s') := by
  intro n
  induction n with
  | zero => intro v3 s h; exact nomatch (show (none : Option (Unit × vS)) = some (r, s') from h)
  | succ n ih =>
    intro v3 s h
    replace h : f_Md_findWording_L10b p1 p2 k75 (f_Md_findWording_L10 p1 p2 k75 n) v3 s = some (r, s') := h
    unfold f_Md_findWording_L10b at h
    refine s_ek_bk 2 (P := 13) (ls' := [(0, .ref 151), (1, .int p1), (2, .int p2), (3, .int v3)]) (st' := [.int 125, .int v3]) (M' := v_mk s) rfl ?_
    rcases v_if h with ⟨c102, h⟩ | ⟨c102, h⟩
    · refine v_i2t (T := 75) rfl rfl c102 ?_
      refine v_ls (ls' := []) trivial (show ([] : List Nat).Nodup from by decide) ?_
      exact hk75 _ h
    · refine v_i2f (T := 75) rfl rfl c102 ?_
      refine s_ek_bk 3 (P := 19) (ls' := [(0, .ref 151), (1, .int p1), (2, .int p2), (3, .int v3)]) (st' := [.int v3, .int p1, .ref 151]) (M' := v_mk s) rfl ?_
      obtain ⟨r103, s103, e103, h⟩ := v_bd h
      refine v_cV (ν := s_e244.1) (w := 1954) (a := 151) (as' := [.int p1, .int v3]) (r := []) (o := some (.int r103)) (by omega) rfl rfl rfl (v_mk_kd (k := 11) (rfl : v_kd 151 = 11) (by decide)) rfl (t_Md_isSo e103 (by omega)) ?_
      show s_Ek (s_rows 3 L xs) D s_e245.1 22 [(0, .ref 151), (1, .int p1), (2, .int p2), (3, .int v3)] [.int r103] (v_mk s103) _
      rcases v_if h with ⟨c104, h⟩ | ⟨c104, h⟩
      · refine v_i1t (T := 38) rfl rfl c104 ?_
        refine s_ek_bk 3 (P := 42) (ls' := [(4, .int 0), (0, .ref 151), (1, .int p1), (2, .int p2), (3, .int v3)]) (st' := [.ref 151]) (M' := v_mk s103) rfl ?_
        refine v_gf rfl (v_gr (rfl : v_kd 151 = 11) (rfl : v_sl 151 32 = .ref 171) ⟨rfl, rfl, by decide⟩) ?_
        refine s_ek_bk 4 (P := 52) (ls' := [(4, .int 0), (0, .ref 151), (1, .int p1), (2, .int p2), (3, .int v3)]) (st' := [.int 0, .int ((1250 : Int32) + v3), .ref 171]) (M' := v_mk s103) rfl ?_
        obtain ⟨c105, h⟩ := v_ck h
        obtain ⟨s106, es106, h⟩ := v_ld h
        refine v_zst (M' := v_mk s106) (i := ((1250 : Int32) + v3)) rfl (v_mk_kd (rfl : v_kd 171 = 16) (by decide)) (by rw [es106]; exact v_pai (rfl : v_kd 171 = 16) rfl (by decide) v_all16 (v_cn (rfl : v_ln 171 = 1375) c105)) ?_
        refine s_ek_bk 4 (P := 10) (ls' := [(3, .int (v3 + 1)), (4, .int 0), (0, .ref 151), (1, .int p1), (2, .int p2)]) (st' := []) (M' := v_mk s106) rfl ?_
        refine v_ls (ls' := [(0, .ref 151), (1, .int p1), (2, .int p2), (3, .int (v3 + 1))]) ⟨rfl, rfl, rfl, rfl, trivial⟩ (show ([0, 1, 2, 3] : List Nat).Nodup from by decide) ?_
        exact ih _ _ h
      · refine v_i1f (T := 38) rfl rfl c104 ?_
        refine s_ek_bk 3 (P := 28) (ls' := [(0, .ref 151), (1, .int p1), (2, .int p2), (3, .int v3)]) (st' := [.int v3, .int p2, .ref 151]) (M' := v_mk s103) rfl ?_
        obtain ⟨r107, s107, e107, h⟩ := v_bd h
        refine v_cV (ν := s_e244.1) (w := 1954) (a := 151) (as' := [.int p2, .int v3]) (r := []) (o := some (.int r107)) (by omega) rfl rfl rfl (v_mk_kd (k := 11) (rfl : v_kd 151 = 11) (by decide)) rfl (t_Md_isSo e107 (by omega)) ?_
        show s_Ek (s_rows 3 L xs) D s_e245.1 31 [(0, .ref 151), (1, .int p1), (2, .int p2), (3, .int v3)] [.int r107] (v_mk s107) _
        rcases v_if h with ⟨c108, h⟩ | ⟨c108, h⟩
        · refine v_i1t (T := 38) rfl rfl c108 ?_
          refine s_ek_bk 3 (P := 42) (ls' := [(4, .int 0), (0, .ref 151), (1, .int p1), (2, .int p2), (3, .int v3)]) (st' := [.ref 151]) (M' := v_mk s107) rfl ?_
          refine v_gf rfl (v_gr (rfl : v_kd 151 = 11) (rfl : v_sl 151 32 = .ref 171) ⟨rfl, rfl, by decide⟩) ?_
          refine s_ek_bk 4 (P := 52) (ls' := [(4, .int 0), (0, .ref 151), (1, .int p1), (2, .int p2), (3, .int v3)]) (st' := [.int 0, .int ((1250 : Int32) + v3), .ref 171]) (M' := v_mk s107) rfl ?_
          obtain ⟨c109, h⟩ := v_ck h
          obtain ⟨s110, es110, h⟩ := v_ld h
          refine v_zst (M' := v_mk s110) (i := ((1250 : Int32) + v3)) rfl (v_mk_kd (rfl : v_kd 171 = 16) (by decide)) (by rw [es110]; exact v_pai (rfl : v_kd 171 = 16) rfl (by decide) v_all16 (v_cn (rfl : v_ln 171 = 1375) c109)) ?_
          refine s_ek_bk 4 (P := 10) (ls' := [(3, .int (v3 + 1)), (4, .int 0), (0, .ref 151), (1, .int p1), (2, .int p2)]) (st' := []) (M' := v_mk s110) rfl ?_
          refine v_ls (ls' := [(0, .ref 151), (1, .int p1), (2, .int p2), (3, .int (v3 + 1))]) ⟨rfl, rfl, rfl, rfl, trivial⟩ (show ([0, 1, 2, 3] : List Nat).Nodup from by decide) ?_
          exact ih _ _ h
        · refine v_i1f (T := 38) rfl rfl c108 ?_
          refine s_ek_bk 4 (P := 42) (ls' := [(4, .int 1), (0, .ref 151), (1, .int p1), (2, .int p2), (3, .int v3)]) (st' := [.ref 151]) (M' := v_mk s107) rfl ?_
          refine v_gf rfl (v_gr (rfl : v_kd 151 = 11) (rfl : v_sl 151 32 = .ref 171) ⟨rfl, rfl, by decide⟩) ?_
          refine s_ek_bk 4 (P := 52) (ls' := [(4, .int 1), (0, .ref 151), (1, .int p1), (2, .int p2), (3, .int v3)]) (st' := [.int 1, .int ((1250 : Int32) + v3), .ref 171]) (M' := v_mk s107) rfl ?_
          obtain ⟨c111, h⟩ := v_ck h
          obtain ⟨s112, es112, h⟩ := v_ld h
          refine v_zst (M' := v_mk s112) (i := ((1250 : Int32) + v3)) rfl (v_mk_kd (rfl : v_kd 171 = 16) (by decide)) (by rw [es112]; exact v_pai (rfl : v_kd 171 = 16) rfl (by decide) v_all16 (v_cn (rfl : v_ln 171 = 1375) c111)) ?_
          refine s_ek_bk 3 (P := 59) (ls' := [(4, .int 1), (0, .ref 151), (1, .int p1), (2, .int p2), (3, .int v3)]) (st' := [.ref 151]) (M' := v_mk s112) rfl ?_
          refine v_gf rfl (v_gr (rfl : v_kd 151 = 11) (rfl : v_sl 151 33 = .ref 172) ⟨rfl, rfl, by decide⟩) ?_
          refine s_ek_bk 2 (P := 65) (ls' := [(4, .int 1), (0, .ref 151), (1, .int p1), (2, .int p2), (3, .int v3)]) (st' := [.int 10, .ref 172, .int 10, .ref 172]) (M' := v_mk s112) rfl ?_
          refine v_ia (i := 10) rfl (v_ai (rfl : v_kd 172 = 13) rfl (by decide) v_all13 (v_cn (rfl : v_ln 172 = 11) (by decide : v_in 10 11))) ?_
          show s_Ek (s_rows 3 L xs) D s_e245.1 66 [(4, .int 1), (0, .ref 151), (1, .int p1), (2, .int p2), (3, .int v3)] [.int (s112.1 172 10), .int 10, .ref 172] (v_mk s112) _
          refine s_ek_bk 2 (P := 68) (ls' := [(4, .int 1), (0, .ref 151), (1, .int p1), (2, .int p2), (3, .int v3)]) (st' := [.int ((s112.1 172 10) + (1 : Int32)), .int 10, .ref 172]) (M' := v_mk s112) rfl ?_
          obtain ⟨s113, es113, h⟩ := v_ld h
          refine v_ist (M' := v_mk s113) (i := 10) rfl (by rw [es113]; exact v_pai (rfl : v_kd 172 = 13) rfl (by decide) v_all13 (v_cn (rfl : v_ln 172 = 11) (by decide : v_in 10 11))) ?_
          refine s_ek_bk 2 (P := 10) (ls' := [(3, .int (v3 + 1)), (4, .int 1), (0, .ref 151), (1, .int p1), (2, .int p2)]) (st' := []) (M' := v_mk s113) rfl ?_
          refine v_ls (ls' := [(0, .ref 151), (1, .int p1), (2, .int p2), (3, .int (v3 + 1))]) ⟨rfl, rfl, rfl, rfl, trivial⟩ (show ([0, 1, 2, 3] : List Nat).Nodup from by decide) ?_
          exact ih _ _ h
set_option maxRecDepth 20000 in
set_option maxHeartbeats 4000000 in
theorem t_Md_findWording {L : Nat} {xs : Nat → Int32} {b : Int32} {c : Int32} {D : Nat} {r : Unit} {s s' : vS} (h : f_Md_findWording b c s = some (r, s')) (hD : 2 ≤ D) : s_Ek (s_rows 3 L xs) D s_e245.1 0 (lv_args 0 [.ref 151, .int b, .int c]) [] (v_mk s) (v_Q none s') := by
  unfold f_Md_findWording at h
  show s_Ek (s_rows 3 L xs) D s_e245.1 0 [(0, .ref 151), (1, .int b), (2, .int c)] [] (v_mk s) _
  refine s_ek_bk 1 (P := 1) (ls' := [(0, .ref 151), (1, .int b), (2, .int c)]) (st' := [.ref 151]) (M' := v_mk s) rfl ?_
  refine v_gf rfl (v_gr (rfl : v_kd 151 = 11) (rfl : v_sl 151 33 = .ref 172) ⟨rfl, rfl, by decide⟩) ?_
  refine s_ek_bk 2 (P := 7) (ls' := [(0, .ref 151), (1, .int b), (2, .int c)]) (st' := [.int 0, .int 10, .ref 172]) (M' := v_mk s) rfl ?_
  obtain ⟨s1, es1, h⟩ := v_ld h
  refine v_ist (M' := v_mk s1) (i := 10) rfl (by rw [es1]; exact v_pai (rfl : v_kd 172 = 13) rfl (by decide) v_all13 (v_cn (rfl : v_ln 172 = 11) (by decide : v_in 10 11))) ?_
  refine s_ek_bk 2 (P := 10) (ls' := [(3, .int 0), (0, .ref 151), (1, .int b), (2, .int c)]) (st' := []) (M' := v_mk s1) rfl ?_
  refine v_ls (ls' := [(0, .ref 151), (1, .int b), (2, .int c), (3, .int 0)]) ⟨rfl, rfl, rfl, rfl, trivial⟩ (show ([0, 1, 2, 3] : List Nat).Nodup from by decide) ?_
  refine t_Md_findWording_L10 (by omega) (fun s2 h => ?_) 4096 _ _ h
  show s_Ek (s_rows 3 L xs) D s_e245.1 75 [] [] (v_mk s2) _
  obtain ⟨rfl, rfl⟩ := v_so h
  exact v_ret (fun _ => rfl)
noncomputable def f_Md_verdictWith (b : Int32) (s : vS) : Option (Int32 × vS) := (v_bi (f_Md_holder b (s.1 151 18) s) (fun r1 s1 => (if v_in ((1250 : Int32) + b) 1375 then (if (s1.1 171 (Int32.toNatClampNeg ((1250 : Int32) + b))).toInt = 0 then (if 0 ≤ r1.toInt then (if v_in r1 11 then (some ((s1.1 161 (Int32.toNatClampNeg r1)), s1)) else none) else (some ((-2), s1))) else (if r1.toInt < 0 then (some ((s1.1 161 10), s1)) else (v_bi (f_Md_isAhead 10 r1 (s1.1 151 18) s1) (fun r7 s7 => (if r7.toInt = 0 then (if 0 ≤ r1.toInt then (if v_in r1 11 then (some ((s7.1 161 (Int32.toNatClampNeg r1)), s7)) else none) else (some ((-2), s7))) else (some ((s7.1 161 10), s7))))))) else none)))
set_option maxRecDepth 20000 in
set_option maxHeartbeats 4000000 in
theorem t_Md_verdictWith {L : Nat} {xs : Nat → Int32} {b : Int32} {D : Nat} {r : Int32} {s s' : vS} (h : f_Md_verdictWith b s = some (r, s')) (hD : 4 ≤ D) : s_Ek (s_rows 3 L xs) D s_e246.1 0 (lv_args 0 [.ref 151, .int b]) [] (v_mk s) (v_Q (some (.int r)) s') := by
  unfold f_Md_verdictWith at h
  show s_Ek (s_rows 3 L xs) D s_e246.1 0 [(0, .ref 151), (1, .int b)] [] (v_mk s) _
  refine s_ek_bk 3 (P := 3) (ls' := [(0, .ref 151), (1, .int b)]) (st' := [.ref 151, .int b, .ref 151]) (M' := v_mk s) rfl ?_
  refine v_gf rfl (v_gi (rfl : v_kd 151 = 11) rfl ⟨rfl, rfl, by decide⟩) ?_
  obtain ⟨r1, s1, e1, h⟩ := v_bd h
  refine v_cV (ν := s_e232.1) (w := 1858) (a := 151) (as' := [.int b, .int (s.1 151 18)]) (r := []) (o := some (.int r1)) (by omega) rfl rfl rfl (v_mk_kd (k := 11) (rfl : v_kd 151 = 11) (by decide)) rfl (t_Md_holder e1 (by omega)) ?_
  show s_Ek (s_rows 3 L xs) D s_e246.1 9 [(0, .ref 151), (1, .int b)] [.int r1] (v_mk s1) _
  refine s_ek_bk 2 (P := 11) (ls' := [(2, .int r1), (0, .ref 151), (1, .int b)]) (st' := [.ref 151]) (M' := v_mk s1) rfl ?_
  refine v_gf rfl (v_gr (rfl : v_kd 151 = 11) (rfl : v_sl 151 32 = .ref 171) ⟨rfl, rfl, by decide⟩) ?_
  refine s_ek_bk 3 (P := 19) (ls' := [(2, .int r1), (0, .ref 151), (1, .int b)]) (st' := [.int ((1250 : Int32) + b), .ref 171]) (M' := v_mk s1) rfl ?_
  obtain ⟨c2, h⟩ := v_ck h
  refine v_ba (i := ((1250 : Int32) + b)) rfl (v_ai (rfl : v_kd 171 = 16) rfl (by decide) v_all16 (v_cn (rfl : v_ln 171 = 1375) c2)) ?_
  rcases v_if h with ⟨c3, h⟩ | ⟨c3, h⟩
  · refine v_i1t (T := 44) rfl rfl c3 ?_
    refine s_ek_bk 1 (P := 45) (ls' := [(2, .int r1), (0, .ref 151), (1, .int b)]) (st' := [.int r1]) (M' := v_mk s1) rfl ?_
    rcases v_if h with ⟨c4, h⟩ | ⟨c4, h⟩
    · refine v_i1t (T := 53) rfl rfl c4 ?_
      refine s_ek_bk 1 (P := 54) (ls' := [(2, .int r1), (0, .ref 151), (1, .int b)]) (st' := [.ref 151]) (M' := v_mk s1) rfl ?_
      refine v_gf rfl (v_gr (rfl : v_kd 151 = 11) (rfl : v_sl 151 16 = .ref 161) ⟨rfl, rfl, by decide⟩) ?_
      refine s_ek_bk 1 (P := 58) (ls' := [(2, .int r1), (0, .ref 151), (1, .int b)]) (st' := [.int r1, .ref 161]) (M' := v_mk s1) rfl ?_
      obtain ⟨c5, h⟩ := v_ck h
      refine v_ia (i := r1) rfl (v_ai (rfl : v_kd 161 = 13) rfl (by decide) v_all13 (v_cn (rfl : v_ln 161 = 11) c5)) ?_
      obtain ⟨rfl, rfl⟩ := v_so h
      exact v_ret (fun _ => rfl)
    · refine v_i1f (T := 53) rfl rfl c4 ?_
      refine s_ek_bk 2 (P := 59) (ls' := [(2, .int r1), (0, .ref 151), (1, .int b)]) (st' := [.int (-2)]) (M' := v_mk s1) rfl ?_
      obtain ⟨rfl, rfl⟩ := v_so h
      exact v_ret (fun _ => rfl)
  · refine v_i1f (T := 44) rfl rfl c3 ?_
    refine s_ek_bk 1 (P := 24) (ls' := [(2, .int r1), (0, .ref 151), (1, .int b)]) (st' := [.int r1]) (M' := v_mk s1) rfl ?_
    rcases v_if h with ⟨c6, h⟩ | ⟨c6, h⟩
    · refine v_i1t (T := 41) rfl rfl c6 ?_
      refine s_ek_bk 5 (P := 54) (ls' := [(2, .int 10), (0, .ref 151), (1, .int b)]) (st' := [.ref 151]) (M' := v_mk s1) rfl ?_
      refine v_gf rfl (v_gr (rfl : v_kd 151 = 11) (rfl : v_sl 151 16 = .ref 161) ⟨rfl, rfl, by decide⟩) ?_
      refine s_ek_bk 1 (P := 58) (ls' := [(2, .int 10), (0, .ref 151), (1, .int b)]) (st' := [.int 10, .ref 161]) (M' := v_mk s1) rfl ?_
      refine v_ia (i := 10) rfl (v_ai (rfl : v_kd 161 = 13) rfl (by decide) v_all13 (v_cn (rfl : v_ln 161 = 11) (by decide : v_in 10 11))) ?_
      show s_Ek (s_rows 3 L xs) D s_e246.1 59 [(2, .int 10), (0, .ref 151), (1, .int b)] [.int (s1.1 161 10)] (v_mk s1) _
      obtain ⟨rfl, rfl⟩ := v_so h
      exact v_ret (fun _ => rfl)
    · refine v_i1f (T := 41) rfl rfl c6 ?_
      refine s_ek_bk 4 (P := 32) (ls' := [(2, .int r1), (0, .ref 151), (1, .int b)]) (st' := [.ref 151, .int r1, .int 10, .ref 151]) (M' := v_mk s1) rfl ?_
      refine v_gf rfl (v_gi (rfl : v_kd 151 = 11) rfl ⟨rfl, rfl, by decide⟩) ?_
      obtain ⟨r7, s7, e7, h⟩ := v_bd h
      refine v_cV (ν := s_e231.1) (w := 1851) (a := 151) (as' := [.int 10, .int r1, .int (s1.1 151 18)]) (r := []) (o := some (.int r7)) (by omega) rfl rfl rfl (v_mk_kd (k := 11) (rfl : v_kd 151 = 11) (by decide)) rfl (t_Md_isAhead e7 (by omega)) ?_
      show s_Ek (s_rows 3 L xs) D s_e246.1 38 [(2, .int r1), (0, .ref 151), (1, .int b)] [.int r7] (v_mk s7) _
      rcases v_if h with ⟨c8, h⟩ | ⟨c8, h⟩
      · refine v_i1t (T := 44) rfl rfl c8 ?_
        refine s_ek_bk 1 (P := 45) (ls' := [(2, .int r1), (0, .ref 151), (1, .int b)]) (st' := [.int r1]) (M' := v_mk s7) rfl ?_
        rcases v_if h with ⟨c9, h⟩ | ⟨c9, h⟩
        · refine v_i1t (T := 53) rfl rfl c9 ?_
          refine s_ek_bk 1 (P := 54) (ls' := [(2, .int r1), (0, .ref 151), (1, .int b)]) (st' := [.ref 151]) (M' := v_mk s7) rfl ?_
          refine v_gf rfl (v_gr (rfl : v_kd 151 = 11) (rfl : v_sl 151 16 = .ref 161) ⟨rfl, rfl, by decide⟩) ?_
          refine s_ek_bk 1 (P := 58) (ls' := [(2, .int r1), (0, .ref 151), (1, .int b)]) (st' := [.int r1, .ref 161]) (M' := v_mk s7) rfl ?_
          obtain ⟨c10, h⟩ := v_ck h
          refine v_ia (i := r1) rfl (v_ai (rfl : v_kd 161 = 13) rfl (by decide) v_all13 (v_cn (rfl : v_ln 161 = 11) c10)) ?_
          obtain ⟨rfl, rfl⟩ := v_so h
          exact v_ret (fun _ => rfl)
        · refine v_i1f (T := 53) rfl rfl c9 ?_
          refine s_ek_bk 2 (P := 59) (ls' := [(2, .int r1), (0, .ref 151), (1, .int b)]) (st' := [.int (-2)]) (M' := v_mk s7) rfl ?_
          obtain ⟨rfl, rfl⟩ := v_so h
          exact v_ret (fun _ => rfl)
      · refine v_i1f (T := 44) rfl rfl c8 ?_
        refine s_ek_bk 5 (P := 54) (ls' := [(2, .int 10), (0, .ref 151), (1, .int b)]) (st' := [.ref 151]) (M' := v_mk s7) rfl ?_
        refine v_gf rfl (v_gr (rfl : v_kd 151 = 11) (rfl : v_sl 151 16 = .ref 161) ⟨rfl, rfl, by decide⟩) ?_
        refine s_ek_bk 1 (P := 58) (ls' := [(2, .int 10), (0, .ref 151), (1, .int b)]) (st' := [.int 10, .ref 161]) (M' := v_mk s7) rfl ?_
        refine v_ia (i := 10) rfl (v_ai (rfl : v_kd 161 = 13) rfl (by decide) v_all13 (v_cn (rfl : v_ln 161 = 11) (by decide : v_in 10 11))) ?_
        show s_Ek (s_rows 3 L xs) D s_e246.1 59 [(2, .int 10), (0, .ref 151), (1, .int b)] [.int (s7.1 161 10)] (v_mk s7) _
        obtain ⟨rfl, rfl⟩ := v_so h
        exact v_ret (fun _ => rfl)
noncomputable def f_Md_isRowSo_L2b (p1 : Int32) (k45 : vS → Option (Int32 × vS)) (k53 : vS → Option (Int32 × vS)) (again : Int32 → vS → Option (Int32 × vS)) (v2 : Int32) (s : vS) : Option (Int32 × vS) := (if v_in p1 6 then (if (s.1 182 (Int32.toNatClampNeg p1)).toInt ≤ ((2 : Int32) * v2).toInt then (k53 s) else (v_bi (f_Md_isTwo p1 v2 s) (fun r103 s103 => (if r103.toInt = 0 then (k45 s103) else (v_bi (f_Md_caseAt p1 v2 s103) (fun r105 s105 => (v_bi (f_Md_caseOf r105 s105) (fun r106 s106 => (v_bi (f_Md_verdictWith r106 s106) (fun r107 s107 => (v_bi (f_Md_dueAt p1 v2 s107) (fun r108 s108 => (if r107.toInt = r108.toInt then (again (v2 + 1) s108) else (k45 s108)))))))))))))) else none)
noncomputable def f_Md_isRowSo_L2 (p1 : Int32) (k45 : vS → Option (Int32 × vS)) (k53 : vS → Option (Int32 × vS)) (n : Nat) : Int32 → vS → Option (Int32 × vS) := Nat.rec (motive := fun _ => Int32 → vS → Option (Int32 × vS)) (fun _ _ => none) (fun _ again => f_Md_isRowSo_L2b p1 k45 k53 again) n
noncomputable def f_Md_isRowSo (b : Int32) (s : vS) : Option (Int32 × vS) := (f_Md_isRowSo_L2 b (fun s1 => (some (0, s1))) (fun s2 => (some (1, s2))) 4096 0 s)
set_option maxRecDepth 20000 in
set_option maxHeartbeats 4000000 in
theorem t_Md_isRowSo_L2 {L : Nat} {xs : Nat → Int32} {p1 : Int32} {k45 : vS → Option (Int32 × vS)} {k53 : vS → Option (Int32 × vS)} {D : Nat} (hD : 5 ≤ D) {r : Int32} {s' : vS} (hk45 : ∀ (s : vS), k45 s = some (r, s') → s_Ek (s_rows 3 L xs) D s_e247.1 45 [] [] (v_mk s) (v_Q (some (.int r)) s')) (hk53 : ∀ (s : vS), k53 s = some (r, s') → s_Ek (s_rows 3 L xs) D s_e247.1 53 [] [] (v_mk s) (v_Q (some (.int r)) s')) : ∀ (n : Nat) (v2 : Int32) (s : vS), f_Md_isRowSo_L2 p1 k45 k53 n v2 s = some (r, s') → s_Ek (s_rows 3 L xs) D s_e247.1 2 [(0, .ref 151), (1, .int p1), (2, .int v2)] [] (v_mk s) (v_Q (some (.int r)) s') := by
  intro n
  induction n with
  | zero => intro v2 s h; exact nomatch (show (none : Option (Int32 × vS)) = some (r, s') from h)
  | succ n ih =>
    intro v2 s h
    replace h : f_Md_isRowSo_L2b p1 k45 k53 (f_Md_isRowSo_L2 p1 k45 k53 n) v2 s = some (r, s') := h
    unfold f_Md_isRowSo_L2b at h
    refine s_ek_bk 4 (P := 6) (ls' := [(0, .ref 151), (1, .int p1), (2, .int v2)]) (st' := [.ref 151, .int ((2 : Int32) * v2)]) (M' := v_mk s) rfl ?_
    refine v_gf rfl (v_gr (rfl : v_kd 151 = 11) (rfl : v_sl 151 47 = .ref 182) ⟨rfl, rfl, by decide⟩) ?_
    refine s_ek_bk 1 (P := 10) (ls' := [(0, .ref 151), (1, .int p1), (2, .int v2)]) (st' := [.int p1, .ref 182, .int ((2 : Int32) * v2)]) (M' := v_mk s) rfl ?_
    obtain ⟨c101, h⟩ := v_ck h
    refine v_ia (i := p1) rfl (v_ai (rfl : v_kd 182 = 13) rfl (by decide) v_all13 (v_cn (rfl : v_ln 182 = 6) c101)) ?_
    rcases v_if h with ⟨c102, h⟩ | ⟨c102, h⟩
    · refine v_i2t (T := 53) rfl rfl c102 ?_
      refine v_ls (ls' := []) trivial (show ([] : List Nat).Nodup from by decide) ?_
      exact hk53 _ h
    · refine v_i2f (T := 53) rfl rfl c102 ?_
      refine s_ek_bk 3 (P := 17) (ls' := [(0, .ref 151), (1, .int p1), (2, .int v2)]) (st' := [.int v2, .int p1, .ref 151]) (M' := v_mk s) rfl ?_
      obtain ⟨r103, s103, e103, h⟩ := v_bd h
      refine v_cV (ν := s_e239.1) (w := 1914) (a := 151) (as' := [.int p1, .int v2]) (r := []) (o := some (.int r103)) (by omega) rfl rfl rfl (v_mk_kd (k := 11) (rfl : v_kd 151 = 11) (by decide)) rfl (t_Md_isTwo e103 (by omega)) ?_
      show s_Ek (s_rows 3 L xs) D s_e247.1 20 [(0, .ref 151), (1, .int p1), (2, .int v2)] [.int r103] (v_mk s103) _
      rcases v_if h with ⟨c104, h⟩ | ⟨c104, h⟩
      · refine v_i1t (T := 45) rfl rfl c104 ?_
        refine v_ls (ls' := []) trivial (show ([] : List Nat).Nodup from by decide) ?_
        exact hk45 _ h
      · refine v_i1f (T := 45) rfl rfl c104 ?_
        refine s_ek_bk 4 (P := 27) (ls' := [(0, .ref 151), (1, .int p1), (2, .int v2)]) (st' := [.int v2, .int p1, .ref 151, .ref 151]) (M' := v_mk s103) rfl ?_
        obtain ⟨r105, s105, e105, h⟩ := v_bd h
        refine v_cV (ν := s_e237.1) (w := 1898) (a := 151) (as' := [.int p1, .int v2]) (r := [.ref 151]) (o := some (.int r105)) (by omega) rfl rfl rfl (v_mk_kd (k := 11) (rfl : v_kd 151 = 11) (by decide)) rfl (t_Md_caseAt e105 (by omega)) ?_
        show s_Ek (s_rows 3 L xs) D s_e247.1 30 [(0, .ref 151), (1, .int p1), (2, .int v2)] [.int r105, .ref 151] (v_mk s105) _
        obtain ⟨r106, s106, e106, h⟩ := v_bd h
        refine v_cS (ν := s_e224.1) (w := 1793) (as := [.int r105]) (r := [.ref 151]) (o := some (.int r106)) (by omega) rfl rfl rfl rfl (t_Md_caseOf e106 (by omega)) ?_
        show s_Ek (s_rows 3 L xs) D s_e247.1 33 [(0, .ref 151), (1, .int p1), (2, .int v2)] [.int r106, .ref 151] (v_mk s106) _
        obtain ⟨r107, s107, e107, h⟩ := v_bd h
        refine v_cV (ν := s_e246.1) (w := 1969) (a := 151) (as' := [.int r106]) (r := []) (o := some (.int r107)) (by omega) rfl rfl rfl (v_mk_kd (k := 11) (rfl : v_kd 151 = 11) (by decide)) rfl (t_Md_verdictWith e107 (by omega)) ?_
        show s_Ek (s_rows 3 L xs) D s_e247.1 36 [(0, .ref 151), (1, .int p1), (2, .int v2)] [.int r107] (v_mk s107) _
        refine s_ek_bk 3 (P := 39) (ls' := [(0, .ref 151), (1, .int p1), (2, .int v2)]) (st' := [.int v2, .int p1, .ref 151, .int r107]) (M' := v_mk s107) rfl ?_
        obtain ⟨r108, s108, e108, h⟩ := v_bd h
        refine v_cV (ν := s_e238.1) (w := 1906) (a := 151) (as' := [.int p1, .int v2]) (r := [.int r107]) (o := some (.int r108)) (by omega) rfl rfl rfl (v_mk_kd (k := 11) (rfl : v_kd 151 = 11) (by decide)) rfl (t_Md_dueAt e108 (by omega)) ?_
        show s_Ek (s_rows 3 L xs) D s_e247.1 42 [(0, .ref 151), (1, .int p1), (2, .int v2)] [.int r108, .int r107] (v_mk s108) _
        rcases v_if h with ⟨c109, h⟩ | ⟨c109, h⟩
        · refine v_i2t (T := 47) rfl rfl c109 ?_
          refine s_ek_bk 2 (P := 2) (ls' := [(2, .int (v2 + 1)), (0, .ref 151), (1, .int p1)]) (st' := []) (M' := v_mk s108) rfl ?_
          refine v_ls (ls' := [(0, .ref 151), (1, .int p1), (2, .int (v2 + 1))]) ⟨rfl, rfl, rfl, trivial⟩ (show ([0, 1, 2] : List Nat).Nodup from by decide) ?_
          exact ih _ _ h
        · refine v_i2f (T := 47) rfl rfl c109 ?_
          refine v_ls (ls' := []) trivial (show ([] : List Nat).Nodup from by decide) ?_
          exact hk45 _ h
set_option maxRecDepth 20000 in
set_option maxHeartbeats 4000000 in
theorem t_Md_isRowSo {L : Nat} {xs : Nat → Int32} {b : Int32} {D : Nat} {r : Int32} {s s' : vS} (h : f_Md_isRowSo b s = some (r, s')) (hD : 5 ≤ D) : s_Ek (s_rows 3 L xs) D s_e247.1 0 (lv_args 0 [.ref 151, .int b]) [] (v_mk s) (v_Q (some (.int r)) s') := by
  unfold f_Md_isRowSo at h
  show s_Ek (s_rows 3 L xs) D s_e247.1 0 [(0, .ref 151), (1, .int b)] [] (v_mk s) _
  refine s_ek_bk 2 (P := 2) (ls' := [(2, .int 0), (0, .ref 151), (1, .int b)]) (st' := []) (M' := v_mk s) rfl ?_
  refine v_ls (ls' := [(0, .ref 151), (1, .int b), (2, .int 0)]) ⟨rfl, rfl, rfl, trivial⟩ (show ([0, 1, 2] : List Nat).Nodup from by decide) ?_
  refine t_Md_isRowSo_L2 (by omega) (fun s1 h => ?_) (fun s2 h => ?_) 4096 _ _ h
  · show s_Ek (s_rows 3 L xs) D s_e247.1 45 [] [] (v_mk s1) _
    refine s_ek_bk 1 (P := 46) (ls' := []) (st' := [.int 0]) (M' := v_mk s1) rfl ?_
    obtain ⟨rfl, rfl⟩ := v_so h
    exact v_ret (fun _ => rfl)
  · show s_Ek (s_rows 3 L xs) D s_e247.1 53 [] [] (v_mk s2) _
    refine s_ek_bk 1 (P := 54) (ls' := []) (st' := [.int 1]) (M' := v_mk s2) rfl ?_
    obtain ⟨rfl, rfl⟩ := v_so h
    exact v_ret (fun _ => rfl)
noncomputable def f_Md_writes (b : Int32) (c : Int32) (s : vS) : Option (Unit × vS) := (v_let (v_w1 s 160 10 b) (fun s1 => (v_let (v_w1 s1 161 10 c) (fun s2 => (v_bi (f_Md_findAll s2) (fun _ s3 => (some ((), s3))))))))
set_option maxRecDepth 20000 in
set_option maxHeartbeats 4000000 in
theorem t_Md_writes {L : Nat} {xs : Nat → Int32} {b : Int32} {c : Int32} {D : Nat} {r : Unit} {s s' : vS} (h : f_Md_writes b c s = some (r, s')) (hD : 6 ≤ D) : s_Ek (s_rows 3 L xs) D s_e248.1 0 (lv_args 0 [.ref 151, .int b, .int c]) [] (v_mk s) (v_Q none s') := by
  unfold f_Md_writes at h
  show s_Ek (s_rows 3 L xs) D s_e248.1 0 [(0, .ref 151), (1, .int b), (2, .int c)] [] (v_mk s) _
  refine s_ek_bk 1 (P := 1) (ls' := [(0, .ref 151), (1, .int b), (2, .int c)]) (st' := [.ref 151]) (M' := v_mk s) rfl ?_
  refine v_gf rfl (v_gr (rfl : v_kd 151 = 11) (rfl : v_sl 151 15 = .ref 160) ⟨rfl, rfl, by decide⟩) ?_
  refine s_ek_bk 2 (P := 7) (ls' := [(0, .ref 151), (1, .int b), (2, .int c)]) (st' := [.int b, .int 10, .ref 160]) (M' := v_mk s) rfl ?_
  obtain ⟨s1, es1, h⟩ := v_ld h
  refine v_ist (M' := v_mk s1) (i := 10) rfl (by rw [es1]; exact v_pai (rfl : v_kd 160 = 13) rfl (by decide) v_all13 (v_cn (rfl : v_ln 160 = 11) (by decide : v_in 10 11))) ?_
  refine s_ek_bk 1 (P := 9) (ls' := [(0, .ref 151), (1, .int b), (2, .int c)]) (st' := [.ref 151]) (M' := v_mk s1) rfl ?_
  refine v_gf rfl (v_gr (rfl : v_kd 151 = 11) (rfl : v_sl 151 16 = .ref 161) ⟨rfl, rfl, by decide⟩) ?_
  refine s_ek_bk 2 (P := 15) (ls' := [(0, .ref 151), (1, .int b), (2, .int c)]) (st' := [.int c, .int 10, .ref 161]) (M' := v_mk s1) rfl ?_
  obtain ⟨s2, es2, h⟩ := v_ld h
  refine v_ist (M' := v_mk s2) (i := 10) rfl (by rw [es2]; exact v_pai (rfl : v_kd 161 = 13) rfl (by decide) v_all13 (v_cn (rfl : v_ln 161 = 11) (by decide : v_in 10 11))) ?_
  refine s_ek_bk 1 (P := 17) (ls' := [(0, .ref 151), (1, .int b), (2, .int c)]) (st' := [.ref 151]) (M' := v_mk s2) rfl ?_
  obtain ⟨r3, s3, e3, h⟩ := v_bd h
  refine v_cV (ν := s_e223.1) (w := 1784) (a := 151) (as' := []) (r := []) (o := none) (by omega) rfl rfl rfl (v_mk_kd (k := 11) (rfl : v_kd 151 = 11) (by decide)) rfl (t_Md_findAll e3 (by omega)) ?_
  show s_Ek (s_rows 3 L xs) D s_e248.1 20 [(0, .ref 151), (1, .int b), (2, .int c)] [] (v_mk s3) _
  obtain ⟨rfl, rfl⟩ := v_so h
  exact v_ret (fun _ => rfl)
noncomputable def f_Md_write_L67b (p1 : Int32) (k103 : vS → Option (Int32 × vS)) (again : Int32 → vS → Option (Int32 × vS)) (v4 : Int32) (s : vS) : Option (Int32 × vS) := (if 45 ≤ v4.toInt then (k103 s) else (v_bi (f_Md_findWording v4 (-1) s) (fun _ s114 => (v_bi (f_Md_isRowSo p1 s114) (fun r115 s115 => (if r115.toInt = 0 then (again (v4 + 1) s115) else (some (((100 : Int32) * (v4 + (1 : Int32))), s115))))))))
noncomputable def f_Md_write_L67 (p1 : Int32) (k103 : vS → Option (Int32 × vS)) (n : Nat) : Int32 → vS → Option (Int32 × vS) := Nat.rec (motive := fun _ => Int32 → vS → Option (Int32 × vS)) (fun _ _ => none) (fun _ again => f_Md_write_L67b p1 k103 again) n
noncomputable def f_Md_write_L119b (p1 : Int32) (p4 : Int32) (k161 : vS → Option (Int32 × vS)) (again : Int32 → vS → Option (Int32 × vS)) (v5 : Int32) (s : vS) : Option (Int32 × vS) := (if 45 ≤ v5.toInt then (k161 s) else (v_bi (f_Md_findWording p4 v5 s) (fun _ s516 => (v_bi (f_Md_isRowSo p1 s516) (fun r517 s517 => (if r517.toInt = 0 then (again (v5 + 1) s517) else (some (((((100 : Int32) * (p4 + (1 : Int32))) + v5) + (1 : Int32)), s517))))))))
noncomputable def f_Md_write_L119 (p1 : Int32) (p4 : Int32) (k161 : vS → Option (Int32 × vS)) (n : Nat) : Int32 → vS → Option (Int32 × vS) := Nat.rec (motive := fun _ => Int32 → vS → Option (Int32 × vS)) (fun _ _ => none) (fun _ again => f_Md_write_L119b p1 p4 k161 again) n
noncomputable def f_Md_write_L106b (p1 : Int32) (k167 : vS → Option (Int32 × vS)) (again : Int32 → vS → Option (Int32 × vS)) (v4 : Int32) (s : vS) : Option (Int32 × vS) := (if 45 ≤ v4.toInt then (k167 s) else (f_Md_write_L119 p1 v4 (fun s215 => (again (v4 + 1) s215)) 4096 (v4 + (1 : Int32)) s))
noncomputable def f_Md_write_L106 (p1 : Int32) (k167 : vS → Option (Int32 × vS)) (n : Nat) : Int32 → vS → Option (Int32 × vS) := Nat.rec (motive := fun _ => Int32 → vS → Option (Int32 × vS)) (fun _ _ => none) (fun _ again => f_Md_write_L106b p1 k167 again) n
noncomputable def f_Md_write (b : Int32) (c : Int32) (d : Int32) (s : vS) : Option (Int32 × vS) := (v_bi (f_Md_isShelf b s) (fun r1 s1 => (if r1.toInt = 0 then (some ((-1), s1)) else (v_bi (f_Md_in c 0 99 s1) (fun r3 s3 => (if r3.toInt = 0 then (some ((-1), s3)) else (v_bi (f_Md_in d 0 2 s3) (fun r5 s5 => (if r5.toInt = 0 then (some ((-1), s5)) else (v_bi (f_Md_rowFault b s5) (fun r7 s7 => (if 0 ≤ r7.toInt then (v_bi (f_Md_writes c d s7) (fun _ s9 => (v_bi (f_Md_findWording (-1) (-1) s9) (fun _ s10 => (v_bi (f_Md_isRowSo b s10) (fun r11 s11 => (if r11.toInt = 0 then (f_Md_write_L67 b (fun s13 => (f_Md_write_L106 b (fun s14 => (some ((-2), s14))) 4096 0 s13)) 4096 0 s11) else (some (0, s11))))))))) else (v_bi (f_Md_rowFault b s7) (fun r15 s15 => (some (r15, s15))))))))))))))))
set_option maxRecDepth 20000 in
set_option maxHeartbeats 4000000 in
theorem t_Md_write_L67 {L : Nat} {xs : Nat → Int32} {p1 : Int32} {k103 : vS → Option (Int32 × vS)} {D : Nat} (hD : 7 ≤ D) {r : Int32} {s' : vS} (hk103 : ∀ (s : vS), k103 s = some (r, s') → s_Ek (s_rows 3 L xs) D s_e249.1 103 [(0, .ref 151), (1, .int p1)] [] (v_mk s) (v_Q (some (.int r)) s')) : ∀ (n : Nat) (v4 : Int32) (s : vS), f_Md_write_L67 p1 k103 n v4 s = some (r, s') → s_Ek (s_rows 3 L xs) D s_e249.1 67 [(0, .ref 151), (1, .int p1), (4, .int v4)] [] (v_mk s) (v_Q (some (.int r)) s') := by
  intro n
  induction n with
  | zero => intro v4 s h; exact nomatch (show (none : Option (Int32 × vS)) = some (r, s') from h)
  | succ n ih =>
    intro v4 s h
    replace h : f_Md_write_L67b p1 k103 (f_Md_write_L67 p1 k103 n) v4 s = some (r, s') := h
    unfold f_Md_write_L67b at h
    refine s_ek_bk 2 (P := 71) (ls' := [(0, .ref 151), (1, .int p1), (4, .int v4)]) (st' := [.int 45, .int v4]) (M' := v_mk s) rfl ?_
    rcases v_if h with ⟨c113, h⟩ | ⟨c113, h⟩
    · refine v_i2t (T := 103) rfl rfl c113 ?_
      refine v_ls (ls' := [(0, .ref 151), (1, .int p1)]) ⟨rfl, rfl, trivial⟩ (show ([0, 1] : List Nat).Nodup from by decide) ?_
      exact hk103 _ h
    · refine v_i2f (T := 103) rfl rfl c113 ?_
      refine s_ek_bk 3 (P := 78) (ls' := [(0, .ref 151), (1, .int p1), (4, .int v4)]) (st' := [.int (-1), .int v4, .ref 151]) (M' := v_mk s) rfl ?_
      obtain ⟨r114, s114, e114, h⟩ := v_bd h
      refine v_cV (ν := s_e245.1) (w := 1962) (a := 151) (as' := [.int v4, .int (-1)]) (r := []) (o := none) (by omega) rfl rfl rfl (v_mk_kd (k := 11) (rfl : v_kd 151 = 11) (by decide)) rfl (t_Md_findWording e114 (by omega)) ?_
      show s_Ek (s_rows 3 L xs) D s_e249.1 81 [(0, .ref 151), (1, .int p1), (4, .int v4)] [] (v_mk s114) _
      refine s_ek_bk 2 (P := 83) (ls' := [(0, .ref 151), (1, .int p1), (4, .int v4)]) (st' := [.int p1, .ref 151]) (M' := v_mk s114) rfl ?_
      obtain ⟨r115, s115, e115, h⟩ := v_bd h
      refine v_cV (ν := s_e247.1) (w := 1977) (a := 151) (as' := [.int p1]) (r := []) (o := some (.int r115)) (by omega) rfl rfl rfl (v_mk_kd (k := 11) (rfl : v_kd 151 = 11) (by decide)) rfl (t_Md_isRowSo e115 (by omega)) ?_
      show s_Ek (s_rows 3 L xs) D s_e249.1 86 [(0, .ref 151), (1, .int p1), (4, .int v4)] [.int r115] (v_mk s115) _
      rcases v_if h with ⟨c116, h⟩ | ⟨c116, h⟩
      · refine v_i1t (T := 97) rfl rfl c116 ?_
        refine s_ek_bk 2 (P := 67) (ls' := [(4, .int (v4 + 1)), (0, .ref 151), (1, .int p1)]) (st' := []) (M' := v_mk s115) rfl ?_
        refine v_ls (ls' := [(0, .ref 151), (1, .int p1), (4, .int (v4 + 1))]) ⟨rfl, rfl, rfl, trivial⟩ (show ([0, 1, 4] : List Nat).Nodup from by decide) ?_
        exact ih _ _ h
      · refine v_i1f (T := 97) rfl rfl c116 ?_
        refine s_ek_bk 5 (P := 96) (ls' := [(0, .ref 151), (1, .int p1), (4, .int v4)]) (st' := [.int ((100 : Int32) * (v4 + (1 : Int32)))]) (M' := v_mk s115) rfl ?_
        obtain ⟨rfl, rfl⟩ := v_so h
        exact v_ret (fun _ => rfl)
set_option maxRecDepth 20000 in
set_option maxHeartbeats 4000000 in
theorem t_Md_write_L119 {L : Nat} {xs : Nat → Int32} {p1 : Int32} {p4 : Int32} {k161 : vS → Option (Int32 × vS)} {D : Nat} (hD : 7 ≤ D) {r : Int32} {s' : vS} (hk161 : ∀ (s : vS), k161 s = some (r, s') → s_Ek (s_rows 3 L xs) D s_e249.1 161 [(0, .ref 151), (1, .int p1), (4, .int p4)] [] (v_mk s) (v_Q (some (.int r)) s')) : ∀ (n : Nat) (v5 : Int32) (s : vS), f_Md_write_L119 p1 p4 k161 n v5 s = some (r, s') → s_Ek (s_rows 3 L xs) D s_e249.1 119 [(0, .ref 151), (1, .int p1), (4, .int p4), (5, .int v5)] [] (v_mk s) (v_Q (some (.int r)) s') := by
  intro n
  induction n with
  | zero => intro v5 s h; exact nomatch (show (none : Option (Int32 × vS)) = some (r, s') from h)
  | succ n ih =>
    intro v5 s h
    replace h : f_Md_write_L119b p1 p4 k161 (f_Md_write_L119 p1 p4 k161 n) v5 s = some (r, s') := h
    unfold f_Md_write_L119b at h
    refine s_ek_bk 2 (P := 123) (ls' := [(0, .ref 151), (1, .int p1), (4, .int p4), (5, .int v5)]) (st' := [.int 45, .int v5]) (M' := v_mk s) rfl ?_
    rcases v_if h with ⟨c515, h⟩ | ⟨c515, h⟩
    · refine v_i2t (T := 161) rfl rfl c515 ?_
      refine v_ls (ls' := [(0, .ref 151), (1, .int p1), (4, .int p4)]) ⟨rfl, rfl, rfl, trivial⟩ (show ([0, 1, 4] : List Nat).Nodup from by decide) ?_
      exact hk161 _ h
    · refine v_i2f (T := 161) rfl rfl c515 ?_
      refine s_ek_bk 3 (P := 131) (ls' := [(0, .ref 151), (1, .int p1), (4, .int p4), (5, .int v5)]) (st' := [.int v5, .int p4, .ref 151]) (M' := v_mk s) rfl ?_
      obtain ⟨r516, s516, e516, h⟩ := v_bd h
      refine v_cV (ν := s_e245.1) (w := 1962) (a := 151) (as' := [.int p4, .int v5]) (r := []) (o := none) (by omega) rfl rfl rfl (v_mk_kd (k := 11) (rfl : v_kd 151 = 11) (by decide)) rfl (t_Md_findWording e516 (by omega)) ?_
      show s_Ek (s_rows 3 L xs) D s_e249.1 134 [(0, .ref 151), (1, .int p1), (4, .int p4), (5, .int v5)] [] (v_mk s516) _
      refine s_ek_bk 2 (P := 136) (ls' := [(0, .ref 151), (1, .int p1), (4, .int p4), (5, .int v5)]) (st' := [.int p1, .ref 151]) (M' := v_mk s516) rfl ?_
      obtain ⟨r517, s517, e517, h⟩ := v_bd h
      refine v_cV (ν := s_e247.1) (w := 1977) (a := 151) (as' := [.int p1]) (r := []) (o := some (.int r517)) (by omega) rfl rfl rfl (v_mk_kd (k := 11) (rfl : v_kd 151 = 11) (by decide)) rfl (t_Md_isRowSo e517 (by omega)) ?_
      show s_Ek (s_rows 3 L xs) D s_e249.1 139 [(0, .ref 151), (1, .int p1), (4, .int p4), (5, .int v5)] [.int r517] (v_mk s517) _
      rcases v_if h with ⟨c518, h⟩ | ⟨c518, h⟩
      · refine v_i1t (T := 155) rfl rfl c518 ?_
        refine s_ek_bk 2 (P := 119) (ls' := [(5, .int (v5 + 1)), (0, .ref 151), (1, .int p1), (4, .int p4)]) (st' := []) (M' := v_mk s517) rfl ?_
        refine v_ls (ls' := [(0, .ref 151), (1, .int p1), (4, .int p4), (5, .int (v5 + 1))]) ⟨rfl, rfl, rfl, rfl, trivial⟩ (show ([0, 1, 4, 5] : List Nat).Nodup from by decide) ?_
        exact ih _ _ h
      · refine v_i1f (T := 155) rfl rfl c518 ?_
        refine s_ek_bk 9 (P := 154) (ls' := [(0, .ref 151), (1, .int p1), (4, .int p4), (5, .int v5)]) (st' := [.int ((((100 : Int32) * (p4 + (1 : Int32))) + v5) + (1 : Int32))]) (M' := v_mk s517) rfl ?_
        obtain ⟨rfl, rfl⟩ := v_so h
        exact v_ret (fun _ => rfl)
set_option maxRecDepth 20000 in
set_option maxHeartbeats 4000000 in
theorem t_Md_write_L106 {L : Nat} {xs : Nat → Int32} {p1 : Int32} {k167 : vS → Option (Int32 × vS)} {D : Nat} (hD : 7 ≤ D) {r : Int32} {s' : vS} (hk167 : ∀ (s : vS), k167 s = some (r, s') → s_Ek (s_rows 3 L xs) D s_e249.1 167 [] [] (v_mk s) (v_Q (some (.int r)) s')) : ∀ (n : Nat) (v4 : Int32) (s : vS), f_Md_write_L106 p1 k167 n v4 s = some (r, s') → s_Ek (s_rows 3 L xs) D s_e249.1 106 [(0, .ref 151), (1, .int p1), (4, .int v4)] [] (v_mk s) (v_Q (some (.int r)) s') := by
  intro n
  induction n with
  | zero => intro v4 s h; exact nomatch (show (none : Option (Int32 × vS)) = some (r, s') from h)
  | succ n ih =>
    intro v4 s h
    replace h : f_Md_write_L106b p1 k167 (f_Md_write_L106 p1 k167 n) v4 s = some (r, s') := h
    unfold f_Md_write_L106b at h
    refine s_ek_bk 2 (P := 110) (ls' := [(0, .ref 151), (1, .int p1), (4, .int v4)]) (st' := [.int 45, .int v4]) (M' := v_mk s) rfl ?_
    rcases v_if h with ⟨c214, h⟩ | ⟨c214, h⟩
    · refine v_i2t (T := 167) rfl rfl c214 ?_
      refine v_ls (ls' := []) trivial (show ([] : List Nat).Nodup from by decide) ?_
      exact hk167 _ h
    · refine v_i2f (T := 167) rfl rfl c214 ?_
      refine s_ek_bk 4 (P := 119) (ls' := [(5, .int (v4 + (1 : Int32))), (0, .ref 151), (1, .int p1), (4, .int v4)]) (st' := []) (M' := v_mk s) rfl ?_
      refine v_ls (ls' := [(0, .ref 151), (1, .int p1), (4, .int v4), (5, .int (v4 + (1 : Int32)))]) ⟨rfl, rfl, rfl, rfl, trivial⟩ (show ([0, 1, 4, 5] : List Nat).Nodup from by decide) ?_
      refine t_Md_write_L119 (by omega) (fun s215 h => ?_) 4096 _ _ h
      show s_Ek (s_rows 3 L xs) D s_e249.1 161 [(0, .ref 151), (1, .int p1), (4, .int v4)] [] (v_mk s215) _
      refine s_ek_bk 2 (P := 106) (ls' := [(4, .int (v4 + 1)), (0, .ref 151), (1, .int p1)]) (st' := []) (M' := v_mk s215) rfl ?_
      refine v_ls (ls' := [(0, .ref 151), (1, .int p1), (4, .int (v4 + 1))]) ⟨rfl, rfl, rfl, trivial⟩ (show ([0, 1, 4] : List Nat).Nodup from by decide) ?_
      exact ih _ _ h
set_option maxRecDepth 20000 in
set_option maxHeartbeats 4000000 in
theorem t_Md_write {L : Nat} {xs : Nat → Int32} {b : Int32} {c : Int32} {d : Int32} {D : Nat} {r : Int32} {s s' : vS} (h : f_Md_write b c d s = some (r, s')) (hD : 7 ≤ D) : s_Ek (s_rows 3 L xs) D s_e249.1 0 (lv_args 0 [.ref 151, .int b, .int c, .int d]) [] (v_mk s) (v_Q (some (.int r)) s') := by
  unfold f_Md_write at h
  show s_Ek (s_rows 3 L xs) D s_e249.1 0 [(0, .ref 151), (1, .int b), (2, .int c), (3, .int d)] [] (v_mk s) _
  refine s_ek_bk 1 (P := 1) (ls' := [(0, .ref 151), (1, .int b), (2, .int c), (3, .int d)]) (st' := [.int b]) (M' := v_mk s) rfl ?_
  obtain ⟨r1, s1, e1, h⟩ := v_bd h
  refine v_cS (ν := s_e281.1) (w := 2249) (as := [.int b]) (r := []) (o := some (.int r1)) (by omega) rfl rfl rfl rfl (t_Md_isShelf e1 (by omega)) ?_
  show s_Ek (s_rows 3 L xs) D s_e249.1 4 [(0, .ref 151), (1, .int b), (2, .int c), (3, .int d)] [.int r1] (v_mk s1) _
  rcases v_if h with ⟨c2, h⟩ | ⟨c2, h⟩
  · refine v_i1t (T := 26) rfl rfl c2 ?_
    refine s_ek_bk 1 (P := 27) (ls' := [(0, .ref 151), (1, .int b), (2, .int c), (3, .int d)]) (st' := [.int (-1)]) (M' := v_mk s1) rfl ?_
    obtain ⟨rfl, rfl⟩ := v_so h
    exact v_ret (fun _ => rfl)
  · refine v_i1f (T := 26) rfl rfl c2 ?_
    refine s_ek_bk 3 (P := 11) (ls' := [(0, .ref 151), (1, .int b), (2, .int c), (3, .int d)]) (st' := [.int 99, .int 0, .int c]) (M' := v_mk s1) rfl ?_
    obtain ⟨r3, s3, e3, h⟩ := v_bd h
    refine v_cS (ν := s_e181.1) (w := 1451) (as := [.int c, .int 0, .int 99]) (r := []) (o := some (.int r3)) (by omega) rfl rfl rfl rfl (t_Md_in e3 (by omega)) ?_
    show s_Ek (s_rows 3 L xs) D s_e249.1 14 [(0, .ref 151), (1, .int b), (2, .int c), (3, .int d)] [.int r3] (v_mk s3) _
    rcases v_if h with ⟨c4, h⟩ | ⟨c4, h⟩
    · refine v_i1t (T := 26) rfl rfl c4 ?_
      refine s_ek_bk 1 (P := 27) (ls' := [(0, .ref 151), (1, .int b), (2, .int c), (3, .int d)]) (st' := [.int (-1)]) (M' := v_mk s3) rfl ?_
      obtain ⟨rfl, rfl⟩ := v_so h
      exact v_ret (fun _ => rfl)
    · refine v_i1f (T := 26) rfl rfl c4 ?_
      refine s_ek_bk 3 (P := 20) (ls' := [(0, .ref 151), (1, .int b), (2, .int c), (3, .int d)]) (st' := [.int 2, .int 0, .int d]) (M' := v_mk s3) rfl ?_
      obtain ⟨r5, s5, e5, h⟩ := v_bd h
      refine v_cS (ν := s_e181.1) (w := 1451) (as := [.int d, .int 0, .int 2]) (r := []) (o := some (.int r5)) (by omega) rfl rfl rfl rfl (t_Md_in e5 (by omega)) ?_
      show s_Ek (s_rows 3 L xs) D s_e249.1 23 [(0, .ref 151), (1, .int b), (2, .int c), (3, .int d)] [.int r5] (v_mk s5) _
      rcases v_if h with ⟨c6, h⟩ | ⟨c6, h⟩
      · refine v_i1f (T := 28) rfl rfl (fun q => q c6) ?_
        refine s_ek_bk 1 (P := 27) (ls' := [(0, .ref 151), (1, .int b), (2, .int c), (3, .int d)]) (st' := [.int (-1)]) (M' := v_mk s5) rfl ?_
        obtain ⟨rfl, rfl⟩ := v_so h
        exact v_ret (fun _ => rfl)
      · refine v_i1t (T := 28) rfl rfl c6 ?_
        refine s_ek_bk 2 (P := 30) (ls' := [(0, .ref 151), (1, .int b), (2, .int c), (3, .int d)]) (st' := [.int b, .ref 151]) (M' := v_mk s5) rfl ?_
        obtain ⟨r7, s7, e7, h⟩ := v_bd h
        refine v_cV (ν := s_e236.1) (w := 1889) (a := 151) (as' := [.int b]) (r := []) (o := some (.int r7)) (by omega) rfl rfl rfl (v_mk_kd (k := 11) (rfl : v_kd 151 = 11) (by decide)) rfl (t_Md_rowFault e7 (by omega)) ?_
        show s_Ek (s_rows 3 L xs) D s_e249.1 33 [(0, .ref 151), (1, .int b), (2, .int c), (3, .int d)] [.int r7] (v_mk s7) _
        rcases v_if h with ⟨c8, h⟩ | ⟨c8, h⟩
        · refine v_i1t (T := 42) rfl rfl c8 ?_
          refine s_ek_bk 3 (P := 45) (ls' := [(0, .ref 151), (1, .int b), (2, .int c), (3, .int d)]) (st' := [.int d, .int c, .ref 151]) (M' := v_mk s7) rfl ?_
          obtain ⟨r9, s9, e9, h⟩ := v_bd h
          refine v_cV (ν := s_e248.1) (w := 1986) (a := 151) (as' := [.int c, .int d]) (r := []) (o := none) (by omega) rfl rfl rfl (v_mk_kd (k := 11) (rfl : v_kd 151 = 11) (by decide)) rfl (t_Md_writes e9 (by omega)) ?_
          show s_Ek (s_rows 3 L xs) D s_e249.1 48 [(0, .ref 151), (1, .int b), (2, .int c), (3, .int d)] [] (v_mk s9) _
          refine s_ek_bk 3 (P := 51) (ls' := [(0, .ref 151), (1, .int b), (2, .int c), (3, .int d)]) (st' := [.int (-1), .int (-1), .ref 151]) (M' := v_mk s9) rfl ?_
          obtain ⟨r10, s10, e10, h⟩ := v_bd h
          refine v_cV (ν := s_e245.1) (w := 1962) (a := 151) (as' := [.int (-1), .int (-1)]) (r := []) (o := none) (by omega) rfl rfl rfl (v_mk_kd (k := 11) (rfl : v_kd 151 = 11) (by decide)) rfl (t_Md_findWording e10 (by omega)) ?_
          show s_Ek (s_rows 3 L xs) D s_e249.1 54 [(0, .ref 151), (1, .int b), (2, .int c), (3, .int d)] [] (v_mk s10) _
          refine s_ek_bk 2 (P := 56) (ls' := [(0, .ref 151), (1, .int b), (2, .int c), (3, .int d)]) (st' := [.int b, .ref 151]) (M' := v_mk s10) rfl ?_
          obtain ⟨r11, s11, e11, h⟩ := v_bd h
          refine v_cV (ν := s_e247.1) (w := 1977) (a := 151) (as' := [.int b]) (r := []) (o := some (.int r11)) (by omega) rfl rfl rfl (v_mk_kd (k := 11) (rfl : v_kd 151 = 11) (by decide)) rfl (t_Md_isRowSo e11 (by omega)) ?_
          show s_Ek (s_rows 3 L xs) D s_e249.1 59 [(0, .ref 151), (1, .int b), (2, .int c), (3, .int d)] [.int r11] (v_mk s11) _
          rcases v_if h with ⟨c12, h⟩ | ⟨c12, h⟩
          · refine v_i1t (T := 64) rfl rfl c12 ?_
            refine s_ek_bk 2 (P := 67) (ls' := [(4, .int 0), (0, .ref 151), (1, .int b), (2, .int c), (3, .int d)]) (st' := []) (M' := v_mk s11) rfl ?_
            refine v_ls (ls' := [(0, .ref 151), (1, .int b), (4, .int 0)]) ⟨rfl, rfl, rfl, trivial⟩ (show ([0, 1, 4] : List Nat).Nodup from by decide) ?_
            refine t_Md_write_L67 (by omega) (fun s13 h => ?_) 4096 _ _ h
            show s_Ek (s_rows 3 L xs) D s_e249.1 103 [(0, .ref 151), (1, .int b)] [] (v_mk s13) _
            refine s_ek_bk 2 (P := 106) (ls' := [(4, .int 0), (0, .ref 151), (1, .int b)]) (st' := []) (M' := v_mk s13) rfl ?_
            refine v_ls (ls' := [(0, .ref 151), (1, .int b), (4, .int 0)]) ⟨rfl, rfl, rfl, trivial⟩ (show ([0, 1, 4] : List Nat).Nodup from by decide) ?_
            refine t_Md_write_L106 (by omega) (fun s14 h => ?_) 4096 _ _ h
            show s_Ek (s_rows 3 L xs) D s_e249.1 167 [] [] (v_mk s14) _
            refine s_ek_bk 1 (P := 169) (ls' := []) (st' := [.int (-2)]) (M' := v_mk s14) rfl ?_
            obtain ⟨rfl, rfl⟩ := v_so h
            exact v_ret (fun _ => rfl)
          · refine v_i1f (T := 64) rfl rfl c12 ?_
            refine s_ek_bk 1 (P := 63) (ls' := [(0, .ref 151), (1, .int b), (2, .int c), (3, .int d)]) (st' := [.int 0]) (M' := v_mk s11) rfl ?_
            obtain ⟨rfl, rfl⟩ := v_so h
            exact v_ret (fun _ => rfl)
        · refine v_i1f (T := 42) rfl rfl c8 ?_
          refine s_ek_bk 2 (P := 38) (ls' := [(0, .ref 151), (1, .int b), (2, .int c), (3, .int d)]) (st' := [.int b, .ref 151]) (M' := v_mk s7) rfl ?_
          obtain ⟨r15, s15, e15, h⟩ := v_bd h
          refine v_cV (ν := s_e236.1) (w := 1889) (a := 151) (as' := [.int b]) (r := []) (o := some (.int r15)) (by omega) rfl rfl rfl (v_mk_kd (k := 11) (rfl : v_kd 151 = 11) (by decide)) rfl (t_Md_rowFault e15 (by omega)) ?_
          show s_Ek (s_rows 3 L xs) D s_e249.1 41 [(0, .ref 151), (1, .int b), (2, .int c), (3, .int d)] [.int r15] (v_mk s15) _
          obtain ⟨rfl, rfl⟩ := v_so h
          exact v_ret (fun _ => rfl)
noncomputable def f_Md_canBe_L11b (p1 : Int32) (p2 : Int32) (p3 : Int32) (k65 : vS → Option (Int32 × vS)) (again : Int32 → vS → Option (Int32 × vS)) (v4 : Int32) (s : vS) : Option (Int32 × vS) := (if 45 ≤ v4.toInt then (k65 s) else (if v4.toInt < 0 then (if 0 ≤ p3.toInt then (v_bi (f_Md_findWording p3 v4 s) (fun _ s305 => (v_bi (f_Md_verdictWith p1 s305) (fun r306 s306 => (if r306.toInt = p2.toInt then (some (1, s306)) else (again (v4 + 1) s306)))))) else (if v4.toInt < 0 then (v_bi (f_Md_findWording p3 v4 s) (fun _ s309 => (v_bi (f_Md_verdictWith p1 s309) (fun r310 s310 => (if r310.toInt = p2.toInt then (some (1, s310)) else (again (v4 + 1) s310)))))) else (again (v4 + 1) s))) else (if v4.toInt ≤ p3.toInt then (again (v4 + 1) s) else (if 0 ≤ p3.toInt then (v_bi (f_Md_findWording p3 v4 s) (fun _ s314 => (v_bi (f_Md_verdictWith p1 s314) (fun r315 s315 => (if r315.toInt = p2.toInt then (some (1, s315)) else (again (v4 + 1) s315)))))) else (if v4.toInt < 0 then (v_bi (f_Md_findWording p3 v4 s) (fun _ s318 => (v_bi (f_Md_verdictWith p1 s318) (fun r319 s319 => (if r319.toInt = p2.toInt then (some (1, s319)) else (again (v4 + 1) s319)))))) else (again (v4 + 1) s))))))
noncomputable def f_Md_canBe_L11 (p1 : Int32) (p2 : Int32) (p3 : Int32) (k65 : vS → Option (Int32 × vS)) (n : Nat) : Int32 → vS → Option (Int32 × vS) := Nat.rec (motive := fun _ => Int32 → vS → Option (Int32 × vS)) (fun _ _ => none) (fun _ again => f_Md_canBe_L11b p1 p2 p3 k65 again) n
noncomputable def f_Md_canBe_L2b (p1 : Int32) (p2 : Int32) (k71 : vS → Option (Int32 × vS)) (again : Int32 → vS → Option (Int32 × vS)) (v3 : Int32) (s : vS) : Option (Int32 × vS) := (if 45 ≤ v3.toInt then (k71 s) else (f_Md_canBe_L11 p1 p2 v3 (fun s102 => (again (v3 + 1) s102)) 4096 (-1) s))
noncomputable def f_Md_canBe_L2 (p1 : Int32) (p2 : Int32) (k71 : vS → Option (Int32 × vS)) (n : Nat) : Int32 → vS → Option (Int32 × vS) := Nat.rec (motive := fun _ => Int32 → vS → Option (Int32 × vS)) (fun _ _ => none) (fun _ again => f_Md_canBe_L2b p1 p2 k71 again) n
noncomputable def f_Md_canBe (b : Int32) (c : Int32) (s : vS) : Option (Int32 × vS) := (f_Md_canBe_L2 b c (fun s1 => (some (0, s1))) 4096 (-1) s)
set_option maxRecDepth 20000 in
set_option maxHeartbeats 4000000 in
theorem t_Md_canBe_L11 {L : Nat} {xs : Nat → Int32} {p1 : Int32} {p2 : Int32} {p3 : Int32} {k65 : vS → Option (Int32 × vS)} {D : Nat} (hD : 5 ≤ D) {r : Int32} {s' : vS} (hk65 : ∀ (s : vS), k65 s = some (r, s') → s_Ek (s_rows 3 L xs) D s_e250.1 65 [(0, .ref 151), (1, .int p1), (2, .int p2), (3, .int p3)] [] (v_mk s) (v_Q (some (.int r)) s')) : ∀ (n : Nat) (v4 : Int32) (s : vS), f_Md_canBe_L11 p1 p2 p3 k65 n v4 s = some (r, s') → s_Ek (s_rows 3 L xs) D s_e250.1 11 [(0, .ref 151), (1, .int p1), (2, .int p2), (3, .int p3), (4, .int v4)] [] (v_mk s) (v_Q (some (.int r)) s') := by
  intro n
  induction n with
  | zero => intro v4 s h; exact nomatch (show (none : Option (Int32 × vS)) = some (r, s') from h)
  | succ n ih =>
    intro v4 s h
    replace h : f_Md_canBe_L11b p1 p2 p3 k65 (f_Md_canBe_L11 p1 p2 p3 k65 n) v4 s = some (r, s') := h
    unfold f_Md_canBe_L11b at h
    refine s_ek_bk 2 (P := 15) (ls' := [(0, .ref 151), (1, .int p1), (2, .int p2), (3, .int p3), (4, .int v4)]) (st' := [.int 45, .int v4]) (M' := v_mk s) rfl ?_
    rcases v_if h with ⟨c302, h⟩ | ⟨c302, h⟩
    · refine v_i2t (T := 65) rfl rfl c302 ?_
      refine v_ls (ls' := [(0, .ref 151), (1, .int p1), (2, .int p2), (3, .int p3)]) ⟨rfl, rfl, rfl, rfl, trivial⟩ (show ([0, 1, 2, 3] : List Nat).Nodup from by decide) ?_
      exact hk65 _ h
    · refine v_i2f (T := 65) rfl rfl c302 ?_
      refine s_ek_bk 1 (P := 20) (ls' := [(0, .ref 151), (1, .int p1), (2, .int p2), (3, .int p3), (4, .int v4)]) (st' := [.int v4]) (M' := v_mk s) rfl ?_
      rcases v_if h with ⟨c303, h⟩ | ⟨c303, h⟩
      · refine v_i1t (T := 29) rfl rfl c303 ?_
        refine s_ek_bk 1 (P := 30) (ls' := [(0, .ref 151), (1, .int p1), (2, .int p2), (3, .int p3), (4, .int v4)]) (st' := [.int p3]) (M' := v_mk s) rfl ?_
        rcases v_if h with ⟨c304, h⟩ | ⟨c304, h⟩
        · refine v_i1t (T := 41) rfl rfl c304 ?_
          refine s_ek_bk 3 (P := 45) (ls' := [(0, .ref 151), (1, .int p1), (2, .int p2), (3, .int p3), (4, .int v4)]) (st' := [.int v4, .int p3, .ref 151]) (M' := v_mk s) rfl ?_
          obtain ⟨r305, s305, e305, h⟩ := v_bd h
          refine v_cV (ν := s_e245.1) (w := 1962) (a := 151) (as' := [.int p3, .int v4]) (r := []) (o := none) (by omega) rfl rfl rfl (v_mk_kd (k := 11) (rfl : v_kd 151 = 11) (by decide)) rfl (t_Md_findWording e305 (by omega)) ?_
          show s_Ek (s_rows 3 L xs) D s_e250.1 48 [(0, .ref 151), (1, .int p1), (2, .int p2), (3, .int p3), (4, .int v4)] [] (v_mk s305) _
          refine s_ek_bk 2 (P := 50) (ls' := [(0, .ref 151), (1, .int p1), (2, .int p2), (3, .int p3), (4, .int v4)]) (st' := [.int p1, .ref 151]) (M' := v_mk s305) rfl ?_
          obtain ⟨r306, s306, e306, h⟩ := v_bd h
          refine v_cV (ν := s_e246.1) (w := 1969) (a := 151) (as' := [.int p1]) (r := []) (o := some (.int r306)) (by omega) rfl rfl rfl (v_mk_kd (k := 11) (rfl : v_kd 151 = 11) (by decide)) rfl (t_Md_verdictWith e306 (by omega)) ?_
          show s_Ek (s_rows 3 L xs) D s_e250.1 53 [(0, .ref 151), (1, .int p1), (2, .int p2), (3, .int p3), (4, .int v4)] [.int r306] (v_mk s306) _
          refine s_ek_bk 1 (P := 54) (ls' := [(0, .ref 151), (1, .int p1), (2, .int p2), (3, .int p3), (4, .int v4)]) (st' := [.int p2, .int r306]) (M' := v_mk s306) rfl ?_
          rcases v_if h with ⟨c307, h⟩ | ⟨c307, h⟩
          · refine v_i2f (T := 59) rfl rfl (fun q => q c307) ?_
            refine s_ek_bk 1 (P := 58) (ls' := [(0, .ref 151), (1, .int p1), (2, .int p2), (3, .int p3), (4, .int v4)]) (st' := [.int 1]) (M' := v_mk s306) rfl ?_
            obtain ⟨rfl, rfl⟩ := v_so h
            exact v_ret (fun _ => rfl)
          · refine v_i2t (T := 59) rfl rfl c307 ?_
            refine s_ek_bk 2 (P := 11) (ls' := [(4, .int (v4 + 1)), (0, .ref 151), (1, .int p1), (2, .int p2), (3, .int p3)]) (st' := []) (M' := v_mk s306) rfl ?_
            refine v_ls (ls' := [(0, .ref 151), (1, .int p1), (2, .int p2), (3, .int p3), (4, .int (v4 + 1))]) ⟨rfl, rfl, rfl, rfl, rfl, trivial⟩ (show ([0, 1, 2, 3, 4] : List Nat).Nodup from by decide) ?_
            exact ih _ _ h
        · refine v_i1f (T := 41) rfl rfl c304 ?_
          refine s_ek_bk 1 (P := 35) (ls' := [(0, .ref 151), (1, .int p1), (2, .int p2), (3, .int p3), (4, .int v4)]) (st' := [.int v4]) (M' := v_mk s) rfl ?_
          rcases v_if h with ⟨c308, h⟩ | ⟨c308, h⟩
          · refine v_i1t (T := 41) rfl rfl c308 ?_
            refine s_ek_bk 3 (P := 45) (ls' := [(0, .ref 151), (1, .int p1), (2, .int p2), (3, .int p3), (4, .int v4)]) (st' := [.int v4, .int p3, .ref 151]) (M' := v_mk s) rfl ?_
            obtain ⟨r309, s309, e309, h⟩ := v_bd h
            refine v_cV (ν := s_e245.1) (w := 1962) (a := 151) (as' := [.int p3, .int v4]) (r := []) (o := none) (by omega) rfl rfl rfl (v_mk_kd (k := 11) (rfl : v_kd 151 = 11) (by decide)) rfl (t_Md_findWording e309 (by omega)) ?_
            show s_Ek (s_rows 3 L xs) D s_e250.1 48 [(0, .ref 151), (1, .int p1), (2, .int p2), (3, .int p3), (4, .int v4)] [] (v_mk s309) _
            refine s_ek_bk 2 (P := 50) (ls' := [(0, .ref 151), (1, .int p1), (2, .int p2), (3, .int p3), (4, .int v4)]) (st' := [.int p1, .ref 151]) (M' := v_mk s309) rfl ?_
            obtain ⟨r310, s310, e310, h⟩ := v_bd h
            refine v_cV (ν := s_e246.1) (w := 1969) (a := 151) (as' := [.int p1]) (r := []) (o := some (.int r310)) (by omega) rfl rfl rfl (v_mk_kd (k := 11) (rfl : v_kd 151 = 11) (by decide)) rfl (t_Md_verdictWith e310 (by omega)) ?_
            show s_Ek (s_rows 3 L xs) D s_e250.1 53 [(0, .ref 151), (1, .int p1), (2, .int p2), (3, .int p3), (4, .int v4)] [.int r310] (v_mk s310) _
            refine s_ek_bk 1 (P := 54) (ls' := [(0, .ref 151), (1, .int p1), (2, .int p2), (3, .int p3), (4, .int v4)]) (st' := [.int p2, .int r310]) (M' := v_mk s310) rfl ?_
            rcases v_if h with ⟨c311, h⟩ | ⟨c311, h⟩
            · refine v_i2f (T := 59) rfl rfl (fun q => q c311) ?_
              refine s_ek_bk 1 (P := 58) (ls' := [(0, .ref 151), (1, .int p1), (2, .int p2), (3, .int p3), (4, .int v4)]) (st' := [.int 1]) (M' := v_mk s310) rfl ?_
              obtain ⟨rfl, rfl⟩ := v_so h
              exact v_ret (fun _ => rfl)
            · refine v_i2t (T := 59) rfl rfl c311 ?_
              refine s_ek_bk 2 (P := 11) (ls' := [(4, .int (v4 + 1)), (0, .ref 151), (1, .int p1), (2, .int p2), (3, .int p3)]) (st' := []) (M' := v_mk s310) rfl ?_
              refine v_ls (ls' := [(0, .ref 151), (1, .int p1), (2, .int p2), (3, .int p3), (4, .int (v4 + 1))]) ⟨rfl, rfl, rfl, rfl, rfl, trivial⟩ (show ([0, 1, 2, 3, 4] : List Nat).Nodup from by decide) ?_
              exact ih _ _ h
          · refine v_i1f (T := 41) rfl rfl c308 ?_
            refine s_ek_bk 3 (P := 11) (ls' := [(4, .int (v4 + 1)), (0, .ref 151), (1, .int p1), (2, .int p2), (3, .int p3)]) (st' := []) (M' := v_mk s) rfl ?_
            refine v_ls (ls' := [(0, .ref 151), (1, .int p1), (2, .int p2), (3, .int p3), (4, .int (v4 + 1))]) ⟨rfl, rfl, rfl, rfl, rfl, trivial⟩ (show ([0, 1, 2, 3, 4] : List Nat).Nodup from by decide) ?_
            exact ih _ _ h
      · refine v_i1f (T := 29) rfl rfl c303 ?_
        refine s_ek_bk 2 (P := 26) (ls' := [(0, .ref 151), (1, .int p1), (2, .int p2), (3, .int p3), (4, .int v4)]) (st' := [.int p3, .int v4]) (M' := v_mk s) rfl ?_
        rcases v_if h with ⟨c312, h⟩ | ⟨c312, h⟩
        · refine v_i2t (T := 59) rfl rfl c312 ?_
          refine s_ek_bk 2 (P := 11) (ls' := [(4, .int (v4 + 1)), (0, .ref 151), (1, .int p1), (2, .int p2), (3, .int p3)]) (st' := []) (M' := v_mk s) rfl ?_
          refine v_ls (ls' := [(0, .ref 151), (1, .int p1), (2, .int p2), (3, .int p3), (4, .int (v4 + 1))]) ⟨rfl, rfl, rfl, rfl, rfl, trivial⟩ (show ([0, 1, 2, 3, 4] : List Nat).Nodup from by decide) ?_
          exact ih _ _ h
        · refine v_i2f (T := 59) rfl rfl c312 ?_
          refine s_ek_bk 1 (P := 30) (ls' := [(0, .ref 151), (1, .int p1), (2, .int p2), (3, .int p3), (4, .int v4)]) (st' := [.int p3]) (M' := v_mk s) rfl ?_
          rcases v_if h with ⟨c313, h⟩ | ⟨c313, h⟩
          · refine v_i1t (T := 41) rfl rfl c313 ?_
            refine s_ek_bk 3 (P := 45) (ls' := [(0, .ref 151), (1, .int p1), (2, .int p2), (3, .int p3), (4, .int v4)]) (st' := [.int v4, .int p3, .ref 151]) (M' := v_mk s) rfl ?_
            obtain ⟨r314, s314, e314, h⟩ := v_bd h
            refine v_cV (ν := s_e245.1) (w := 1962) (a := 151) (as' := [.int p3, .int v4]) (r := []) (o := none) (by omega) rfl rfl rfl (v_mk_kd (k := 11) (rfl : v_kd 151 = 11) (by decide)) rfl (t_Md_findWording e314 (by omega)) ?_
            show s_Ek (s_rows 3 L xs) D s_e250.1 48 [(0, .ref 151), (1, .int p1), (2, .int p2), (3, .int p3), (4, .int v4)] [] (v_mk s314) _
            refine s_ek_bk 2 (P := 50) (ls' := [(0, .ref 151), (1, .int p1), (2, .int p2), (3, .int p3), (4, .int v4)]) (st' := [.int p1, .ref 151]) (M' := v_mk s314) rfl ?_
            obtain ⟨r315, s315, e315, h⟩ := v_bd h
            refine v_cV (ν := s_e246.1) (w := 1969) (a := 151) (as' := [.int p1]) (r := []) (o := some (.int r315)) (by omega) rfl rfl rfl (v_mk_kd (k := 11) (rfl : v_kd 151 = 11) (by decide)) rfl (t_Md_verdictWith e315 (by omega)) ?_
            show s_Ek (s_rows 3 L xs) D s_e250.1 53 [(0, .ref 151), (1, .int p1), (2, .int p2), (3, .int p3), (4, .int v4)] [.int r315] (v_mk s315) _
            refine s_ek_bk 1 (P := 54) (ls' := [(0, .ref 151), (1, .int p1), (2, .int p2), (3, .int p3), (4, .int v4)]) (st' := [.int p2, .int r315]) (M' := v_mk s315) rfl ?_
            rcases v_if h with ⟨c316, h⟩ | ⟨c316, h⟩
            · refine v_i2f (T := 59) rfl rfl (fun q => q c316) ?_
              refine s_ek_bk 1 (P := 58) (ls' := [(0, .ref 151), (1, .int p1), (2, .int p2), (3, .int p3), (4, .int v4)]) (st' := [.int 1]) (M' := v_mk s315) rfl ?_
              obtain ⟨rfl, rfl⟩ := v_so h
              exact v_ret (fun _ => rfl)
            · refine v_i2t (T := 59) rfl rfl c316 ?_
              refine s_ek_bk 2 (P := 11) (ls' := [(4, .int (v4 + 1)), (0, .ref 151), (1, .int p1), (2, .int p2), (3, .int p3)]) (st' := []) (M' := v_mk s315) rfl ?_
              refine v_ls (ls' := [(0, .ref 151), (1, .int p1), (2, .int p2), (3, .int p3), (4, .int (v4 + 1))]) ⟨rfl, rfl, rfl, rfl, rfl, trivial⟩ (show ([0, 1, 2, 3, 4] : List Nat).Nodup from by decide) ?_
              exact ih _ _ h
          · refine v_i1f (T := 41) rfl rfl c313 ?_
            refine s_ek_bk 1 (P := 35) (ls' := [(0, .ref 151), (1, .int p1), (2, .int p2), (3, .int p3), (4, .int v4)]) (st' := [.int v4]) (M' := v_mk s) rfl ?_
            rcases v_if h with ⟨c317, h⟩ | ⟨c317, h⟩
            · refine v_i1t (T := 41) rfl rfl c317 ?_
              refine s_ek_bk 3 (P := 45) (ls' := [(0, .ref 151), (1, .int p1), (2, .int p2), (3, .int p3), (4, .int v4)]) (st' := [.int v4, .int p3, .ref 151]) (M' := v_mk s) rfl ?_
              obtain ⟨r318, s318, e318, h⟩ := v_bd h
              refine v_cV (ν := s_e245.1) (w := 1962) (a := 151) (as' := [.int p3, .int v4]) (r := []) (o := none) (by omega) rfl rfl rfl (v_mk_kd (k := 11) (rfl : v_kd 151 = 11) (by decide)) rfl (t_Md_findWording e318 (by omega)) ?_
              show s_Ek (s_rows 3 L xs) D s_e250.1 48 [(0, .ref 151), (1, .int p1), (2, .int p2), (3, .int p3), (4, .int v4)] [] (v_mk s318) _
              refine s_ek_bk 2 (P := 50) (ls' := [(0, .ref 151), (1, .int p1), (2, .int p2), (3, .int p3), (4, .int v4)]) (st' := [.int p1, .ref 151]) (M' := v_mk s318) rfl ?_
              obtain ⟨r319, s319, e319, h⟩ := v_bd h
              refine v_cV (ν := s_e246.1) (w := 1969) (a := 151) (as' := [.int p1]) (r := []) (o := some (.int r319)) (by omega) rfl rfl rfl (v_mk_kd (k := 11) (rfl : v_kd 151 = 11) (by decide)) rfl (t_Md_verdictWith e319 (by omega)) ?_
              show s_Ek (s_rows 3 L xs) D s_e250.1 53 [(0, .ref 151), (1, .int p1), (2, .int p2), (3, .int p3), (4, .int v4)] [.int r319] (v_mk s319) _
              refine s_ek_bk 1 (P := 54) (ls' := [(0, .ref 151), (1, .int p1), (2, .int p2), (3, .int p3), (4, .int v4)]) (st' := [.int p2, .int r319]) (M' := v_mk s319) rfl ?_
              rcases v_if h with ⟨c320, h⟩ | ⟨c320, h⟩
              · refine v_i2f (T := 59) rfl rfl (fun q => q c320) ?_
                refine s_ek_bk 1 (P := 58) (ls' := [(0, .ref 151), (1, .int p1), (2, .int p2), (3, .int p3), (4, .int v4)]) (st' := [.int 1]) (M' := v_mk s319) rfl ?_
                obtain ⟨rfl, rfl⟩ := v_so h
                exact v_ret (fun _ => rfl)
              · refine v_i2t (T := 59) rfl rfl c320 ?_
                refine s_ek_bk 2 (P := 11) (ls' := [(4, .int (v4 + 1)), (0, .ref 151), (1, .int p1), (2, .int p2), (3, .int p3)]) (st' := []) (M' := v_mk s319) rfl ?_
                refine v_ls (ls' := [(0, .ref 151), (1, .int p1), (2, .int p2), (3, .int p3), (4, .int (v4 + 1))]) ⟨rfl, rfl, rfl, rfl, rfl, trivial⟩ (show ([0, 1, 2, 3, 4] : List Nat).Nodup from by decide) ?_
                exact ih _ _ h
            · refine v_i1f (T := 41) rfl rfl c317 ?_
              refine s_ek_bk 3 (P := 11) (ls' := [(4, .int (v4 + 1)), (0, .ref 151), (1, .int p1), (2, .int p2), (3, .int p3)]) (st' := []) (M' := v_mk s) rfl ?_
              refine v_ls (ls' := [(0, .ref 151), (1, .int p1), (2, .int p2), (3, .int p3), (4, .int (v4 + 1))]) ⟨rfl, rfl, rfl, rfl, rfl, trivial⟩ (show ([0, 1, 2, 3, 4] : List Nat).Nodup from by decide) ?_
              exact ih _ _ h
set_option maxRecDepth 20000 in
set_option maxHeartbeats 4000000 in
theorem t_Md_canBe_L2 {L : Nat} {xs : Nat → Int32} {p1 : Int32} {p2 : Int32} {k71 : vS → Option (Int32 × vS)} {D : Nat} (hD : 5 ≤ D) {r : Int32} {s' : vS} (hk71 : ∀ (s : vS), k71 s = some (r, s') → s_Ek (s_rows 3 L xs) D s_e250.1 71 [] [] (v_mk s) (v_Q (some (.int r)) s')) : ∀ (n : Nat) (v3 : Int32) (s : vS), f_Md_canBe_L2 p1 p2 k71 n v3 s = some (r, s') → s_Ek (s_rows 3 L xs) D s_e250.1 2 [(0, .ref 151), (1, .int p1), (2, .int p2), (3, .int v3)] [] (v_mk s) (v_Q (some (.int r)) s') := by
  intro n
  induction n with
  | zero => intro v3 s h; exact nomatch (show (none : Option (Int32 × vS)) = some (r, s') from h)
  | succ n ih =>
    intro v3 s h
    replace h : f_Md_canBe_L2b p1 p2 k71 (f_Md_canBe_L2 p1 p2 k71 n) v3 s = some (r, s') := h
    unfold f_Md_canBe_L2b at h
    refine s_ek_bk 2 (P := 5) (ls' := [(0, .ref 151), (1, .int p1), (2, .int p2), (3, .int v3)]) (st' := [.int 45, .int v3]) (M' := v_mk s) rfl ?_
    rcases v_if h with ⟨c101, h⟩ | ⟨c101, h⟩
    · refine v_i2t (T := 71) rfl rfl c101 ?_
      refine v_ls (ls' := []) trivial (show ([] : List Nat).Nodup from by decide) ?_
      exact hk71 _ h
    · refine v_i2f (T := 71) rfl rfl c101 ?_
      refine s_ek_bk 2 (P := 11) (ls' := [(4, .int (-1)), (0, .ref 151), (1, .int p1), (2, .int p2), (3, .int v3)]) (st' := []) (M' := v_mk s) rfl ?_
      refine v_ls (ls' := [(0, .ref 151), (1, .int p1), (2, .int p2), (3, .int v3), (4, .int (-1))]) ⟨rfl, rfl, rfl, rfl, rfl, trivial⟩ (show ([0, 1, 2, 3, 4] : List Nat).Nodup from by decide) ?_
      refine t_Md_canBe_L11 (by omega) (fun s102 h => ?_) 4096 _ _ h
      show s_Ek (s_rows 3 L xs) D s_e250.1 65 [(0, .ref 151), (1, .int p1), (2, .int p2), (3, .int v3)] [] (v_mk s102) _
      refine s_ek_bk 2 (P := 2) (ls' := [(3, .int (v3 + 1)), (0, .ref 151), (1, .int p1), (2, .int p2)]) (st' := []) (M' := v_mk s102) rfl ?_
      refine v_ls (ls' := [(0, .ref 151), (1, .int p1), (2, .int p2), (3, .int (v3 + 1))]) ⟨rfl, rfl, rfl, rfl, trivial⟩ (show ([0, 1, 2, 3] : List Nat).Nodup from by decide) ?_
      exact ih _ _ h
set_option maxRecDepth 20000 in
set_option maxHeartbeats 4000000 in
theorem t_Md_canBe {L : Nat} {xs : Nat → Int32} {b : Int32} {c : Int32} {D : Nat} {r : Int32} {s s' : vS} (h : f_Md_canBe b c s = some (r, s')) (hD : 5 ≤ D) : s_Ek (s_rows 3 L xs) D s_e250.1 0 (lv_args 0 [.ref 151, .int b, .int c]) [] (v_mk s) (v_Q (some (.int r)) s') := by
  unfold f_Md_canBe at h
  show s_Ek (s_rows 3 L xs) D s_e250.1 0 [(0, .ref 151), (1, .int b), (2, .int c)] [] (v_mk s) _
  refine s_ek_bk 2 (P := 2) (ls' := [(3, .int (-1)), (0, .ref 151), (1, .int b), (2, .int c)]) (st' := []) (M' := v_mk s) rfl ?_
  refine v_ls (ls' := [(0, .ref 151), (1, .int b), (2, .int c), (3, .int (-1))]) ⟨rfl, rfl, rfl, rfl, trivial⟩ (show ([0, 1, 2, 3] : List Nat).Nodup from by decide) ?_
  refine t_Md_canBe_L2 (by omega) (fun s1 h => ?_) 4096 _ _ h
  show s_Ek (s_rows 3 L xs) D s_e250.1 71 [] [] (v_mk s1) _
  refine s_ek_bk 1 (P := 72) (ls' := []) (st' := [.int 0]) (M' := v_mk s1) rfl ?_
  obtain ⟨rfl, rfl⟩ := v_so h
  exact v_ret (fun _ => rfl)
