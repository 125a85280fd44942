/-! functions over the store, and the runs that they stand for: Md_caseOf Md_numberOf Md_isCase Md_standing Md_thereMany Md_of Md_kindness Md_isAhead Md_holder Md_verdictIn Md_speaks Md_verdict Md_rowFault Md_caseAt Md_dueAt Md_isTwo -/
noncomputable def f_Md_caseOf (b : Int32) (s : vS) : Option (Int32 × vS) := (some (((((b / (100 : Int32)) * (25 : Int32)) + (((b / (10 : Int32)) - (b / (10 : Int32)) / (10 : Int32) * (10 : Int32)) * (5 : Int32))) + (b - b / (10 : Int32) * (10 : Int32))), s))
set_option maxRecDepth 20000 in
set_option maxHeartbeats 4000000 in
theorem t_Md_caseOf {L : Nat} {xs : Nat → Int32} {b : Int32} {D : Nat} {r : Int32} {s s' : vS} (h : f_Md_caseOf b s = some (r, s')) (hD : 0 ≤ D) : s_Ek (s_rows 3 L xs) D s_e224.1 0 (lv_args 0 [.int b]) [] (v_mk s) (v_Q (some (.int r)) s') := by
  unfold f_Md_caseOf at h
  show s_Ek (s_rows 3 L xs) D s_e224.1 0 [(0, .int b)] [] (v_mk s) _
  refine s_ek_bk 17 (P := 22) (ls' := [(0, .int b)]) (st' := [.int ((((b / (100 : Int32)) * (25 : Int32)) + (((b / (10 : Int32)) - (b / (10 : Int32)) / (10 : Int32) * (10 : Int32)) * (5 : Int32))) + (b - b / (10 : Int32) * (10 : Int32)))]) (M' := v_mk s) rfl ?_
  obtain ⟨rfl, rfl⟩ := v_so h
  exact v_ret (fun _ => rfl)
noncomputable def f_Md_numberOf (b : Int32) (s : vS) : Option (Int32 × vS) := (some (((((100 : Int32) * (b / (25 : Int32))) + ((10 : Int32) * ((b / (5 : Int32)) - (b / (5 : Int32)) / (5 : Int32) * (5 : Int32)))) + (b - b / (5 : Int32) * (5 : Int32))), s))
set_option maxRecDepth 20000 in
set_option maxHeartbeats 4000000 in
theorem t_Md_numberOf {L : Nat} {xs : Nat → Int32} {b : Int32} {D : Nat} {r : Int32} {s s' : vS} (h : f_Md_numberOf b s = some (r, s')) (hD : 0 ≤ D) : s_Ek (s_rows 3 L xs) D s_e225.1 0 (lv_args 0 [.int b]) [] (v_mk s) (v_Q (some (.int r)) s') := by
  unfold f_Md_numberOf at h
  show s_Ek (s_rows 3 L xs) D s_e225.1 0 [(0, .int b)] [] (v_mk s) _
  refine s_ek_bk 17 (P := 20) (ls' := [(0, .int b)]) (st' := [.int ((((100 : Int32) * (b / (25 : Int32))) + ((10 : Int32) * ((b / (5 : Int32)) - (b / (5 : Int32)) / (5 : Int32) * (5 : Int32)))) + (b - b / (5 : Int32) * (5 : Int32)))]) (M' := v_mk s) rfl ?_
  obtain ⟨rfl, rfl⟩ := v_so h
  exact v_ret (fun _ => rfl)
noncomputable def f_Md_isCase (b : Int32) (s : vS) : Option (Int32 × vS) := (v_bi (f_Md_in b 0 444 s) (fun r1 s1 => (if r1.toInt = 0 then (some (0, s1)) else (if 4 < ((b / (10 : Int32)) - (b / (10 : Int32)) / (10 : Int32) * (10 : Int32)).toInt then (some (0, s1)) else (if 4 < (b - b / (10 : Int32) * (10 : Int32)).toInt then (some (0, s1)) else (some (1, s1)))))))
set_option maxRecDepth 20000 in
set_option maxHeartbeats 4000000 in
theorem t_Md_isCase {L : Nat} {xs : Nat → Int32} {b : Int32} {D : Nat} {r : Int32} {s s' : vS} (h : f_Md_isCase b s = some (r, s')) (hD : 1 ≤ D) : s_Ek (s_rows 3 L xs) D s_e226.1 0 (lv_args 0 [.int b]) [] (v_mk s) (v_Q (some (.int r)) s') := by
  unfold f_Md_isCase at h
  show s_Ek (s_rows 3 L xs) D s_e226.1 0 [(0, .int b)] [] (v_mk s) _
  refine s_ek_bk 3 (P := 5) (ls' := [(0, .int b)]) (st' := [.int 444, .int 0, .int b]) (M' := v_mk s) rfl ?_
  obtain ⟨r1, s1, e1, h⟩ := v_bd h
  refine v_cS (ν := s_e181.1) (w := 1451) (as := [.int b, .int 0, .int 444]) (r := []) (o := some (.int r1)) (by omega) rfl rfl rfl rfl (t_Md_in e1 (by omega)) ?_
  show s_Ek (s_rows 3 L xs) D s_e226.1 8 [(0, .int b)] [.int r1] (v_mk s1) _
  rcases v_if h with ⟨c2, h⟩ | ⟨c2, h⟩
  · refine v_i1t (T := 34) rfl rfl c2 ?_
    refine s_ek_bk 1 (P := 35) (ls' := [(0, .int b)]) (st' := [.int 0]) (M' := v_mk s1) rfl ?_
    obtain ⟨rfl, rfl⟩ := v_so h
    exact v_ret (fun _ => rfl)
  · refine v_i1f (T := 34) rfl rfl c2 ?_
    refine s_ek_bk 6 (P := 19) (ls' := [(0, .int b)]) (st' := [.int 4, .int ((b / (10 : Int32)) - (b / (10 : Int32)) / (10 : Int32) * (10 : Int32))]) (M' := v_mk s1) rfl ?_
    rcases v_if h with ⟨c3, h⟩ | ⟨c3, h⟩
    · refine v_i2t (T := 34) rfl rfl c3 ?_
      refine s_ek_bk 1 (P := 35) (ls' := [(0, .int b)]) (st' := [.int 0]) (M' := v_mk s1) rfl ?_
      obtain ⟨rfl, rfl⟩ := v_so h
      exact v_ret (fun _ => rfl)
    · refine v_i2f (T := 34) rfl rfl c3 ?_
      refine s_ek_bk 4 (P := 27) (ls' := [(0, .int b)]) (st' := [.int 4, .int (b - b / (10 : Int32) * (10 : Int32))]) (M' := v_mk s1) rfl ?_
      rcases v_if h with ⟨c4, h⟩ | ⟨c4, h⟩
      · refine v_i2t (T := 34) rfl rfl c4 ?_
        refine s_ek_bk 1 (P := 35) (ls' := [(0, .int b)]) (st' := [.int 0]) (M' := v_mk s1) rfl ?_
        obtain ⟨rfl, rfl⟩ := v_so h
        exact v_ret (fun _ => rfl)
      · refine v_i2f (T := 34) rfl rfl c4 ?_
        refine s_ek_bk 2 (P := 35) (ls' := [(0, .int b)]) (st' := [.int 1]) (M' := v_mk s1) rfl ?_
        obtain ⟨rfl, rfl⟩ := v_so h
        exact v_ret (fun _ => rfl)
noncomputable def f_Md_standing_L4b (k30 : Int32 → vS → Option (Int32 × vS)) (again : Int32 → Int32 → vS → Option (Int32 × vS)) (v1 : Int32) (v2 : Int32) (s : vS) : Option (Int32 × vS) := (if (s.1 151 14).toInt ≤ v2.toInt then (k30 v1 s) else (if v_in v2 11 then (if (s.1 170 (Int32.toNatClampNeg v2)).toInt = 0 then (again v1 (v2 + 1) s) else (again (v1 + 1) (v2 + 1) s)) else none))
noncomputable def f_Md_standing_L4 (k30 : Int32 → vS → Option (Int32 × vS)) (n : Nat) : Int32 → Int32 → vS → Option (Int32 × vS) := Nat.rec (motive := fun _ => Int32 → Int32 → vS → Option (Int32 × vS)) (fun _ _ _ => none) (fun _ again => f_Md_standing_L4b k30 again) n
noncomputable def f_Md_standing (s : vS) : Option (Int32 × vS) := (f_Md_standing_L4 (fun w1 s2 => (some (w1, s2))) 4096 0 0 s)
set_option maxRecDepth 20000 in
set_option maxHeartbeats 4000000 in
theorem t_Md_standing_L4 {L : Nat} {xs : Nat → Int32} {k30 : Int32 → vS → Option (Int32 × vS)} {D : Nat} (hD : 0 ≤ D) {r : Int32} {s' : vS} (hk30 : ∀ (v1 : Int32) (s : vS), k30 v1 s = some (r, s') → s_Ek (s_rows 3 L xs) D s_e227.1 30 [(1, .int v1)] [] (v_mk s) (v_Q (some (.int r)) s')) : ∀ (n : Nat) (v1 : Int32) (v2 : Int32) (s : vS), f_Md_standing_L4 k30 n v1 v2 s = some (r, s') → s_Ek (s_rows 3 L xs) D s_e227.1 4 [(0, .ref 151), (1, .int v1), (2, .int v2)] [] (v_mk s) (v_Q (some (.int r)) s') := by
  intro n
  induction n with
  | zero => intro v1 v2 s h; exact nomatch (show (none : Option (Int32 × vS)) = some (r, s') from h)
  | succ n ih =>
    intro v1 v2 s h
    replace h : f_Md_standing_L4b k30 (f_Md_standing_L4 k30 n) v1 v2 s = some (r, s') := h
    unfold f_Md_standing_L4b at h
    refine s_ek_bk 2 (P := 6) (ls' := [(0, .ref 151), (1, .int v1), (2, .int v2)]) (st' := [.ref 151, .int v2]) (M' := v_mk s) rfl ?_
    refine v_gf rfl (v_gi (rfl : v_kd 151 = 11) rfl ⟨rfl, rfl, by decide⟩) ?_
    rcases v_if h with ⟨c101, h⟩ | ⟨c101, h⟩
    · refine v_i2t (T := 30) rfl rfl c101 ?_
      refine v_ls (ls' := [(1, .int v1)]) ⟨rfl, trivial⟩ (show ([1] : List Nat).Nodup from by decide) ?_
      exact hk30 _ _ h
    · refine v_i2f (T := 30) rfl rfl c101 ?_
      refine s_ek_bk 1 (P := 13) (ls' := [(0, .ref 151), (1, .int v1), (2, .int v2)]) (st' := [.ref 151]) (M' := v_mk s) rfl ?_
      refine v_gf rfl (v_gr (rfl : v_kd 151 = 11) (rfl : v_sl 151 29 = .ref 170) ⟨rfl, rfl, by decide⟩) ?_
      refine s_ek_bk 1 (P := 17) (ls' := [(0, .ref 151), (1, .int v1), (2, .int v2)]) (st' := [.int v2, .ref 170]) (M' := v_mk s) rfl ?_
      obtain ⟨c102, h⟩ := v_ck h
      refine v_ba (i := v2) rfl (v_ai (rfl : v_kd 170 = 16) rfl (by decide) v_all16 (v_cn (rfl : v_ln 170 = 11) c102)) ?_
      rcases v_if h with ⟨c103, h⟩ | ⟨c103, h⟩
      · refine v_i1t (T := 24) rfl rfl c103 ?_
        refine s_ek_bk 2 (P := 4) (ls' := [(2, .int (v2 + 1)), (0, .ref 151), (1, .int v1)]) (st' := []) (M' := v_mk s) rfl ?_
        refine v_ls (ls' := [(0, .ref 151), (1, .int v1), (2, .int (v2 + 1))]) ⟨rfl, rfl, rfl, trivial⟩ (show ([0, 1, 2] : List Nat).Nodup from by decide) ?_
        exact ih _ _ _ h
      · refine v_i1f (T := 24) rfl rfl c103 ?_
        refine s_ek_bk 3 (P := 4) (ls' := [(2, .int (v2 + 1)), (1, .int (v1 + 1)), (0, .ref 151)]) (st' := []) (M' := v_mk s) rfl ?_
        refine v_ls (ls' := [(0, .ref 151), (1, .int (v1 + 1)), (2, .int (v2 + 1))]) ⟨rfl, rfl, rfl, trivial⟩ (show ([0, 1, 2] : List Nat).Nodup from by decide) ?_
        exact ih _ _ _ h
set_option maxRecDepth 20000 in
set_option maxHeartbeats 4000000 in
theorem t_Md_standing {L : Nat} {xs : Nat → Int32} {D : Nat} {r : Int32} {s s' : vS} (h : f_Md_standing s = some (r, s')) (hD : 0 ≤ D) : s_Ek (s_rows 3 L xs) D s_e227.1 0 (lv_args 0 [.ref 151]) [] (v_mk s) (v_Q (some (.int r)) s') := by
  unfold f_Md_standing at h
  show s_Ek (s_rows 3 L xs) D s_e227.1 0 [(0, .ref 151)] [] (v_mk s) _
  refine s_ek_bk 4 (P := 4) (ls' := [(2, .int 0), (1, .int 0), (0, .ref 151)]) (st' := []) (M' := v_mk s) rfl ?_
  refine v_ls (ls' := [(0, .ref 151), (1, .int 0), (2, .int 0)]) ⟨rfl, rfl, rfl, trivial⟩ (show ([0, 1, 2] : List Nat).Nodup from by decide) ?_
  refine t_Md_standing_L4 (by omega) (fun w1 s2 h => ?_) 4096 _ _ _ h
  show s_Ek (s_rows 3 L xs) D s_e227.1 30 [(1, .int w1)] [] (v_mk s2) _
  refine s_ek_bk 1 (P := 31) (ls' := [(1, .int w1)]) (st' := [.int w1]) (M' := v_mk s2) rfl ?_
  obtain ⟨rfl, rfl⟩ := v_so h
  exact v_ret (fun _ => rfl)
noncomputable def f_Md_thereMany_L4b (k29 : Int32 → vS → Option (Int32 × vS)) (again : Int32 → Int32 → vS → Option (Int32 × vS)) (v1 : Int32) (v2 : Int32) (s : vS) : Option (Int32 × vS) := (if (s.1 151 14).toInt ≤ v2.toInt then (k29 v1 s) else (v_bi (f_Md_isThere v2 s) (fun r102 s102 => (if r102.toInt = 0 then (again v1 (v2 + 1) s102) else (again (v1 + 1) (v2 + 1) s102)))))
noncomputable def f_Md_thereMany_L4 (k29 : Int32 → vS → Option (Int32 × vS)) (n : Nat) : Int32 → Int32 → vS → Option (Int32 × vS) := Nat.rec (motive := fun _ => Int32 → Int32 → vS → Option (Int32 × vS)) (fun _ _ _ => none) (fun _ again => f_Md_thereMany_L4b k29 again) n
noncomputable def f_Md_thereMany (s : vS) : Option (Int32 × vS) := (f_Md_thereMany_L4 (fun w1 s2 => (some (w1, s2))) 4096 0 0 s)
set_option maxRecDepth 20000 in
set_option maxHeartbeats 4000000 in
theorem t_Md_thereMany_L4 {L : Nat} {xs : Nat → Int32} {k29 : Int32 → vS → Option (Int32 × vS)} {D : Nat} (hD : 1 ≤ D) {r : Int32} {s' : vS} (hk29 : ∀ (v1 : Int32) (s : vS), k29 v1 s = some (r, s') → s_Ek (s_rows 3 L xs) D s_e228.1 29 [(1, .int v1)] [] (v_mk s) (v_Q (some (.int r)) s')) : ∀ (n : Nat) (v1 : Int32) (v2 : Int32) (s : vS), f_Md_thereMany_L4 k29 n v1 v2 s = some (r, s') → s_Ek (s_rows 3 L xs) D s_e228.1 4 [(0, .ref 151), (1, .int v1), (2, .int v2)] [] (v_mk s) (v_Q (some (.int r)) s') := by
  intro n
  induction n with
  | zero => intro v1 v2 s h; exact nomatch (show (none : Option (Int32 × vS)) = some (r, s') from h)
  | succ n ih =>
    intro v1 v2 s h
    replace h : f_Md_thereMany_L4b k29 (f_Md_thereMany_L4 k29 n) v1 v2 s = some (r, s') := h
    unfold f_Md_thereMany_L4b at h
    refine s_ek_bk 2 (P := 6) (ls' := [(0, .ref 151), (1, .int v1), (2, .int v2)]) (st' := [.ref 151, .int v2]) (M' := v_mk s) rfl ?_
    refine v_gf rfl (v_gi (rfl : v_kd 151 = 11) rfl ⟨rfl, rfl, by decide⟩) ?_
    rcases v_if h with ⟨c101, h⟩ | ⟨c101, h⟩
    · refine v_i2t (T := 29) rfl rfl c101 ?_
      refine v_ls (ls' := [(1, .int v1)]) ⟨rfl, trivial⟩ (show ([1] : List Nat).Nodup from by decide) ?_
      exact hk29 _ _ h
    · refine v_i2f (T := 29) rfl rfl c101 ?_
      refine s_ek_bk 2 (P := 14) (ls' := [(0, .ref 151), (1, .int v1), (2, .int v2)]) (st' := [.int v2, .ref 151]) (M' := v_mk s) rfl ?_
      obtain ⟨r102, s102, e102, h⟩ := v_bd h
      refine v_cV (ν := s_e202.1) (w := 1617) (a := 151) (as' := [.int v2]) (r := []) (o := some (.int r102)) (by omega) rfl rfl rfl (v_mk_kd (k := 11) (rfl : v_kd 151 = 11) (by decide)) rfl (t_Md_isThere e102 (by omega)) ?_
      show s_Ek (s_rows 3 L xs) D s_e228.1 17 [(0, .ref 151), (1, .int v1), (2, .int v2)] [.int r102] (v_mk s102) _
      rcases v_if h with ⟨c103, h⟩ | ⟨c103, h⟩
      · refine v_i1t (T := 23) rfl rfl c103 ?_
        refine s_ek_bk 2 (P := 4) (ls' := [(2, .int (v2 + 1)), (0, .ref 151), (1, .int v1)]) (st' := []) (M' := v_mk s102) rfl ?_
        refine v_ls (ls' := [(0, .ref 151), (1, .int v1), (2, .int (v2 + 1))]) ⟨rfl, rfl, rfl, trivial⟩ (show ([0, 1, 2] : List Nat).Nodup from by decide) ?_
        exact ih _ _ _ h
      · refine v_i1f (T := 23) rfl rfl c103 ?_
        refine s_ek_bk 3 (P := 4) (ls' := [(2, .int (v2 + 1)), (1, .int (v1 + 1)), (0, .ref 151)]) (st' := []) (M' := v_mk s102) rfl ?_
        refine v_ls (ls' := [(0, .ref 151), (1, .int (v1 + 1)), (2, .int (v2 + 1))]) ⟨rfl, rfl, rfl, trivial⟩ (show ([0, 1, 2] : List Nat).Nodup from by decide) ?_
        exact ih _ _ _ h
set_option maxRecDepth 20000 in
set_option maxHeartbeats 4000000 in
theorem t_Md_thereMany {L : Nat} {xs : Nat → Int32} {D : Nat} {r : Int32} {s s' : vS} (h : f_Md_thereMany s = some (r, s')) (hD : 1 ≤ D) : s_Ek (s_rows 3 L xs) D s_e228.1 0 (lv_args 0 [.ref 151]) [] (v_mk s) (v_Q (some (.int r)) s') := by
  unfold f_Md_thereMany at h
  show s_Ek (s_rows 3 L xs) D s_e228.1 0 [(0, .ref 151)] [] (v_mk s) _
  refine s_ek_bk 4 (P := 4) (ls' := [(2, .int 0), (1, .int 0), (0, .ref 151)]) (st' := []) (M' := v_mk s) rfl ?_
  refine v_ls (ls' := [(0, .ref 151), (1, .int 0), (2, .int 0)]) ⟨rfl, rfl, rfl, trivial⟩ (show ([0, 1, 2] : List Nat).Nodup from by decide) ?_
  refine t_Md_thereMany_L4 (by omega) (fun w1 s2 h => ?_) 4096 _ _ _ h
  show s_Ek (s_rows 3 L xs) D s_e228.1 29 [(1, .int w1)] [] (v_mk s2) _
  refine s_ek_bk 1 (P := 30) (ls' := [(1, .int w1)]) (st' := [.int w1]) (M' := v_mk s2) rfl ?_
  obtain ⟨rfl, rfl⟩ := v_so h
  exact v_ret (fun _ => rfl)
noncomputable def f_Md_of (b : Int32) (c : Int32) (s : vS) : Option (Int32 × vS) := (if c.toInt = 10 then (v_bi (f_Md_in b 0 2 s) (fun r2 s2 => (if r2.toInt = 0 then (some ((-2000000000), s2)) else (v_bi (f_Md_meaning b s2) (fun r4 s4 => (some (r4, s4))))))) else (v_bi (f_Md_in c 20 21 s) (fun r5 s5 => (if r5.toInt = 0 then (v_bi (f_Md_in c 0 5 s5) (fun r7 s7 => (if r7.toInt = 0 then (some ((-2000000000), s7)) else (v_bi (f_Md_isLaw b s7) (fun r9 s9 => (if r9.toInt = 0 then (some ((-2000000000), s9)) else (v_bi (f_Md_findAll s9) (fun _ s11 => (if c.toInt < 0 ∨ 4 < c.toInt then (if v_in b 11 then (some ((s11.1 172 (Int32.toNatClampNeg b)), s11)) else none) else (if c.toInt = 0 then (if v_in b 11 then (some ((s11.1 160 (Int32.toNatClampNeg b)), s11)) else none) else (if c.toInt = 1 then (if v_in b 11 then (some ((s11.1 161 (Int32.toNatClampNeg b)), s11)) else none) else (if c.toInt = 2 then (if v_in b 11 then (some ((s11.1 162 (Int32.toNatClampNeg b)), s11)) else none) else (if c.toInt = 3 then (v_bi (f_Md_isThere b s11) (fun r21 s21 => (if r21.toInt = 0 then (some (0, s21)) else (some (1, s21))))) else (if v_in b 11 then (if (s11.1 170 (Int32.toNatClampNeg b)).toInt = 0 then (some (0, s11)) else (some (1, s11))) else none)))))))))))))) else (if b.toInt = 0 then (if c.toInt = 20 then (some ((s5.1 151 18), s5)) else (some ((s5.1 151 19), s5))) else (some ((-2000000000), s5)))))))
set_option maxRecDepth 20000 in
set_option maxHeartbeats 4000000 in
theorem t_Md_of {L : Nat} {xs : Nat → Int32} {b : Int32} {c : Int32} {D : Nat} {r : Int32} {s s' : vS} (h : f_Md_of b c s = some (r, s')) (hD : 6 ≤ D) : s_Ek (s_rows 3 L xs) D s_e229.1 0 (lv_args 0 [.ref 151, .int b, .int c]) [] (v_mk s) (v_Q (some (.int r)) s') := by
  unfold f_Md_of at h
  show s_Ek (s_rows 3 L xs) D s_e229.1 0 [(0, .ref 151), (1, .int b), (2, .int c)] [] (v_mk s) _
  refine s_ek_bk 2 (P := 3) (ls' := [(0, .ref 151), (1, .int b), (2, .int c)]) (st' := [.int 10, .int c]) (M' := v_mk s) rfl ?_
  rcases v_if h with ⟨c1, h⟩ | ⟨c1, h⟩
  · refine v_i2f (T := 26) rfl rfl (fun q => q c1) ?_
    refine s_ek_bk 3 (P := 9) (ls' := [(0, .ref 151), (1, .int b), (2, .int c)]) (st' := [.int 2, .int 0, .int b]) (M' := v_mk s) rfl ?_
    obtain ⟨r2, s2, e2, h⟩ := v_bd h
    refine v_cS (ν := s_e181.1) (w := 1451) (as := [.int b, .int 0, .int 2]) (r := []) (o := some (.int r2)) (by omega) rfl rfl rfl rfl (t_Md_in e2 (by omega)) ?_
    show s_Ek (s_rows 3 L xs) D s_e229.1 12 [(0, .ref 151), (1, .int b), (2, .int c)] [.int r2] (v_mk s2) _
    rcases v_if h with ⟨c3, h⟩ | ⟨c3, h⟩
    · refine v_i1t (T := 23) rfl rfl c3 ?_
      refine s_ek_bk 1 (P := 25) (ls' := [(0, .ref 151), (1, .int b), (2, .int c)]) (st' := [.int (-2000000000)]) (M' := v_mk s2) rfl ?_
      obtain ⟨rfl, rfl⟩ := v_so h
      exact v_ret (fun _ => rfl)
    · refine v_i1f (T := 23) rfl rfl c3 ?_
      refine s_ek_bk 2 (P := 17) (ls' := [(0, .ref 151), (1, .int b), (2, .int c)]) (st' := [.int b, .ref 151]) (M' := v_mk s2) rfl ?_
      obtain ⟨r4, s4, e4, h⟩ := v_bd h
      refine v_cV (ν := s_e215.1) (w := 1721) (a := 151) (as' := [.int b]) (r := []) (o := some (.int r4)) (by omega) rfl rfl rfl (v_mk_kd (k := 11) (rfl : v_kd 151 = 11) (by decide)) rfl (t_Md_meaning e4 (by omega)) ?_
      show s_Ek (s_rows 3 L xs) D s_e229.1 20 [(0, .ref 151), (1, .int b), (2, .int c)] [.int r4] (v_mk s4) _
      refine s_ek_bk 1 (P := 25) (ls' := [(0, .ref 151), (1, .int b), (2, .int c)]) (st' := [.int r4]) (M' := v_mk s4) rfl ?_
      obtain ⟨rfl, rfl⟩ := v_so h
      exact v_ret (fun _ => rfl)
  · refine v_i2t (T := 26) rfl rfl c1 ?_
    refine s_ek_bk 3 (P := 31) (ls' := [(0, .ref 151), (1, .int b), (2, .int c)]) (st' := [.int 21, .int 20, .int c]) (M' := v_mk s) rfl ?_
    obtain ⟨r5, s5, e5, h⟩ := v_bd h
    refine v_cS (ν := s_e181.1) (w := 1451) (as := [.int c, .int 20, .int 21]) (r := []) (o := some (.int r5)) (by omega) rfl rfl rfl rfl (t_Md_in e5 (by omega)) ?_
    show s_Ek (s_rows 3 L xs) D s_e229.1 34 [(0, .ref 151), (1, .int b), (2, .int c)] [.int r5] (v_mk s5) _
    rcases v_if h with ⟨c6, h⟩ | ⟨c6, h⟩
    · refine v_i1t (T := 64) rfl rfl c6 ?_
      refine s_ek_bk 3 (P := 67) (ls' := [(0, .ref 151), (1, .int b), (2, .int c)]) (st' := [.int 5, .int 0, .int c]) (M' := v_mk s5) rfl ?_
      obtain ⟨r7, s7, e7, h⟩ := v_bd h
      refine v_cS (ν := s_e181.1) (w := 1451) (as := [.int c, .int 0, .int 5]) (r := []) (o := some (.int r7)) (by omega) rfl rfl rfl rfl (t_Md_in e7 (by omega)) ?_
      show s_Ek (s_rows 3 L xs) D s_e229.1 70 [(0, .ref 151), (1, .int b), (2, .int c)] [.int r7] (v_mk s7) _
      rcases v_if h with ⟨c8, h⟩ | ⟨c8, h⟩
      · refine v_i1t (T := 81) rfl rfl c8 ?_
        refine s_ek_bk 1 (P := 83) (ls' := [(0, .ref 151), (1, .int b), (2, .int c)]) (st' := [.int (-2000000000)]) (M' := v_mk s7) rfl ?_
        obtain ⟨rfl, rfl⟩ := v_so h
        exact v_ret (fun _ => rfl)
      · refine v_i1f (T := 81) rfl rfl c8 ?_
        refine s_ek_bk 2 (P := 75) (ls' := [(0, .ref 151), (1, .int b), (2, .int c)]) (st' := [.int b, .ref 151]) (M' := v_mk s7) rfl ?_
        obtain ⟨r9, s9, e9, h⟩ := v_bd h
        refine v_cV (ν := s_e201.1) (w := 1609) (a := 151) (as' := [.int b]) (r := []) (o := some (.int r9)) (by omega) rfl rfl rfl (v_mk_kd (k := 11) (rfl : v_kd 151 = 11) (by decide)) rfl (t_Md_isLaw e9 (by omega)) ?_
        show s_Ek (s_rows 3 L xs) D s_e229.1 78 [(0, .ref 151), (1, .int b), (2, .int c)] [.int r9] (v_mk s9) _
        rcases v_if h with ⟨c10, h⟩ | ⟨c10, h⟩
        · refine v_i1f (T := 84) rfl rfl (fun q => q c10) ?_
          refine s_ek_bk 1 (P := 83) (ls' := [(0, .ref 151), (1, .int b), (2, .int c)]) (st' := [.int (-2000000000)]) (M' := v_mk s9) rfl ?_
          obtain ⟨rfl, rfl⟩ := v_so h
          exact v_ret (fun _ => rfl)
        · refine v_i1t (T := 84) rfl rfl c10 ?_
          refine s_ek_bk 1 (P := 85) (ls' := [(0, .ref 151), (1, .int b), (2, .int c)]) (st' := [.ref 151]) (M' := v_mk s9) rfl ?_
          obtain ⟨r11, s11, e11, h⟩ := v_bd h
          refine v_cV (ν := s_e223.1) (w := 1784) (a := 151) (as' := []) (r := []) (o := none) (by omega) rfl rfl rfl (v_mk_kd (k := 11) (rfl : v_kd 151 = 11) (by decide)) rfl (t_Md_findAll e11 (by omega)) ?_
          show s_Ek (s_rows 3 L xs) D s_e229.1 88 [(0, .ref 151), (1, .int b), (2, .int c)] [] (v_mk s11) _
          refine s_ek_bk 1 (P := 89) (ls' := [(0, .ref 151), (1, .int b), (2, .int c)]) (st' := [.int c]) (M' := v_mk s11) rfl ?_
          rcases v_if h with ⟨c12, h⟩ | ⟨c12, h⟩
          · refine v_tso (T := 174) rfl rfl c12 ?_
            refine s_ek_bk 1 (P := 175) (ls' := [(0, .ref 151), (1, .int b), (2, .int c)]) (st' := [.ref 151]) (M' := v_mk s11) rfl ?_
            refine v_gf rfl (v_gr (rfl : v_kd 151 = 11) (rfl : v_sl 151 33 = .ref 172) ⟨rfl, rfl, by decide⟩) ?_
            refine s_ek_bk 1 (P := 179) (ls' := [(0, .ref 151), (1, .int b), (2, .int c)]) (st' := [.int b, .ref 172]) (M' := v_mk s11) rfl ?_
            obtain ⟨c13, h⟩ := v_ck h
            refine v_ia (i := b) rfl (v_ai (rfl : v_kd 172 = 13) rfl (by decide) v_all13 (v_cn (rfl : v_ln 172 = 11) c13)) ?_
            obtain ⟨rfl, rfl⟩ := v_so h
            exact v_ret (fun _ => rfl)
          · rcases v_if h with ⟨c14, h⟩ | ⟨c14, h⟩
            · refine v_tsi (T := 124) (c := 0) rfl c14 rfl ?_
              refine s_ek_bk 1 (P := 125) (ls' := [(0, .ref 151), (1, .int b), (2, .int c)]) (st' := [.ref 151]) (M' := v_mk s11) rfl ?_
              refine v_gf rfl (v_gr (rfl : v_kd 151 = 11) (rfl : v_sl 151 15 = .ref 160) ⟨rfl, rfl, by decide⟩) ?_
              refine s_ek_bk 1 (P := 129) (ls' := [(0, .ref 151), (1, .int b), (2, .int c)]) (st' := [.int b, .ref 160]) (M' := v_mk s11) rfl ?_
              obtain ⟨c15, h⟩ := v_ck h
              refine v_ia (i := b) rfl (v_ai (rfl : v_kd 160 = 13) rfl (by decide) v_all13 (v_cn (rfl : v_ln 160 = 11) c15)) ?_
              obtain ⟨rfl, rfl⟩ := v_so h
              exact v_ret (fun _ => rfl)
            · rcases v_if h with ⟨c16, h⟩ | ⟨c16, h⟩
              · refine v_tsi (T := 131) (c := 1) rfl c16 rfl ?_
                refine s_ek_bk 1 (P := 132) (ls' := [(0, .ref 151), (1, .int b), (2, .int c)]) (st' := [.ref 151]) (M' := v_mk s11) rfl ?_
                refine v_gf rfl (v_gr (rfl : v_kd 151 = 11) (rfl : v_sl 151 16 = .ref 161) ⟨rfl, rfl, by decide⟩) ?_
                refine s_ek_bk 1 (P := 136) (ls' := [(0, .ref 151), (1, .int b), (2, .int c)]) (st' := [.int b, .ref 161]) (M' := v_mk s11) rfl ?_
                obtain ⟨c17, h⟩ := v_ck h
                refine v_ia (i := b) rfl (v_ai (rfl : v_kd 161 = 13) rfl (by decide) v_all13 (v_cn (rfl : v_ln 161 = 11) c17)) ?_
                obtain ⟨rfl, rfl⟩ := v_so h
                exact v_ret (fun _ => rfl)
              · rcases v_if h with ⟨c18, h⟩ | ⟨c18, h⟩
                · refine v_tsi (T := 138) (c := 2) rfl c18 rfl ?_
                  refine s_ek_bk 1 (P := 139) (ls' := [(0, .ref 151), (1, .int b), (2, .int c)]) (st' := [.ref 151]) (M' := v_mk s11) rfl ?_
                  refine v_gf rfl (v_gr (rfl : v_kd 151 = 11) (rfl : v_sl 151 17 = .ref 162) ⟨rfl, rfl, by decide⟩) ?_
                  refine s_ek_bk 1 (P := 143) (ls' := [(0, .ref 151), (1, .int b), (2, .int c)]) (st' := [.int b, .ref 162]) (M' := v_mk s11) rfl ?_
                  obtain ⟨c19, h⟩ := v_ck h
                  refine v_ia (i := b) rfl (v_ai (rfl : v_kd 162 = 13) rfl (by decide) v_all13 (v_cn (rfl : v_ln 162 = 11) c19)) ?_
                  obtain ⟨rfl, rfl⟩ := v_so h
                  exact v_ret (fun _ => rfl)
                · rcases v_if h with ⟨c20, h⟩ | ⟨c20, h⟩
                  · refine v_tsi (T := 145) (c := 3) rfl c20 rfl ?_
                    refine s_ek_bk 2 (P := 147) (ls' := [(0, .ref 151), (1, .int b), (2, .int c)]) (st' := [.int b, .ref 151]) (M' := v_mk s11) rfl ?_
                    obtain ⟨r21, s21, e21, h⟩ := v_bd h
                    refine v_cV (ν := s_e202.1) (w := 1617) (a := 151) (as' := [.int b]) (r := []) (o := some (.int r21)) (by omega) rfl rfl rfl (v_mk_kd (k := 11) (rfl : v_kd 151 = 11) (by decide)) rfl (t_Md_isThere e21 (by omega)) ?_
                    show s_Ek (s_rows 3 L xs) D s_e229.1 150 [(0, .ref 151), (1, .int b), (2, .int c)] [.int r21] (v_mk s21) _
                    rcases v_if h with ⟨c22, h⟩ | ⟨c22, h⟩
                    · refine v_i1t (T := 157) rfl rfl c22 ?_
                      refine s_ek_bk 1 (P := 158) (ls' := [(0, .ref 151), (1, .int b), (2, .int c)]) (st' := [.int 0]) (M' := v_mk s21) rfl ?_
                      obtain ⟨rfl, rfl⟩ := v_so h
                      exact v_ret (fun _ => rfl)
                    · refine v_i1f (T := 157) rfl rfl c22 ?_
                      refine s_ek_bk 2 (P := 158) (ls' := [(0, .ref 151), (1, .int b), (2, .int c)]) (st' := [.int 1]) (M' := v_mk s21) rfl ?_
                      obtain ⟨rfl, rfl⟩ := v_so h
                      exact v_ret (fun _ => rfl)
                  · refine v_tsi (T := 159) (c := 4) rfl (by omega) rfl ?_
                    refine s_ek_bk 1 (P := 160) (ls' := [(0, .ref 151), (1, .int b), (2, .int c)]) (st' := [.ref 151]) (M' := v_mk s11) rfl ?_
                    refine v_gf rfl (v_gr (rfl : v_kd 151 = 11) (rfl : v_sl 151 29 = .ref 170) ⟨rfl, rfl, by decide⟩) ?_
                    refine s_ek_bk 1 (P := 164) (ls' := [(0, .ref 151), (1, .int b), (2, .int c)]) (st' := [.int b, .ref 170]) (M' := v_mk s11) rfl ?_
                    obtain ⟨c23, h⟩ := v_ck h
                    refine v_ba (i := b) rfl (v_ai (rfl : v_kd 170 = 16) rfl (by decide) v_all16 (v_cn (rfl : v_ln 170 = 11) c23)) ?_
                    rcases v_if h with ⟨c24, h⟩ | ⟨c24, h⟩
                    · refine v_i1t (T := 172) rfl rfl c24 ?_
                      refine s_ek_bk 1 (P := 173) (ls' := [(0, .ref 151), (1, .int b), (2, .int c)]) (st' := [.int 0]) (M' := v_mk s11) rfl ?_
                      obtain ⟨rfl, rfl⟩ := v_so h
                      exact v_ret (fun _ => rfl)
                    · refine v_i1f (T := 172) rfl rfl c24 ?_
                      refine s_ek_bk 2 (P := 173) (ls' := [(0, .ref 151), (1, .int b), (2, .int c)]) (st' := [.int 1]) (M' := v_mk s11) rfl ?_
                      obtain ⟨rfl, rfl⟩ := v_so h
                      exact v_ret (fun _ => rfl)
    · refine v_i1f (T := 64) rfl rfl c6 ?_
      refine s_ek_bk 1 (P := 38) (ls' := [(0, .ref 151), (1, .int b), (2, .int c)]) (st' := [.int b]) (M' := v_mk s5) rfl ?_
      rcases v_if h with ⟨c25, h⟩ | ⟨c25, h⟩
      · refine v_i1t (T := 46) rfl rfl c25 ?_
        refine s_ek_bk 2 (P := 49) (ls' := [(0, .ref 151), (1, .int b), (2, .int c)]) (st' := [.int 20, .int c]) (M' := v_mk s5) rfl ?_
        rcases v_if h with ⟨c26, h⟩ | ⟨c26, h⟩
        · refine v_i2f (T := 59) rfl rfl (fun q => q c26) ?_
          refine s_ek_bk 1 (P := 53) (ls' := [(0, .ref 151), (1, .int b), (2, .int c)]) (st' := [.ref 151]) (M' := v_mk s5) rfl ?_
          refine v_gf rfl (v_gi (rfl : v_kd 151 = 11) rfl ⟨rfl, rfl, by decide⟩) ?_
          refine s_ek_bk 1 (P := 63) (ls' := [(0, .ref 151), (1, .int b), (2, .int c)]) (st' := [.int (s5.1 151 18)]) (M' := v_mk s5) rfl ?_
          obtain ⟨rfl, rfl⟩ := v_so h
          exact v_ret (fun _ => rfl)
        · refine v_i2t (T := 59) rfl rfl c26 ?_
          refine s_ek_bk 1 (P := 60) (ls' := [(0, .ref 151), (1, .int b), (2, .int c)]) (st' := [.ref 151]) (M' := v_mk s5) rfl ?_
          refine v_gf rfl (v_gi (rfl : v_kd 151 = 11) rfl ⟨rfl, rfl, by decide⟩) ?_
          obtain ⟨rfl, rfl⟩ := v_so h
          exact v_ret (fun _ => rfl)
      · refine v_i1f (T := 46) rfl rfl c25 ?_
        refine s_ek_bk 2 (P := 63) (ls' := [(0, .ref 151), (1, .int b), (2, .int c)]) (st' := [.int (-2000000000)]) (M' := v_mk s5) rfl ?_
        obtain ⟨rfl, rfl⟩ := v_so h
        exact v_ret (fun _ => rfl)
noncomputable def f_Md_kindness (b : Int32) (s : vS) : Option (Int32 × vS) := (if b.toInt = 1 then (some (0, s)) else (if b.toInt = 0 then (some (1, s)) else (some (2, s))))
set_option maxRecDepth 20000 in
set_option maxHeartbeats 4000000 in
theorem t_Md_kindness {L : Nat} {xs : Nat → Int32} {b : Int32} {D : Nat} {r : Int32} {s s' : vS} (h : f_Md_kindness b s = some (r, s')) (hD : 0 ≤ D) : s_Ek (s_rows 3 L xs) D s_e230.1 0 (lv_args 0 [.int b]) [] (v_mk s) (v_Q (some (.int r)) s') := by
  unfold f_Md_kindness at h
  show s_Ek (s_rows 3 L xs) D s_e230.1 0 [(0, .int b)] [] (v_mk s) _
  refine s_ek_bk 2 (P := 2) (ls' := [(0, .int b)]) (st' := [.int 1, .int b]) (M' := v_mk s) rfl ?_
  rcases v_if h with ⟨c1, h⟩ | ⟨c1, h⟩
  · refine v_i2f (T := 9) rfl rfl (fun q => q c1) ?_
    refine s_ek_bk 2 (P := 18) (ls' := [(0, .int b)]) (st' := [.int 0]) (M' := v_mk s) rfl ?_
    obtain ⟨rfl, rfl⟩ := v_so h
    exact v_ret (fun _ => rfl)
  · refine v_i2t (T := 9) rfl rfl c1 ?_
    refine s_ek_bk 1 (P := 10) (ls' := [(0, .int b)]) (st' := [.int b]) (M' := v_mk s) rfl ?_
    rcases v_if h with ⟨c2, h⟩ | ⟨c2, h⟩
    · refine v_i1f (T := 17) rfl rfl (fun q => q c2) ?_
      refine s_ek_bk 2 (P := 18) (ls' := [(0, .int b)]) (st' := [.int 1]) (M' := v_mk s) rfl ?_
      obtain ⟨rfl, rfl⟩ := v_so h
      exact v_ret (fun _ => rfl)
    · refine v_i1t (T := 17) rfl rfl c2 ?_
      refine s_ek_bk 1 (P := 18) (ls' := [(0, .int b)]) (st' := [.int 2]) (M' := v_mk s) rfl ?_
      obtain ⟨rfl, rfl⟩ := v_so h
      exact v_ret (fun _ => rfl)
noncomputable def f_Md_isAhead (b : Int32) (c : Int32) (d : Int32) (s : vS) : Option (Int32 × vS) := (if d.toInt = 1 then (v_bi (f_Md_isOlder c b s) (fun r2 s2 => (if r2 = 0 ∨ r2 = 1 then some (r2, s2) else none))) else (if d.toInt = 2 then (if v_in b 11 then (if d.toInt = 2 then (if v_in c 11 then (if (s.1 172 (Int32.toNatClampNeg b)).toInt < (s.1 172 (Int32.toNatClampNeg c)).toInt then (some (1, s)) else (if (s.1 172 (Int32.toNatClampNeg b)).toInt = (s.1 172 (Int32.toNatClampNeg c)).toInt then (v_bi (f_Md_isOlder b c s) (fun r10 s10 => (if r10.toInt = 0 then (some (0, s10)) else (some (1, s10))))) else (some (0, s)))) else none) else (if d.toInt = 3 then (if v_in c 11 then (v_bi (f_Md_kindness (s.1 161 (Int32.toNatClampNeg c)) s) (fun r14 s14 => (if (s.1 172 (Int32.toNatClampNeg b)).toInt < r14.toInt then (some (1, s14)) else (if (s.1 172 (Int32.toNatClampNeg b)).toInt = r14.toInt then (v_bi (f_Md_isOlder b c s14) (fun r17 s17 => (if r17.toInt = 0 then (some (0, s17)) else (some (1, s17))))) else (some (0, s14)))))) else none) else (if (s.1 172 (Int32.toNatClampNeg b)).toInt < 0 then (some (1, s)) else (if (s.1 172 (Int32.toNatClampNeg b)).toInt = 0 then (v_bi (f_Md_isOlder b c s) (fun r21 s21 => (if r21.toInt = 0 then (some (0, s21)) else (some (1, s21))))) else (some (0, s)))))) else none) else (if d.toInt = 3 then (if v_in b 11 then (v_bi (f_Md_kindness (s.1 161 (Int32.toNatClampNeg b)) s) (fun r25 s25 => (if d.toInt = 2 then (if v_in c 11 then (if r25.toInt < (s25.1 172 (Int32.toNatClampNeg c)).toInt then (some (1, s25)) else (if r25.toInt = (s25.1 172 (Int32.toNatClampNeg c)).toInt then (v_bi (f_Md_isOlder b c s25) (fun r30 s30 => (if r30.toInt = 0 then (some (0, s30)) else (some (1, s30))))) else (some (0, s25)))) else none) else (if d.toInt = 3 then (if v_in c 11 then (v_bi (f_Md_kindness (s25.1 161 (Int32.toNatClampNeg c)) s25) (fun r34 s34 => (if r25.toInt < r34.toInt then (some (1, s34)) else (if r25.toInt = r34.toInt then (v_bi (f_Md_isOlder b c s34) (fun r37 s37 => (if r37.toInt = 0 then (some (0, s37)) else (some (1, s37))))) else (some (0, s34)))))) else none) else (if r25.toInt < 0 then (some (1, s25)) else (if r25.toInt = 0 then (v_bi (f_Md_isOlder b c s25) (fun r41 s41 => (if r41.toInt = 0 then (some (0, s41)) else (some (1, s41))))) else (some (0, s25)))))))) else none) else (if d.toInt = 2 then (if v_in c 11 then (if 0 < (s.1 172 (Int32.toNatClampNeg c)).toInt then (some (1, s)) else (if 0 = (s.1 172 (Int32.toNatClampNeg c)).toInt then (v_bi (f_Md_isOlder b c s) (fun r47 s47 => (if r47.toInt = 0 then (some (0, s47)) else (some (1, s47))))) else (some (0, s)))) else none) else (if d.toInt = 3 then (if v_in c 11 then (v_bi (f_Md_kindness (s.1 161 (Int32.toNatClampNeg c)) s) (fun r51 s51 => (if 0 < r51.toInt then (some (1, s51)) else (if 0 = r51.toInt then (v_bi (f_Md_isOlder b c s51) (fun r54 s54 => (if r54.toInt = 0 then (some (0, s54)) else (some (1, s54))))) else (some (0, s51)))))) else none) else (v_bi (f_Md_isOlder b c s) (fun r56 s56 => (if r56.toInt = 0 then (some (0, s56)) else (some (1, s56))))))))))
set_option maxRecDepth 20000 in
set_option maxHeartbeats 4000000 in
theorem t_Md_isAhead {L : Nat} {xs : Nat → Int32} {b : Int32} {c : Int32} {d : Int32} {D : Nat} {r : Int32} {s s' : vS} (h : f_Md_isAhead b c d s = some (r, s')) (hD : 2 ≤ D) : s_Ek (s_rows 3 L xs) D s_e231.1 0 (lv_args 0 [.ref 151, .int b, .int c, .int d]) [] (v_mk s) (v_Q (some (.int r)) s') := by
  unfold f_Md_isAhead at h
  show s_Ek (s_rows 3 L xs) D s_e231.1 0 [(0, .ref 151), (1, .int b), (2, .int c), (3, .int d)] [] (v_mk s) _
  refine s_ek_bk 2 (P := 2) (ls' := [(0, .ref 151), (1, .int b), (2, .int c), (3, .int d)]) (st' := [.int 1, .int d]) (M' := v_mk s) rfl ?_
  rcases v_if h with ⟨c1, h⟩ | ⟨c1, h⟩
  · refine v_i2f (T := 12) rfl rfl (fun q => q c1) ?_
    refine s_ek_bk 3 (P := 8) (ls' := [(0, .ref 151), (1, .int b), (2, .int c), (3, .int d)]) (st' := [.int b, .int c, .ref 151]) (M' := v_mk s) rfl ?_
    obtain ⟨r2, s2, e2, h⟩ := v_bd h
    refine v_cV (ν := s_e217.1) (w := 1738) (a := 151) (as' := [.int c, .int b]) (r := []) (o := some (.int r2)) (by omega) rfl rfl rfl (v_mk_kd (k := 11) (rfl : v_kd 151 = 11) (by decide)) rfl (t_Md_isOlder e2 (by omega)) ?_
    show s_Ek (s_rows 3 L xs) D s_e231.1 11 [(0, .ref 151), (1, .int b), (2, .int c), (3, .int d)] [.int r2] (v_mk s2) _
    obtain ⟨c3, h⟩ := v_ck h
    obtain ⟨rfl, rfl⟩ := v_so h
    exact v_zret rfl rfl c3
  · refine v_i2t (T := 12) rfl rfl c1 ?_
    refine s_ek_bk 2 (P := 14) (ls' := [(0, .ref 151), (1, .int b), (2, .int c), (3, .int d)]) (st' := [.int 2, .int d]) (M' := v_mk s) rfl ?_
    rcases v_if h with ⟨c4, h⟩ | ⟨c4, h⟩
    · refine v_i2f (T := 26) rfl rfl (fun q => q c4) ?_
      refine s_ek_bk 1 (P := 18) (ls' := [(0, .ref 151), (1, .int b), (2, .int c), (3, .int d)]) (st' := [.ref 151]) (M' := v_mk s) rfl ?_
      refine v_gf rfl (v_gr (rfl : v_kd 151 = 11) (rfl : v_sl 151 33 = .ref 172) ⟨rfl, rfl, by decide⟩) ?_
      refine s_ek_bk 1 (P := 22) (ls' := [(0, .ref 151), (1, .int b), (2, .int c), (3, .int d)]) (st' := [.int b, .ref 172]) (M' := v_mk s) rfl ?_
      obtain ⟨c5, h⟩ := v_ck h
      refine v_ia (i := b) rfl (v_ai (rfl : v_kd 172 = 13) rfl (by decide) v_all13 (v_cn (rfl : v_ln 172 = 11) c5)) ?_
      refine s_ek_bk 4 (P := 48) (ls' := [(4, .int (s.1 172 (Int32.toNatClampNeg b))), (0, .ref 151), (1, .int b), (2, .int c), (3, .int d)]) (st' := [.int 2, .int d]) (M' := v_mk s) rfl ?_
      rcases v_if h with ⟨c6, h⟩ | ⟨c6, h⟩
      · refine v_i2f (T := 60) rfl rfl (fun q => q c6) ?_
        refine s_ek_bk 1 (P := 52) (ls' := [(4, .int (s.1 172 (Int32.toNatClampNeg b))), (0, .ref 151), (1, .int b), (2, .int c), (3, .int d)]) (st' := [.ref 151]) (M' := v_mk s) rfl ?_
        refine v_gf rfl (v_gr (rfl : v_kd 151 = 11) (rfl : v_sl 151 33 = .ref 172) ⟨rfl, rfl, by decide⟩) ?_
        refine s_ek_bk 1 (P := 56) (ls' := [(4, .int (s.1 172 (Int32.toNatClampNeg b))), (0, .ref 151), (1, .int b), (2, .int c), (3, .int d)]) (st' := [.int c, .ref 172]) (M' := v_mk s) rfl ?_
        obtain ⟨c7, h⟩ := v_ck h
        refine v_ia (i := c) rfl (v_ai (rfl : v_kd 172 = 13) rfl (by decide) v_all13 (v_cn (rfl : v_ln 172 = 11) c7)) ?_
        refine s_ek_bk 4 (P := 84) (ls' := [(5, .int (s.1 172 (Int32.toNatClampNeg c))), (4, .int (s.1 172 (Int32.toNatClampNeg b))), (0, .ref 151), (1, .int b), (2, .int c), (3, .int d)]) (st' := [.int (s.1 172 (Int32.toNatClampNeg c)), .int (s.1 172 (Int32.toNatClampNeg b))]) (M' := v_mk s) rfl ?_
        rcases v_if h with ⟨c8, h⟩ | ⟨c8, h⟩
        · refine v_i2t (T := 103) rfl rfl c8 ?_
          refine s_ek_bk 2 (P := 108) (ls' := [(5, .int (s.1 172 (Int32.toNatClampNeg c))), (4, .int (s.1 172 (Int32.toNatClampNeg b))), (0, .ref 151), (1, .int b), (2, .int c), (3, .int d)]) (st' := [.int 1]) (M' := v_mk s) rfl ?_
          obtain ⟨rfl, rfl⟩ := v_so h
          exact v_ret (fun _ => rfl)
        · refine v_i2f (T := 103) rfl rfl c8 ?_
          refine s_ek_bk 2 (P := 91) (ls' := [(5, .int (s.1 172 (Int32.toNatClampNeg c))), (4, .int (s.1 172 (Int32.toNatClampNeg b))), (0, .ref 151), (1, .int b), (2, .int c), (3, .int d)]) (st' := [.int (s.1 172 (Int32.toNatClampNeg c)), .int (s.1 172 (Int32.toNatClampNeg b))]) (M' := v_mk s) rfl ?_
          rcases v_if h with ⟨c9, h⟩ | ⟨c9, h⟩
          · refine v_i2f (T := 107) rfl rfl (fun q => q c9) ?_
            refine s_ek_bk 3 (P := 97) (ls' := [(5, .int (s.1 172 (Int32.toNatClampNeg c))), (4, .int (s.1 172 (Int32.toNatClampNeg b))), (0, .ref 151), (1, .int b), (2, .int c), (3, .int d)]) (st' := [.int c, .int b, .ref 151]) (M' := v_mk s) rfl ?_
            obtain ⟨r10, s10, e10, h⟩ := v_bd h
            refine v_cV (ν := s_e217.1) (w := 1738) (a := 151) (as' := [.int b, .int c]) (r := []) (o := some (.int r10)) (by omega) rfl rfl rfl (v_mk_kd (k := 11) (rfl : v_kd 151 = 11) (by decide)) rfl (t_Md_isOlder e10 (by omega)) ?_
            show s_Ek (s_rows 3 L xs) D s_e231.1 100 [(5, .int (s.1 172 (Int32.toNatClampNeg c))), (4, .int (s.1 172 (Int32.toNatClampNeg b))), (0, .ref 151), (1, .int b), (2, .int c), (3, .int d)] [.int r10] (v_mk s10) _
            rcases v_if h with ⟨c11, h⟩ | ⟨c11, h⟩
            · refine v_i1t (T := 107) rfl rfl c11 ?_
              refine s_ek_bk 1 (P := 108) (ls' := [(5, .int (s.1 172 (Int32.toNatClampNeg c))), (4, .int (s.1 172 (Int32.toNatClampNeg b))), (0, .ref 151), (1, .int b), (2, .int c), (3, .int d)]) (st' := [.int 0]) (M' := v_mk s10) rfl ?_
              obtain ⟨rfl, rfl⟩ := v_so h
              exact v_ret (fun _ => rfl)
            · refine v_i1f (T := 107) rfl rfl c11 ?_
              refine s_ek_bk 2 (P := 108) (ls' := [(5, .int (s.1 172 (Int32.toNatClampNeg c))), (4, .int (s.1 172 (Int32.toNatClampNeg b))), (0, .ref 151), (1, .int b), (2, .int c), (3, .int d)]) (st' := [.int 1]) (M' := v_mk s10) rfl ?_
              obtain ⟨rfl, rfl⟩ := v_so h
              exact v_ret (fun _ => rfl)
          · refine v_i2t (T := 107) rfl rfl c9 ?_
            refine s_ek_bk 1 (P := 108) (ls' := [(5, .int (s.1 172 (Int32.toNatClampNeg c))), (4, .int (s.1 172 (Int32.toNatClampNeg b))), (0, .ref 151), (1, .int b), (2, .int c), (3, .int d)]) (st' := [.int 0]) (M' := v_mk s) rfl ?_
            obtain ⟨rfl, rfl⟩ := v_so h
            exact v_ret (fun _ => rfl)
      · refine v_i2t (T := 60) rfl rfl c6 ?_
        refine s_ek_bk 2 (P := 62) (ls' := [(4, .int (s.1 172 (Int32.toNatClampNeg b))), (0, .ref 151), (1, .int b), (2, .int c), (3, .int d)]) (st' := [.int 3, .int d]) (M' := v_mk s) rfl ?_
        rcases v_if h with ⟨c12, h⟩ | ⟨c12, h⟩
        · refine v_i2f (T := 77) rfl rfl (fun q => q c12) ?_
          refine s_ek_bk 1 (P := 66) (ls' := [(4, .int (s.1 172 (Int32.toNatClampNeg b))), (0, .ref 151), (1, .int b), (2, .int c), (3, .int d)]) (st' := [.ref 151]) (M' := v_mk s) rfl ?_
          refine v_gf rfl (v_gr (rfl : v_kd 151 = 11) (rfl : v_sl 151 16 = .ref 161) ⟨rfl, rfl, by decide⟩) ?_
          refine s_ek_bk 1 (P := 70) (ls' := [(4, .int (s.1 172 (Int32.toNatClampNeg b))), (0, .ref 151), (1, .int b), (2, .int c), (3, .int d)]) (st' := [.int c, .ref 161]) (M' := v_mk s) rfl ?_
          obtain ⟨c13, h⟩ := v_ck h
          refine v_ia (i := c) rfl (v_ai (rfl : v_kd 161 = 13) rfl (by decide) v_all13 (v_cn (rfl : v_ln 161 = 11) c13)) ?_
          obtain ⟨r14, s14, e14, h⟩ := v_bd h
          refine v_cS (ν := s_e230.1) (w := 1841) (as := [.int (s.1 161 (Int32.toNatClampNeg c))]) (r := []) (o := some (.int r14)) (by omega) rfl rfl rfl rfl (t_Md_kindness e14 (by omega)) ?_
          show s_Ek (s_rows 3 L xs) D s_e231.1 74 [(4, .int (s.1 172 (Int32.toNatClampNeg b))), (0, .ref 151), (1, .int b), (2, .int c), (3, .int d)] [.int r14] (v_mk s14) _
          refine s_ek_bk 4 (P := 84) (ls' := [(5, .int r14), (4, .int (s.1 172 (Int32.toNatClampNeg b))), (0, .ref 151), (1, .int b), (2, .int c), (3, .int d)]) (st' := [.int r14, .int (s.1 172 (Int32.toNatClampNeg b))]) (M' := v_mk s14) rfl ?_
          rcases v_if h with ⟨c15, h⟩ | ⟨c15, h⟩
          · refine v_i2t (T := 103) rfl rfl c15 ?_
            refine s_ek_bk 2 (P := 108) (ls' := [(5, .int r14), (4, .int (s.1 172 (Int32.toNatClampNeg b))), (0, .ref 151), (1, .int b), (2, .int c), (3, .int d)]) (st' := [.int 1]) (M' := v_mk s14) rfl ?_
            obtain ⟨rfl, rfl⟩ := v_so h
            exact v_ret (fun _ => rfl)
          · refine v_i2f (T := 103) rfl rfl c15 ?_
            refine s_ek_bk 2 (P := 91) (ls' := [(5, .int r14), (4, .int (s.1 172 (Int32.toNatClampNeg b))), (0, .ref 151), (1, .int b), (2, .int c), (3, .int d)]) (st' := [.int r14, .int (s.1 172 (Int32.toNatClampNeg b))]) (M' := v_mk s14) rfl ?_
            rcases v_if h with ⟨c16, h⟩ | ⟨c16, h⟩
            · refine v_i2f (T := 107) rfl rfl (fun q => q c16) ?_
              refine s_ek_bk 3 (P := 97) (ls' := [(5, .int r14), (4, .int (s.1 172 (Int32.toNatClampNeg b))), (0, .ref 151), (1, .int b), (2, .int c), (3, .int d)]) (st' := [.int c, .int b, .ref 151]) (M' := v_mk s14) rfl ?_
              obtain ⟨r17, s17, e17, h⟩ := v_bd h
              refine v_cV (ν := s_e217.1) (w := 1738) (a := 151) (as' := [.int b, .int c]) (r := []) (o := some (.int r17)) (by omega) rfl rfl rfl (v_mk_kd (k := 11) (rfl : v_kd 151 = 11) (by decide)) rfl (t_Md_isOlder e17 (by omega)) ?_
              show s_Ek (s_rows 3 L xs) D s_e231.1 100 [(5, .int r14), (4, .int (s.1 172 (Int32.toNatClampNeg b))), (0, .ref 151), (1, .int b), (2, .int c), (3, .int d)] [.int r17] (v_mk s17) _
              rcases v_if h with ⟨c18, h⟩ | ⟨c18, h⟩
              · refine v_i1t (T := 107) rfl rfl c18 ?_
                refine s_ek_bk 1 (P := 108) (ls' := [(5, .int r14), (4, .int (s.1 172 (Int32.toNatClampNeg b))), (0, .ref 151), (1, .int b), (2, .int c), (3, .int d)]) (st' := [.int 0]) (M' := v_mk s17) rfl ?_
                obtain ⟨rfl, rfl⟩ := v_so h
                exact v_ret (fun _ => rfl)
              · refine v_i1f (T := 107) rfl rfl c18 ?_
                refine s_ek_bk 2 (P := 108) (ls' := [(5, .int r14), (4, .int (s.1 172 (Int32.toNatClampNeg b))), (0, .ref 151), (1, .int b), (2, .int c), (3, .int d)]) (st' := [.int 1]) (M' := v_mk s17) rfl ?_
                obtain ⟨rfl, rfl⟩ := v_so h
                exact v_ret (fun _ => rfl)
            · refine v_i2t (T := 107) rfl rfl c16 ?_
              refine s_ek_bk 1 (P := 108) (ls' := [(5, .int r14), (4, .int (s.1 172 (Int32.toNatClampNeg b))), (0, .ref 151), (1, .int b), (2, .int c), (3, .int d)]) (st' := [.int 0]) (M' := v_mk s14) rfl ?_
              obtain ⟨rfl, rfl⟩ := v_so h
              exact v_ret (fun _ => rfl)
        · refine v_i2t (T := 77) rfl rfl c12 ?_
          refine s_ek_bk 4 (P := 84) (ls' := [(5, .int 0), (4, .int (s.1 172 (Int32.toNatClampNeg b))), (0, .ref 151), (1, .int b), (2, .int c), (3, .int d)]) (st' := [.int 0, .int (s.1 172 (Int32.toNatClampNeg b))]) (M' := v_mk s) rfl ?_
          rcases v_if h with ⟨c19, h⟩ | ⟨c19, h⟩
          · refine v_i2t (T := 103) rfl rfl c19 ?_
            refine s_ek_bk 2 (P := 108) (ls' := [(5, .int 0), (4, .int (s.1 172 (Int32.toNatClampNeg b))), (0, .ref 151), (1, .int b), (2, .int c), (3, .int d)]) (st' := [.int 1]) (M' := v_mk s) rfl ?_
            obtain ⟨rfl, rfl⟩ := v_so h
            exact v_ret (fun _ => rfl)
          · refine v_i2f (T := 103) rfl rfl c19 ?_
            refine s_ek_bk 2 (P := 91) (ls' := [(5, .int 0), (4, .int (s.1 172 (Int32.toNatClampNeg b))), (0, .ref 151), (1, .int b), (2, .int c), (3, .int d)]) (st' := [.int 0, .int (s.1 172 (Int32.toNatClampNeg b))]) (M' := v_mk s) rfl ?_
            rcases v_if h with ⟨c20, h⟩ | ⟨c20, h⟩
            · refine v_i2f (T := 107) rfl rfl (fun q => q c20) ?_
              refine s_ek_bk 3 (P := 97) (ls' := [(5, .int 0), (4, .int (s.1 172 (Int32.toNatClampNeg b))), (0, .ref 151), (1, .int b), (2, .int c), (3, .int d)]) (st' := [.int c, .int b, .ref 151]) (M' := v_mk s) rfl ?_
              obtain ⟨r21, s21, e21, h⟩ := v_bd h
              refine v_cV (ν := s_e217.1) (w := 1738) (a := 151) (as' := [.int b, .int c]) (r := []) (o := some (.int r21)) (by omega) rfl rfl rfl (v_mk_kd (k := 11) (rfl : v_kd 151 = 11) (by decide)) rfl (t_Md_isOlder e21 (by omega)) ?_
              show s_Ek (s_rows 3 L xs) D s_e231.1 100 [(5, .int 0), (4, .int (s.1 172 (Int32.toNatClampNeg b))), (0, .ref 151), (1, .int b), (2, .int c), (3, .int d)] [.int r21] (v_mk s21) _
              rcases v_if h with ⟨c22, h⟩ | ⟨c22, h⟩
              · refine v_i1t (T := 107) rfl rfl c22 ?_
                refine s_ek_bk 1 (P := 108) (ls' := [(5, .int 0), (4, .int (s.1 172 (Int32.toNatClampNeg b))), (0, .ref 151), (1, .int b), (2, .int c), (3, .int d)]) (st' := [.int 0]) (M' := v_mk s21) rfl ?_
                obtain ⟨rfl, rfl⟩ := v_so h
                exact v_ret (fun _ => rfl)
              · refine v_i1f (T := 107) rfl rfl c22 ?_
                refine s_ek_bk 2 (P := 108) (ls' := [(5, .int 0), (4, .int (s.1 172 (Int32.toNatClampNeg b))), (0, .ref 151), (1, .int b), (2, .int c), (3, .int d)]) (st' := [.int 1]) (M' := v_mk s21) rfl ?_
                obtain ⟨rfl, rfl⟩ := v_so h
                exact v_ret (fun _ => rfl)
            · refine v_i2t (T := 107) rfl rfl c20 ?_
              refine s_ek_bk 1 (P := 108) (ls' := [(5, .int 0), (4, .int (s.1 172 (Int32.toNatClampNeg b))), (0, .ref 151), (1, .int b), (2, .int c), (3, .int d)]) (st' := [.int 0]) (M' := v_mk s) rfl ?_
              obtain ⟨rfl, rfl⟩ := v_so h
              exact v_ret (fun _ => rfl)
    · refine v_i2t (T := 26) rfl rfl c4 ?_
      refine s_ek_bk 2 (P := 28) (ls' := [(0, .ref 151), (1, .int b), (2, .int c), (3, .int d)]) (st' := [.int 3, .int d]) (M' := v_mk s) rfl ?_
      rcases v_if h with ⟨c23, h⟩ | ⟨c23, h⟩
      · refine v_i2f (T := 43) rfl rfl (fun q => q c23) ?_
        refine s_ek_bk 1 (P := 32) (ls' := [(0, .ref 151), (1, .int b), (2, .int c), (3, .int d)]) (st' := [.ref 151]) (M' := v_mk s) rfl ?_
        refine v_gf rfl (v_gr (rfl : v_kd 151 = 11) (rfl : v_sl 151 16 = .ref 161) ⟨rfl, rfl, by decide⟩) ?_
        refine s_ek_bk 1 (P := 36) (ls' := [(0, .ref 151), (1, .int b), (2, .int c), (3, .int d)]) (st' := [.int b, .ref 161]) (M' := v_mk s) rfl ?_
        obtain ⟨c24, h⟩ := v_ck h
        refine v_ia (i := b) rfl (v_ai (rfl : v_kd 161 = 13) rfl (by decide) v_all13 (v_cn (rfl : v_ln 161 = 11) c24)) ?_
        obtain ⟨r25, s25, e25, h⟩ := v_bd h
        refine v_cS (ν := s_e230.1) (w := 1841) (as := [.int (s.1 161 (Int32.toNatClampNeg b))]) (r := []) (o := some (.int r25)) (by omega) rfl rfl rfl rfl (t_Md_kindness e25 (by omega)) ?_
        show s_Ek (s_rows 3 L xs) D s_e231.1 40 [(0, .ref 151), (1, .int b), (2, .int c), (3, .int d)] [.int r25] (v_mk s25) _
        refine s_ek_bk 4 (P := 48) (ls' := [(4, .int r25), (0, .ref 151), (1, .int b), (2, .int c), (3, .int d)]) (st' := [.int 2, .int d]) (M' := v_mk s25) rfl ?_
        rcases v_if h with ⟨c26, h⟩ | ⟨c26, h⟩
        · refine v_i2f (T := 60) rfl rfl (fun q => q c26) ?_
          refine s_ek_bk 1 (P := 52) (ls' := [(4, .int r25), (0, .ref 151), (1, .int b), (2, .int c), (3, .int d)]) (st' := [.ref 151]) (M' := v_mk s25) rfl ?_
          refine v_gf rfl (v_gr (rfl : v_kd 151 = 11) (rfl : v_sl 151 33 = .ref 172) ⟨rfl, rfl, by decide⟩) ?_
          refine s_ek_bk 1 (P := 56) (ls' := [(4, .int r25), (0, .ref 151), (1, .int b), (2, .int c), (3, .int d)]) (st' := [.int c, .ref 172]) (M' := v_mk s25) rfl ?_
          obtain ⟨c27, h⟩ := v_ck h
          refine v_ia (i := c) rfl (v_ai (rfl : v_kd 172 = 13) rfl (by decide) v_all13 (v_cn (rfl : v_ln 172 = 11) c27)) ?_
          refine s_ek_bk 4 (P := 84) (ls' := [(5, .int (s25.1 172 (Int32.toNatClampNeg c))), (4, .int r25), (0, .ref 151), (1, .int b), (2, .int c), (3, .int d)]) (st' := [.int (s25.1 172 (Int32.toNatClampNeg c)), .int r25]) (M' := v_mk s25) rfl ?_
          rcases v_if h with ⟨c28, h⟩ | ⟨c28, h⟩
          · refine v_i2t (T := 103) rfl rfl c28 ?_
            refine s_ek_bk 2 (P := 108) (ls' := [(5, .int (s25.1 172 (Int32.toNatClampNeg c))), (4, .int r25), (0, .ref 151), (1, .int b), (2, .int c), (3, .int d)]) (st' := [.int 1]) (M' := v_mk s25) rfl ?_
            obtain ⟨rfl, rfl⟩ := v_so h
            exact v_ret (fun _ => rfl)
          · refine v_i2f (T := 103) rfl rfl c28 ?_
            refine s_ek_bk 2 (P := 91) (ls' := [(5, .int (s25.1 172 (Int32.toNatClampNeg c))), (4, .int r25), (0, .ref 151), (1, .int b), (2, .int c), (3, .int d)]) (st' := [.int (s25.1 172 (Int32.toNatClampNeg c)), .int r25]) (M' := v_mk s25) rfl ?_
            rcases v_if h with ⟨c29, h⟩ | ⟨c29, h⟩
            · refine v_i2f (T := 107) rfl rfl (fun q => q c29) ?_
              refine s_ek_bk 3 (P := 97) (ls' := [(5, .int (s25.1 172 (Int32.toNatClampNeg c))), (4, .int r25), (0, .ref 151), (1, .int b), (2, .int c), (3, .int d)]) (st' := [.int c, .int b, .ref 151]) (M' := v_mk s25) rfl ?_
              obtain ⟨r30, s30, e30, h⟩ := v_bd h
              refine v_cV (ν := s_e217.1) (w := 1738) (a := 151) (as' := [.int b, .int c]) (r := []) (o := some (.int r30)) (by omega) rfl rfl rfl (v_mk_kd (k := 11) (rfl : v_kd 151 = 11) (by decide)) rfl (t_Md_isOlder e30 (by omega)) ?_
              show s_Ek (s_rows 3 L xs) D s_e231.1 100 [(5, .int (s25.1 172 (Int32.toNatClampNeg c))), (4, .int r25), (0, .ref 151), (1, .int b), (2, .int c), (3, .int d)] [.int r30] (v_mk s30) _
              rcases v_if h with ⟨c31, h⟩ | ⟨c31, h⟩
              · refine v_i1t (T := 107) rfl rfl c31 ?_
                refine s_ek_bk 1 (P := 108) (ls' := [(5, .int (s25.1 172 (Int32.toNatClampNeg c))), (4, .int r25), (0, .ref 151), (1, .int b), (2, .int c), (3, .int d)]) (st' := [.int 0]) (M' := v_mk s30) rfl ?_
                obtain ⟨rfl, rfl⟩ := v_so h
                exact v_ret (fun _ => rfl)
              · refine v_i1f (T := 107) rfl rfl c31 ?_
                refine s_ek_bk 2 (P := 108) (ls' := [(5, .int (s25.1 172 (Int32.toNatClampNeg c))), (4, .int r25), (0, .ref 151), (1, .int b), (2, .int c), (3, .int d)]) (st' := [.int 1]) (M' := v_mk s30) rfl ?_
                obtain ⟨rfl, rfl⟩ := v_so h
                exact v_ret (fun _ => rfl)
            · refine v_i2t (T := 107) rfl rfl c29 ?_
              refine s_ek_bk 1 (P := 108) (ls' := [(5, .int (s25.1 172 (Int32.toNatClampNeg c))), (4, .int r25), (0, .ref 151), (1, .int b), (2, .int c), (3, .int d)]) (st' := [.int 0]) (M' := v_mk s25) rfl ?_
              obtain ⟨rfl, rfl⟩ := v_so h
              exact v_ret (fun _ => rfl)
        · refine v_i2t (T := 60) rfl rfl c26 ?_
          refine s_ek_bk 2 (P := 62) (ls' := [(4, .int r25), (0, .ref 151), (1, .int b), (2, .int c), (3, .int d)]) (st' := [.int 3, .int d]) (M' := v_mk s25) rfl ?_
          rcases v_if h with ⟨c32, h⟩ | ⟨c32, h⟩
          · refine v_i2f (T := 77) rfl rfl (fun q => q c32) ?_
            refine s_ek_bk 1 (P := 66) (ls' := [(4, .int r25), (0, .ref 151), (1, .int b), (2, .int c), (3, .int d)]) (st' := [.ref 151]) (M' := v_mk s25) rfl ?_
            refine v_gf rfl (v_gr (rfl : v_kd 151 = 11) (rfl : v_sl 151 16 = .ref 161) ⟨rfl, rfl, by decide⟩) ?_
            refine s_ek_bk 1 (P := 70) (ls' := [(4, .int r25), (0, .ref 151), (1, .int b), (2, .int c), (3, .int d)]) (st' := [.int c, .ref 161]) (M' := v_mk s25) rfl ?_
            obtain ⟨c33, h⟩ := v_ck h
            refine v_ia (i := c) rfl (v_ai (rfl : v_kd 161 = 13) rfl (by decide) v_all13 (v_cn (rfl : v_ln 161 = 11) c33)) ?_
            obtain ⟨r34, s34, e34, h⟩ := v_bd h
            refine v_cS (ν := s_e230.1) (w := 1841) (as := [.int (s25.1 161 (Int32.toNatClampNeg c))]) (r := []) (o := some (.int r34)) (by omega) rfl rfl rfl rfl (t_Md_kindness e34 (by omega)) ?_
            show s_Ek (s_rows 3 L xs) D s_e231.1 74 [(4, .int r25), (0, .ref 151), (1, .int b), (2, .int c), (3, .int d)] [.int r34] (v_mk s34) _
            refine s_ek_bk 4 (P := 84) (ls' := [(5, .int r34), (4, .int r25), (0, .ref 151), (1, .int b), (2, .int c), (3, .int d)]) (st' := [.int r34, .int r25]) (M' := v_mk s34) rfl ?_
            rcases v_if h with ⟨c35, h⟩ | ⟨c35, h⟩
            · refine v_i2t (T := 103) rfl rfl c35 ?_
              refine s_ek_bk 2 (P := 108) (ls' := [(5, .int r34), (4, .int r25), (0, .ref 151), (1, .int b), (2, .int c), (3, .int d)]) (st' := [.int 1]) (M' := v_mk s34) rfl ?_
              obtain ⟨rfl, rfl⟩ := v_so h
              exact v_ret (fun _ => rfl)
            · refine v_i2f (T := 103) rfl rfl c35 ?_
              refine s_ek_bk 2 (P := 91) (ls' := [(5, .int r34), (4, .int r25), (0, .ref 151), (1, .int b), (2, .int c), (3, .int d)]) (st' := [.int r34, .int r25]) (M' := v_mk s34) rfl ?_
              rcases v_if h with ⟨c36, h⟩ | ⟨c36, h⟩
              · refine v_i2f (T := 107) rfl rfl (fun q => q c36) ?_
                refine s_ek_bk 3 (P := 97) (ls' := [(5, .int r34), (4, .int r25), (0, .ref 151), (1, .int b), (2, .int c), (3, .int d)]) (st' := [.int c, .int b, .ref 151]) (M' := v_mk s34) rfl ?_
                obtain ⟨r37, s37, e37, h⟩ := v_bd h
                refine v_cV (ν := s_e217.1) (w := 1738) (a := 151) (as' := [.int b, .int c]) (r := []) (o := some (.int r37)) (by omega) rfl rfl rfl (v_mk_kd (k := 11) (rfl : v_kd 151 = 11) (by decide)) rfl (t_Md_isOlder e37 (by omega)) ?_
                show s_Ek (s_rows 3 L xs) D s_e231.1 100 [(5, .int r34), (4, .int r25), (0, .ref 151), (1, .int b), (2, .int c), (3, .int d)] [.int r37] (v_mk s37) _
                rcases v_if h with ⟨c38, h⟩ | ⟨c38, h⟩
                · refine v_i1t (T := 107) rfl rfl c38 ?_
                  refine s_ek_bk 1 (P := 108) (ls' := [(5, .int r34), (4, .int r25), (0, .ref 151), (1, .int b), (2, .int c), (3, .int d)]) (st' := [.int 0]) (M' := v_mk s37) rfl ?_
                  obtain ⟨rfl, rfl⟩ := v_so h
                  exact v_ret (fun _ => rfl)
                · refine v_i1f (T := 107) rfl rfl c38 ?_
                  refine s_ek_bk 2 (P := 108) (ls' := [(5, .int r34), (4, .int r25), (0, .ref 151), (1, .int b), (2, .int c), (3, .int d)]) (st' := [.int 1]) (M' := v_mk s37) rfl ?_
                  obtain ⟨rfl, rfl⟩ := v_so h
                  exact v_ret (fun _ => rfl)
              · refine v_i2t (T := 107) rfl rfl c36 ?_
                refine s_ek_bk 1 (P := 108) (ls' := [(5, .int r34), (4, .int r25), (0, .ref 151), (1, .int b), (2, .int c), (3, .int d)]) (st' := [.int 0]) (M' := v_mk s34) rfl ?_
                obtain ⟨rfl, rfl⟩ := v_so h
                exact v_ret (fun _ => rfl)
          · refine v_i2t (T := 77) rfl rfl c32 ?_
            refine s_ek_bk 4 (P := 84) (ls' := [(5, .int 0), (4, .int r25), (0, .ref 151), (1, .int b), (2, .int c), (3, .int d)]) (st' := [.int 0, .int r25]) (M' := v_mk s25) rfl ?_
            rcases v_if h with ⟨c39, h⟩ | ⟨c39, h⟩
            · refine v_i2t (T := 103) rfl rfl c39 ?_
              refine s_ek_bk 2 (P := 108) (ls' := [(5, .int 0), (4, .int r25), (0, .ref 151), (1, .int b), (2, .int c), (3, .int d)]) (st' := [.int 1]) (M' := v_mk s25) rfl ?_
              obtain ⟨rfl, rfl⟩ := v_so h
              exact v_ret (fun _ => rfl)
            · refine v_i2f (T := 103) rfl rfl c39 ?_
              refine s_ek_bk 2 (P := 91) (ls' := [(5, .int 0), (4, .int r25), (0, .ref 151), (1, .int b), (2, .int c), (3, .int d)]) (st' := [.int 0, .int r25]) (M' := v_mk s25) rfl ?_
              rcases v_if h with ⟨c40, h⟩ | ⟨c40, h⟩
              · refine v_i2f (T := 107) rfl rfl (fun q => q c40) ?_
                refine s_ek_bk 3 (P := 97) (ls' := [(5, .int 0), (4, .int r25), (0, .ref 151), (1, .int b), (2, .int c), (3, .int d)]) (st' := [.int c, .int b, .ref 151]) (M' := v_mk s25) rfl ?_
                obtain ⟨r41, s41, e41, h⟩ := v_bd h
                refine v_cV (ν := s_e217.1) (w := 1738) (a := 151) (as' := [.int b, .int c]) (r := []) (o := some (.int r41)) (by omega) rfl rfl rfl (v_mk_kd (k := 11) (rfl : v_kd 151 = 11) (by decide)) rfl (t_Md_isOlder e41 (by omega)) ?_
                show s_Ek (s_rows 3 L xs) D s_e231.1 100 [(5, .int 0), (4, .int r25), (0, .ref 151), (1, .int b), (2, .int c), (3, .int d)] [.int r41] (v_mk s41) _
                rcases v_if h with ⟨c42, h⟩ | ⟨c42, h⟩
                · refine v_i1t (T := 107) rfl rfl c42 ?_
                  refine s_ek_bk 1 (P := 108) (ls' := [(5, .int 0), (4, .int r25), (0, .ref 151), (1, .int b), (2, .int c), (3, .int d)]) (st' := [.int 0]) (M' := v_mk s41) rfl ?_
                  obtain ⟨rfl, rfl⟩ := v_so h
                  exact v_ret (fun _ => rfl)
                · refine v_i1f (T := 107) rfl rfl c42 ?_
                  refine s_ek_bk 2 (P := 108) (ls' := [(5, .int 0), (4, .int r25), (0, .ref 151), (1, .int b), (2, .int c), (3, .int d)]) (st' := [.int 1]) (M' := v_mk s41) rfl ?_
                  obtain ⟨rfl, rfl⟩ := v_so h
                  exact v_ret (fun _ => rfl)
              · refine v_i2t (T := 107) rfl rfl c40 ?_
                refine s_ek_bk 1 (P := 108) (ls' := [(5, .int 0), (4, .int r25), (0, .ref 151), (1, .int b), (2, .int c), (3, .int d)]) (st' := [.int 0]) (M' := v_mk s25) rfl ?_
                obtain ⟨rfl, rfl⟩ := v_so h
                exact v_ret (fun _ => rfl)
      · refine v_i2t (T := 43) rfl rfl c23 ?_
        refine s_ek_bk 4 (P := 48) (ls' := [(4, .int 0), (0, .ref 151), (1, .int b), (2, .int c), (3, .int d)]) (st' := [.int 2, .int d]) (M' := v_mk s) rfl ?_
        rcases v_if h with ⟨c43, h⟩ | ⟨c43, h⟩
        · refine v_i2f (T := 60) rfl rfl (fun q => q c43) ?_
          refine s_ek_bk 1 (P := 52) (ls' := [(4, .int 0), (0, .ref 151), (1, .int b), (2, .int c), (3, .int d)]) (st' := [.ref 151]) (M' := v_mk s) rfl ?_
          refine v_gf rfl (v_gr (rfl : v_kd 151 = 11) (rfl : v_sl 151 33 = .ref 172) ⟨rfl, rfl, by decide⟩) ?_
          refine s_ek_bk 1 (P := 56) (ls' := [(4, .int 0), (0, .ref 151), (1, .int b), (2, .int c), (3, .int d)]) (st' := [.int c, .ref 172]) (M' := v_mk s) rfl ?_
          obtain ⟨c44, h⟩ := v_ck h
          refine v_ia (i := c) rfl (v_ai (rfl : v_kd 172 = 13) rfl (by decide) v_all13 (v_cn (rfl : v_ln 172 = 11) c44)) ?_
          refine s_ek_bk 4 (P := 84) (ls' := [(5, .int (s.1 172 (Int32.toNatClampNeg c))), (4, .int 0), (0, .ref 151), (1, .int b), (2, .int c), (3, .int d)]) (st' := [.int (s.1 172 (Int32.toNatClampNeg c)), .int 0]) (M' := v_mk s) rfl ?_
          rcases v_if h with ⟨c45, h⟩ | ⟨c45, h⟩
          · refine v_i2t (T := 103) rfl rfl c45 ?_
            refine s_ek_bk 2 (P := 108) (ls' := [(5, .int (s.1 172 (Int32.toNatClampNeg c))), (4, .int 0), (0, .ref 151), (1, .int b), (2, .int c), (3, .int d)]) (st' := [.int 1]) (M' := v_mk s) rfl ?_
            obtain ⟨rfl, rfl⟩ := v_so h
            exact v_ret (fun _ => rfl)
          · refine v_i2f (T := 103) rfl rfl c45 ?_
            refine s_ek_bk 2 (P := 91) (ls' := [(5, .int (s.1 172 (Int32.toNatClampNeg c))), (4, .int 0), (0, .ref 151), (1, .int b), (2, .int c), (3, .int d)]) (st' := [.int (s.1 172 (Int32.toNatClampNeg c)), .int 0]) (M' := v_mk s) rfl ?_
            rcases v_if h with ⟨c46, h⟩ | ⟨c46, h⟩
            · refine v_i2f (T := 107) rfl rfl (fun q => q c46) ?_
              refine s_ek_bk 3 (P := 97) (ls' := [(5, .int (s.1 172 (Int32.toNatClampNeg c))), (4, .int 0), (0, .ref 151), (1, .int b), (2, .int c), (3, .int d)]) (st' := [.int c, .int b, .ref 151]) (M' := v_mk s) rfl ?_
              obtain ⟨r47, s47, e47, h⟩ := v_bd h
              refine v_cV (ν := s_e217.1) (w := 1738) (a := 151) (as' := [.int b, .int c]) (r := []) (o := some (.int r47)) (by omega) rfl rfl rfl (v_mk_kd (k := 11) (rfl : v_kd 151 = 11) (by decide)) rfl (t_Md_isOlder e47 (by omega)) ?_
              show s_Ek (s_rows 3 L xs) D s_e231.1 100 [(5, .int (s.1 172 (Int32.toNatClampNeg c))), (4, .int 0), (0, .ref 151), (1, .int b), (2, .int c), (3, .int d)] [.int r47] (v_mk s47) _
              rcases v_if h with ⟨c48, h⟩ | ⟨c48, h⟩
              · refine v_i1t (T := 107) rfl rfl c48 ?_
                refine s_ek_bk 1 (P := 108) (ls' := [(5, .int (s.1 172 (Int32.toNatClampNeg c))), (4, .int 0), (0, .ref 151), (1, .int b), (2, .int c), (3, .int d)]) (st' := [.int 0]) (M' := v_mk s47) rfl ?_
                obtain ⟨rfl, rfl⟩ := v_so h
                exact v_ret (fun _ => rfl)
              · refine v_i1f (T := 107) rfl rfl c48 ?_
                refine s_ek_bk 2 (P := 108) (ls' := [(5, .int (s.1 172 (Int32.toNatClampNeg c))), (4, .int 0), (0, .ref 151), (1, .int b), (2, .int c), (3, .int d)]) (st' := [.int 1]) (M' := v_mk s47) rfl ?_
                obtain ⟨rfl, rfl⟩ := v_so h
                exact v_ret (fun _ => rfl)
            · refine v_i2t (T := 107) rfl rfl c46 ?_
              refine s_ek_bk 1 (P := 108) (ls' := [(5, .int (s.1 172 (Int32.toNatClampNeg c))), (4, .int 0), (0, .ref 151), (1, .int b), (2, .int c), (3, .int d)]) (st' := [.int 0]) (M' := v_mk s) rfl ?_
              obtain ⟨rfl, rfl⟩ := v_so h
              exact v_ret (fun _ => rfl)
        · refine v_i2t (T := 60) rfl rfl c43 ?_
          refine s_ek_bk 2 (P := 62) (ls' := [(4, .int 0), (0, .ref 151), (1, .int b), (2, .int c), (3, .int d)]) (st' := [.int 3, .int d]) (M' := v_mk s) rfl ?_
          rcases v_if h with ⟨c49, h⟩ | ⟨c49, h⟩
          · refine v_i2f (T := 77) rfl rfl (fun q => q c49) ?_
            refine s_ek_bk 1 (P := 66) (ls' := [(4, .int 0), (0, .ref 151), (1, .int b), (2, .int c), (3, .int d)]) (st' := [.ref 151]) (M' := v_mk s) rfl ?_
            refine v_gf rfl (v_gr (rfl : v_kd 151 = 11) (rfl : v_sl 151 16 = .ref 161) ⟨rfl, rfl, by decide⟩) ?_
            refine s_ek_bk 1 (P := 70) (ls' := [(4, .int 0), (0, .ref 151), (1, .int b), (2, .int c), (3, .int d)]) (st' := [.int c, .ref 161]) (M' := v_mk s) rfl ?_
            obtain ⟨c50, h⟩ := v_ck h
            refine v_ia (i := c) rfl (v_ai (rfl : v_kd 161 = 13) rfl (by decide) v_all13 (v_cn (rfl : v_ln 161 = 11) c50)) ?_
            obtain ⟨r51, s51, e51, h⟩ := v_bd h
            refine v_cS (ν := s_e230.1) (w := 1841) (as := [.int (s.1 161 (Int32.toNatClampNeg c))]) (r := []) (o := some (.int r51)) (by omega) rfl rfl rfl rfl (t_Md_kindness e51 (by omega)) ?_
            show s_Ek (s_rows 3 L xs) D s_e231.1 74 [(4, .int 0), (0, .ref 151), (1, .int b), (2, .int c), (3, .int d)] [.int r51] (v_mk s51) _
            refine s_ek_bk 4 (P := 84) (ls' := [(5, .int r51), (4, .int 0), (0, .ref 151), (1, .int b), (2, .int c), (3, .int d)]) (st' := [.int r51, .int 0]) (M' := v_mk s51) rfl ?_
            rcases v_if h with ⟨c52, h⟩ | ⟨c52, h⟩
            · refine v_i2t (T := 103) rfl rfl c52 ?_
              refine s_ek_bk 2 (P := 108) (ls' := [(5, .int r51), (4, .int 0), (0, .ref 151), (1, .int b), (2, .int c), (3, .int d)]) (st' := [.int 1]) (M' := v_mk s51) rfl ?_
              obtain ⟨rfl, rfl⟩ := v_so h
              exact v_ret (fun _ => rfl)
            · refine v_i2f (T := 103) rfl rfl c52 ?_
              refine s_ek_bk 2 (P := 91) (ls' := [(5, .int r51), (4, .int 0), (0, .ref 151), (1, .int b), (2, .int c), (3, .int d)]) (st' := [.int r51, .int 0]) (M' := v_mk s51) rfl ?_
              rcases v_if h with ⟨c53, h⟩ | ⟨c53, h⟩
              · refine v_i2f (T := 107) rfl rfl (fun q => q c53) ?_
                refine s_ek_bk 3 (P := 97) (ls' := [(5, .int r51), (4, .int 0), (0, .ref 151), (1, .int b), (2, .int c), (3, .int d)]) (st' := [.int c, .int b, .ref 151]) (M' := v_mk s51) rfl ?_
                obtain ⟨r54, s54, e54, h⟩ := v_bd h
                refine v_cV (ν := s_e217.1) (w := 1738) (a := 151) (as' := [.int b, .int c]) (r := []) (o := some (.int r54)) (by omega) rfl rfl rfl (v_mk_kd (k := 11) (rfl : v_kd 151 = 11) (by decide)) rfl (t_Md_isOlder e54 (by omega)) ?_
                show s_Ek (s_rows 3 L xs) D s_e231.1 100 [(5, .int r51), (4, .int 0), (0, .ref 151), (1, .int b), (2, .int c), (3, .int d)] [.int r54] (v_mk s54) _
                rcases v_if h with ⟨c55, h⟩ | ⟨c55, h⟩
                · refine v_i1t (T := 107) rfl rfl c55 ?_
                  refine s_ek_bk 1 (P := 108) (ls' := [(5, .int r51), (4, .int 0), (0, .ref 151), (1, .int b), (2, .int c), (3, .int d)]) (st' := [.int 0]) (M' := v_mk s54) rfl ?_
                  obtain ⟨rfl, rfl⟩ := v_so h
                  exact v_ret (fun _ => rfl)
                · refine v_i1f (T := 107) rfl rfl c55 ?_
                  refine s_ek_bk 2 (P := 108) (ls' := [(5, .int r51), (4, .int 0), (0, .ref 151), (1, .int b), (2, .int c), (3, .int d)]) (st' := [.int 1]) (M' := v_mk s54) rfl ?_
                  obtain ⟨rfl, rfl⟩ := v_so h
                  exact v_ret (fun _ => rfl)
              · refine v_i2t (T := 107) rfl rfl c53 ?_
                refine s_ek_bk 1 (P := 108) (ls' := [(5, .int r51), (4, .int 0), (0, .ref 151), (1, .int b), (2, .int c), (3, .int d)]) (st' := [.int 0]) (M' := v_mk s51) rfl ?_
                obtain ⟨rfl, rfl⟩ := v_so h
                exact v_ret (fun _ => rfl)
          · refine v_i2t (T := 77) rfl rfl c49 ?_
            refine s_ek_bk 11 (P := 97) (ls' := [(5, .int 0), (4, .int 0), (0, .ref 151), (1, .int b), (2, .int c), (3, .int d)]) (st' := [.int c, .int b, .ref 151]) (M' := v_mk s) rfl ?_
            obtain ⟨r56, s56, e56, h⟩ := v_bd h
            refine v_cV (ν := s_e217.1) (w := 1738) (a := 151) (as' := [.int b, .int c]) (r := []) (o := some (.int r56)) (by omega) rfl rfl rfl (v_mk_kd (k := 11) (rfl : v_kd 151 = 11) (by decide)) rfl (t_Md_isOlder e56 (by omega)) ?_
            show s_Ek (s_rows 3 L xs) D s_e231.1 100 [(5, .int 0), (4, .int 0), (0, .ref 151), (1, .int b), (2, .int c), (3, .int d)] [.int r56] (v_mk s56) _
            rcases v_if h with ⟨c57, h⟩ | ⟨c57, h⟩
            · refine v_i1t (T := 107) rfl rfl c57 ?_
              refine s_ek_bk 1 (P := 108) (ls' := [(5, .int 0), (4, .int 0), (0, .ref 151), (1, .int b), (2, .int c), (3, .int d)]) (st' := [.int 0]) (M' := v_mk s56) rfl ?_
              obtain ⟨rfl, rfl⟩ := v_so h
              exact v_ret (fun _ => rfl)
            · refine v_i1f (T := 107) rfl rfl c57 ?_
              refine s_ek_bk 2 (P := 108) (ls' := [(5, .int 0), (4, .int 0), (0, .ref 151), (1, .int b), (2, .int c), (3, .int d)]) (st' := [.int 1]) (M' := v_mk s56) rfl ?_
              obtain ⟨rfl, rfl⟩ := v_so h
              exact v_ret (fun _ => rfl)
noncomputable def f_Md_holder_L5b (p1 : Int32) (p2 : Int32) (k63 : Int32 → vS → Option (Int32 × vS)) (again : Int32 → Int32 → vS → Option (Int32 × vS)) (v3 : Int32) (v4 : Int32) (s : vS) : Option (Int32 × vS) := (if (s.1 151 14).toInt ≤ v4.toInt then (k63 v3 s) else (if v_in v4 11 then (if (s.1 170 (Int32.toNatClampNeg v4)).toInt = 0 then (again v3 (v4 + 1) s) else (if v_in (((125 : Int32) * v4) + p1) 1375 then (if (s.1 171 (Int32.toNatClampNeg (((125 : Int32) * v4) + p1))).toInt = 0 then (again v3 (v4 + 1) s) else (if v3.toInt < 0 then (again v4 (v4 + 1) s) else (v_bi (f_Md_isAhead v4 v3 p2 s) (fun r107 s107 => (if r107.toInt = 0 then (again v3 (v4 + 1) s107) else (again v4 (v4 + 1) s107)))))) else none)) else none))
noncomputable def f_Md_holder_L5 (p1 : Int32) (p2 : Int32) (k63 : Int32 → vS → Option (Int32 × vS)) (n : Nat) : Int32 → Int32 → vS → Option (Int32 × vS) := Nat.rec (motive := fun _ => Int32 → Int32 → vS → Option (Int32 × vS)) (fun _ _ _ => none) (fun _ again => f_Md_holder_L5b p1 p2 k63 again) n
noncomputable def f_Md_holder (b : Int32) (c : Int32) (s : vS) : Option (Int32 × vS) := (f_Md_holder_L5 b c (fun w1 s2 => (some (w1, s2))) 4096 (-1) 0 s)
set_option maxRecDepth 20000 in
set_option maxHeartbeats 4000000 in
theorem t_Md_holder_L5 {L : Nat} {xs : Nat → Int32} {p1 : Int32} {p2 : Int32} {k63 : Int32 → vS → Option (Int32 × vS)} {D : Nat} (hD : 3 ≤ D) {r : Int32} {s' : vS} (hk63 : ∀ (v3 : Int32) (s : vS), k63 v3 s = some (r, s') → s_Ek (s_rows 3 L xs) D s_e232.1 63 [(3, .int v3)] [] (v_mk s) (v_Q (some (.int r)) s')) : ∀ (n : Nat) (v3 : Int32) (v4 : Int32) (s : vS), f_Md_holder_L5 p1 p2 k63 n v3 v4 s = some (r, s') → s_Ek (s_rows 3 L xs) D s_e232.1 5 [(0, .ref 151), (1, .int p1), (2, .int p2), (3, .int v3), (4, .int v4)] [] (v_mk s) (v_Q (some (.int r)) s') := by
  intro n
  induction n with
  | zero => intro v3 v4 s h; exact nomatch (show (none : Option (Int32 × vS)) = some (r, s') from h)
  | succ n ih =>
    intro v3 v4 s h
    replace h : f_Md_holder_L5b p1 p2 k63 (f_Md_holder_L5 p1 p2 k63 n) v3 v4 s = some (r, s') := h
    unfold f_Md_holder_L5b at h
    refine s_ek_bk 2 (P := 8) (ls' := [(0, .ref 151), (1, .int p1), (2, .int p2), (3, .int v3), (4, .int v4)]) (st' := [.ref 151, .int v4]) (M' := v_mk s) rfl ?_
    refine v_gf rfl (v_gi (rfl : v_kd 151 = 11) rfl ⟨rfl, rfl, by decide⟩) ?_
    rcases v_if h with ⟨c101, h⟩ | ⟨c101, h⟩
    · refine v_i2t (T := 63) rfl rfl c101 ?_
      refine v_ls (ls' := [(3, .int v3)]) ⟨rfl, trivial⟩ (show ([3] : List Nat).Nodup from by decide) ?_
      exact hk63 _ _ h
    · refine v_i2f (T := 63) rfl rfl c101 ?_
      refine s_ek_bk 1 (P := 15) (ls' := [(0, .ref 151), (1, .int p1), (2, .int p2), (3, .int v3), (4, .int v4)]) (st' := [.ref 151]) (M' := v_mk s) rfl ?_
      refine v_gf rfl (v_gr (rfl : v_kd 151 = 11) (rfl : v_sl 151 29 = .ref 170) ⟨rfl, rfl, by decide⟩) ?_
      refine s_ek_bk 1 (P := 20) (ls' := [(0, .ref 151), (1, .int p1), (2, .int p2), (3, .int v3), (4, .int v4)]) (st' := [.int v4, .ref 170]) (M' := v_mk s) rfl ?_
      obtain ⟨c102, h⟩ := v_ck h
      refine v_ba (i := v4) rfl (v_ai (rfl : v_kd 170 = 16) rfl (by decide) v_all16 (v_cn (rfl : v_ln 170 = 11) c102)) ?_
      rcases v_if h with ⟨c103, h⟩ | ⟨c103, h⟩
      · refine v_i1t (T := 57) rfl rfl c103 ?_
        refine s_ek_bk 2 (P := 5) (ls' := [(4, .int (v4 + 1)), (0, .ref 151), (1, .int p1), (2, .int p2), (3, .int v3)]) (st' := []) (M' := v_mk s) rfl ?_
        refine v_ls (ls' := [(0, .ref 151), (1, .int p1), (2, .int p2), (3, .int v3), (4, .int (v4 + 1))]) ⟨rfl, rfl, rfl, rfl, rfl, trivial⟩ (show ([0, 1, 2, 3, 4] : List Nat).Nodup from by decide) ?_
        exact ih _ _ _ h
      · refine v_i1f (T := 57) rfl rfl c103 ?_
        refine s_ek_bk 1 (P := 25) (ls' := [(0, .ref 151), (1, .int p1), (2, .int p2), (3, .int v3), (4, .int v4)]) (st' := [.ref 151]) (M' := v_mk s) rfl ?_
        refine v_gf rfl (v_gr (rfl : v_kd 151 = 11) (rfl : v_sl 151 32 = .ref 171) ⟨rfl, rfl, by decide⟩) ?_
        refine s_ek_bk 5 (P := 35) (ls' := [(0, .ref 151), (1, .int p1), (2, .int p2), (3, .int v3), (4, .int v4)]) (st' := [.int (((125 : Int32) * v4) + p1), .ref 171]) (M' := v_mk s) rfl ?_
        obtain ⟨c104, h⟩ := v_ck h
        refine v_ba (i := (((125 : Int32) * v4) + p1)) rfl (v_ai (rfl : v_kd 171 = 16) rfl (by decide) v_all16 (v_cn (rfl : v_ln 171 = 1375) c104)) ?_
        rcases v_if h with ⟨c105, h⟩ | ⟨c105, h⟩
        · refine v_i1t (T := 57) rfl rfl c105 ?_
          refine s_ek_bk 2 (P := 5) (ls' := [(4, .int (v4 + 1)), (0, .ref 151), (1, .int p1), (2, .int p2), (3, .int v3)]) (st' := []) (M' := v_mk s) rfl ?_
          refine v_ls (ls' := [(0, .ref 151), (1, .int p1), (2, .int p2), (3, .int v3), (4, .int (v4 + 1))]) ⟨rfl, rfl, rfl, rfl, rfl, trivial⟩ (show ([0, 1, 2, 3, 4] : List Nat).Nodup from by decide) ?_
          exact ih _ _ _ h
        · refine v_i1f (T := 57) rfl rfl c105 ?_
          refine s_ek_bk 1 (P := 40) (ls' := [(0, .ref 151), (1, .int p1), (2, .int p2), (3, .int v3), (4, .int v4)]) (st' := [.int v3]) (M' := v_mk s) rfl ?_
          rcases v_if h with ⟨c106, h⟩ | ⟨c106, h⟩
          · refine v_i1t (T := 54) rfl rfl c106 ?_
            refine s_ek_bk 4 (P := 5) (ls' := [(4, .int (v4 + 1)), (3, .int v4), (0, .ref 151), (1, .int p1), (2, .int p2)]) (st' := []) (M' := v_mk s) rfl ?_
            refine v_ls (ls' := [(0, .ref 151), (1, .int p1), (2, .int p2), (3, .int v4), (4, .int (v4 + 1))]) ⟨rfl, rfl, rfl, rfl, rfl, trivial⟩ (show ([0, 1, 2, 3, 4] : List Nat).Nodup from by decide) ?_
            exact ih _ _ _ h
          · refine v_i1f (T := 54) rfl rfl c106 ?_
            refine s_ek_bk 4 (P := 48) (ls' := [(0, .ref 151), (1, .int p1), (2, .int p2), (3, .int v3), (4, .int v4)]) (st' := [.int p2, .int v3, .int v4, .ref 151]) (M' := v_mk s) rfl ?_
            obtain ⟨r107, s107, e107, h⟩ := v_bd h
            refine v_cV (ν := s_e231.1) (w := 1851) (a := 151) (as' := [.int v4, .int v3, .int p2]) (r := []) (o := some (.int r107)) (by omega) rfl rfl rfl (v_mk_kd (k := 11) (rfl : v_kd 151 = 11) (by decide)) rfl (t_Md_isAhead e107 (by omega)) ?_
            show s_Ek (s_rows 3 L xs) D s_e232.1 51 [(0, .ref 151), (1, .int p1), (2, .int p2), (3, .int v3), (4, .int v4)] [.int r107] (v_mk s107) _
            rcases v_if h with ⟨c108, h⟩ | ⟨c108, h⟩
            · refine v_i1t (T := 57) rfl rfl c108 ?_
              refine s_ek_bk 2 (P := 5) (ls' := [(4, .int (v4 + 1)), (0, .ref 151), (1, .int p1), (2, .int p2), (3, .int v3)]) (st' := []) (M' := v_mk s107) rfl ?_
              refine v_ls (ls' := [(0, .ref 151), (1, .int p1), (2, .int p2), (3, .int v3), (4, .int (v4 + 1))]) ⟨rfl, rfl, rfl, rfl, rfl, trivial⟩ (show ([0, 1, 2, 3, 4] : List Nat).Nodup from by decide) ?_
              exact ih _ _ _ h
            · refine v_i1f (T := 57) rfl rfl c108 ?_
              refine s_ek_bk 4 (P := 5) (ls' := [(4, .int (v4 + 1)), (3, .int v4), (0, .ref 151), (1, .int p1), (2, .int p2)]) (st' := []) (M' := v_mk s107) rfl ?_
              refine v_ls (ls' := [(0, .ref 151), (1, .int p1), (2, .int p2), (3, .int v4), (4, .int (v4 + 1))]) ⟨rfl, rfl, rfl, rfl, rfl, trivial⟩ (show ([0, 1, 2, 3, 4] : List Nat).Nodup from by decide) ?_
              exact ih _ _ _ h
set_option maxRecDepth 20000 in
set_option maxHeartbeats 4000000 in
theorem t_Md_holder {L : Nat} {xs : Nat → Int32} {b : Int32} {c : Int32} {D : Nat} {r : Int32} {s s' : vS} (h : f_Md_holder b c s = some (r, s')) (hD : 3 ≤ D) : s_Ek (s_rows 3 L xs) D s_e232.1 0 (lv_args 0 [.ref 151, .int b, .int c]) [] (v_mk s) (v_Q (some (.int r)) s') := by
  unfold f_Md_holder at h
  show s_Ek (s_rows 3 L xs) D s_e232.1 0 [(0, .ref 151), (1, .int b), (2, .int c)] [] (v_mk s) _
  refine s_ek_bk 4 (P := 5) (ls' := [(4, .int 0), (3, .int (-1)), (0, .ref 151), (1, .int b), (2, .int c)]) (st' := []) (M' := v_mk s) rfl ?_
  refine v_ls (ls' := [(0, .ref 151), (1, .int b), (2, .int c), (3, .int (-1)), (4, .int 0)]) ⟨rfl, rfl, rfl, rfl, rfl, trivial⟩ (show ([0, 1, 2, 3, 4] : List Nat).Nodup from by decide) ?_
  refine t_Md_holder_L5 (by omega) (fun w1 s2 h => ?_) 4096 _ _ _ h
  show s_Ek (s_rows 3 L xs) D s_e232.1 63 [(3, .int w1)] [] (v_mk s2) _
  refine s_ek_bk 1 (P := 64) (ls' := [(3, .int w1)]) (st' := [.int w1]) (M' := v_mk s2) rfl ?_
  obtain ⟨rfl, rfl⟩ := v_so h
  exact v_ret (fun _ => rfl)
noncomputable def f_Md_verdictIn (b : Int32) (c : Int32) (s : vS) : Option (Int32 × vS) := (v_bi (f_Md_holder b c s) (fun r1 s1 => (if 0 ≤ r1.toInt then (if v_in r1 11 then (some ((s1.1 161 (Int32.toNatClampNeg r1)), s1)) else none) else (some ((-2), s1)))))
set_option maxRecDepth 20000 in
set_option maxHeartbeats 4000000 in
theorem t_Md_verdictIn {L : Nat} {xs : Nat → Int32} {b : Int32} {c : Int32} {D : Nat} {r : Int32} {s s' : vS} (h : f_Md_verdictIn b c s = some (r, s')) (hD : 4 ≤ D) : s_Ek (s_rows 3 L xs) D s_e233.1 0 (lv_args 0 [.ref 151, .int b, .int c]) [] (v_mk s) (v_Q (some (.int r)) s') := by
  unfold f_Md_verdictIn at h
  show s_Ek (s_rows 3 L xs) D s_e233.1 0 [(0, .ref 151), (1, .int b), (2, .int c)] [] (v_mk s) _
  refine s_ek_bk 3 (P := 3) (ls' := [(0, .ref 151), (1, .int b), (2, .int c)]) (st' := [.int c, .int b, .ref 151]) (M' := v_mk s) rfl ?_
  obtain ⟨r1, s1, e1, h⟩ := v_bd h
  refine v_cV (ν := s_e232.1) (w := 1858) (a := 151) (as' := [.int b, .int c]) (r := []) (o := some (.int r1)) (by omega) rfl rfl rfl (v_mk_kd (k := 11) (rfl : v_kd 151 = 11) (by decide)) rfl (t_Md_holder e1 (by omega)) ?_
  show s_Ek (s_rows 3 L xs) D s_e233.1 6 [(0, .ref 151), (1, .int b), (2, .int c)] [.int r1] (v_mk s1) _
  refine s_ek_bk 2 (P := 8) (ls' := [(3, .int r1), (0, .ref 151), (1, .int b), (2, .int c)]) (st' := [.int r1]) (M' := v_mk s1) rfl ?_
  rcases v_if h with ⟨c2, h⟩ | ⟨c2, h⟩
  · refine v_i1t (T := 16) rfl rfl c2 ?_
    refine s_ek_bk 1 (P := 17) (ls' := [(3, .int r1), (0, .ref 151), (1, .int b), (2, .int c)]) (st' := [.ref 151]) (M' := v_mk s1) rfl ?_
    refine v_gf rfl (v_gr (rfl : v_kd 151 = 11) (rfl : v_sl 151 16 = .ref 161) ⟨rfl, rfl, by decide⟩) ?_
    refine s_ek_bk 1 (P := 21) (ls' := [(3, .int r1), (0, .ref 151), (1, .int b), (2, .int c)]) (st' := [.int r1, .ref 161]) (M' := v_mk s1) rfl ?_
    obtain ⟨c3, h⟩ := v_ck h
    refine v_ia (i := r1) rfl (v_ai (rfl : v_kd 161 = 13) rfl (by decide) v_all13 (v_cn (rfl : v_ln 161 = 11) c3)) ?_
    obtain ⟨rfl, rfl⟩ := v_so h
    exact v_ret (fun _ => rfl)
  · refine v_i1f (T := 16) rfl rfl c2 ?_
    refine s_ek_bk 2 (P := 22) (ls' := [(3, .int r1), (0, .ref 151), (1, .int b), (2, .int c)]) (st' := [.int (-2)]) (M' := v_mk s1) rfl ?_
    obtain ⟨rfl, rfl⟩ := v_so h
    exact v_ret (fun _ => rfl)
noncomputable def f_Md_speaks (b : Int32) (c : Int32) (s : vS) : Option (Int32 × vS) := (v_bi (f_Md_isLaw b s) (fun r1 s1 => (if r1.toInt = 0 then (some ((-1), s1)) else (v_bi (f_Md_isCase c s1) (fun r3 s3 => (if r3.toInt = 0 then (some ((-1), s3)) else (v_bi (f_Md_caseOf c s3) (fun r5 s5 => (v_bi (f_Md_doesSpeak b r5 s5) (fun r6 s6 => (if r6.toInt = 0 then (some (0, s6)) else (some (1, s6)))))))))))))
set_option maxRecDepth 20000 in
set_option maxHeartbeats 4000000 in
theorem t_Md_speaks {L : Nat} {xs : Nat → Int32} {b : Int32} {c : Int32} {D : Nat} {r : Int32} {s s' : vS} (h : f_Md_speaks b c s = some (r, s')) (hD : 4 ≤ D) : s_Ek (s_rows 3 L xs) D s_e234.1 0 (lv_args 0 [.ref 151, .int b, .int c]) [] (v_mk s) (v_Q (some (.int r)) s') := by
  unfold f_Md_speaks at h
  show s_Ek (s_rows 3 L xs) D s_e234.1 0 [(0, .ref 151), (1, .int b), (2, .int c)] [] (v_mk s) _
  refine s_ek_bk 2 (P := 2) (ls' := [(0, .ref 151), (1, .int b), (2, .int c)]) (st' := [.int b, .ref 151]) (M' := v_mk s) rfl ?_
  obtain ⟨r1, s1, e1, h⟩ := v_bd h
  refine v_cV (ν := s_e201.1) (w := 1609) (a := 151) (as' := [.int b]) (r := []) (o := some (.int r1)) (by omega) rfl rfl rfl (v_mk_kd (k := 11) (rfl : v_kd 151 = 11) (by decide)) rfl (t_Md_isLaw e1 (by omega)) ?_
  show s_Ek (s_rows 3 L xs) D s_e234.1 5 [(0, .ref 151), (1, .int b), (2, .int c)] [.int r1] (v_mk s1) _
  rcases v_if h with ⟨c2, h⟩ | ⟨c2, h⟩
  · refine v_i1t (T := 15) rfl rfl c2 ?_
    refine s_ek_bk 1 (P := 16) (ls' := [(0, .ref 151), (1, .int b), (2, .int c)]) (st' := [.int (-1)]) (M' := v_mk s1) rfl ?_
    obtain ⟨rfl, rfl⟩ := v_so h
    exact v_ret (fun _ => rfl)
  · refine v_i1f (T := 15) rfl rfl c2 ?_
    refine s_ek_bk 1 (P := 9) (ls' := [(0, .ref 151), (1, .int b), (2, .int c)]) (st' := [.int c]) (M' := v_mk s1) rfl ?_
    obtain ⟨r3, s3, e3, h⟩ := v_bd h
    refine v_cS (ν := s_e226.1) (w := 1809) (as := [.int c]) (r := []) (o := some (.int r3)) (by omega) rfl rfl rfl rfl (t_Md_isCase e3 (by omega)) ?_
    show s_Ek (s_rows 3 L xs) D s_e234.1 12 [(0, .ref 151), (1, .int b), (2, .int c)] [.int r3] (v_mk s3) _
    rcases v_if h with ⟨c4, h⟩ | ⟨c4, h⟩
    · refine v_i1f (T := 17) rfl rfl (fun q => q c4) ?_
      refine s_ek_bk 1 (P := 16) (ls' := [(0, .ref 151), (1, .int b), (2, .int c)]) (st' := [.int (-1)]) (M' := v_mk s3) rfl ?_
      obtain ⟨rfl, rfl⟩ := v_so h
      exact v_ret (fun _ => rfl)
    · refine v_i1t (T := 17) rfl rfl c4 ?_
      refine s_ek_bk 3 (P := 20) (ls' := [(0, .ref 151), (1, .int b), (2, .int c)]) (st' := [.int c, .int b, .ref 151]) (M' := v_mk s3) rfl ?_
      obtain ⟨r5, s5, e5, h⟩ := v_bd h
      refine v_cS (ν := s_e224.1) (w := 1793) (as := [.int c]) (r := [.int b, .ref 151]) (o := some (.int r5)) (by omega) rfl rfl rfl rfl (t_Md_caseOf e5 (by omega)) ?_
      show s_Ek (s_rows 3 L xs) D s_e234.1 23 [(0, .ref 151), (1, .int b), (2, .int c)] [.int r5, .int b, .ref 151] (v_mk s5) _
      obtain ⟨r6, s6, e6, h⟩ := v_bd h
      refine v_cV (ν := s_e221.1) (w := 1770) (a := 151) (as' := [.int b, .int r5]) (r := []) (o := some (.int r6)) (by omega) rfl rfl rfl (v_mk_kd (k := 11) (rfl : v_kd 151 = 11) (by decide)) rfl (t_Md_doesSpeak e6 (by omega)) ?_
      show s_Ek (s_rows 3 L xs) D s_e234.1 26 [(0, .ref 151), (1, .int b), (2, .int c)] [.int r6] (v_mk s6) _
      rcases v_if h with ⟨c7, h⟩ | ⟨c7, h⟩
      · refine v_i1t (T := 33) rfl rfl c7 ?_
        refine s_ek_bk 1 (P := 34) (ls' := [(0, .ref 151), (1, .int b), (2, .int c)]) (st' := [.int 0]) (M' := v_mk s6) rfl ?_
        obtain ⟨rfl, rfl⟩ := v_so h
        exact v_ret (fun _ => rfl)
      · refine v_i1f (T := 33) rfl rfl c7 ?_
        refine s_ek_bk 2 (P := 34) (ls' := [(0, .ref 151), (1, .int b), (2, .int c)]) (st' := [.int 1]) (M' := v_mk s6) rfl ?_
        obtain ⟨rfl, rfl⟩ := v_so h
        exact v_ret (fun _ => rfl)
noncomputable def f_Md_verdict_L74b (p3 : Int32) (p4 : Int32) (k140 : Int32 → vS → Option (Int32 × vS)) (again : Int32 → Int32 → vS → Option (Int32 × vS)) (v5 : Int32) (v6 : Int32) (s : vS) : Option (Int32 × vS) := (if (s.1 151 14).toInt ≤ v6.toInt then (k140 v5 s) else (if v_in v6 11 then (if (s.1 170 (Int32.toNatClampNeg v6)).toInt = 0 then (again v5 (v6 + 1) s) else (if v_in (((125 : Int32) * v6) + p3) 1375 then (if (s.1 171 (Int32.toNatClampNeg (((125 : Int32) * v6) + p3))).toInt = 0 then (again v5 (v6 + 1) s) else (if v_in v6 11 then (if v_in p4 11 then (if (s.1 161 (Int32.toNatClampNeg v6)).toInt = (s.1 161 (Int32.toNatClampNeg p4)).toInt then (again v5 (v6 + 1) s) else (again (v5 ||| ((1 : Int32) <<< (v6 &&& 31))) (v6 + 1) s)) else none) else none)) else none)) else none))
noncomputable def f_Md_verdict_L74 (p3 : Int32) (p4 : Int32) (k140 : Int32 → vS → Option (Int32 × vS)) (n : Nat) : Int32 → Int32 → vS → Option (Int32 × vS) := Nat.rec (motive := fun _ => Int32 → Int32 → vS → Option (Int32 × vS)) (fun _ _ _ => none) (fun _ again => f_Md_verdict_L74b p3 p4 k140 again) n
noncomputable def f_Md_verdict (b : Int32) (c : Int32) (s : vS) : Option (Int32 × vS) := (v_bi (f_Md_isCase b s) (fun r1 s1 => (if r1.toInt = 0 then (some ((-1), s1)) else (v_bi (f_Md_in c 0 2 s1) (fun r3 s3 => (if r3.toInt = 0 then (some ((-1), s3)) else (v_bi (f_Md_findAll s3) (fun _ s5 => (v_bi (f_Md_caseOf b s5) (fun r6 s6 => (v_bi (f_Md_holder r6 (s6.1 151 18) s6) (fun r7 s7 => (if 0 ≤ r7.toInt then (if 2 ≤ c.toInt then (f_Md_verdict_L74 r6 r7 (fun w10 s11 => (some (w10, s11))) 4096 0 0 s7) else (if c.toInt = 0 then (if v_in r7 11 then (some ((s7.1 161 (Int32.toNatClampNeg r7)), s7)) else none) else (some (r7, s7)))) else (some ((-2), s7)))))))))))))))
set_option maxRecDepth 20000 in
set_option maxHeartbeats 4000000 in
theorem t_Md_verdict_L74 {L : Nat} {xs : Nat → Int32} {p3 : Int32} {p4 : Int32} {k140 : Int32 → vS → Option (Int32 × vS)} {D : Nat} (hD : 6 ≤ D) {r : Int32} {s' : vS} (hk140 : ∀ (v5 : Int32) (s : vS), k140 v5 s = some (r, s') → s_Ek (s_rows 3 L xs) D s_e235.1 140 [(5, .int v5)] [] (v_mk s) (v_Q (some (.int r)) s')) : ∀ (n : Nat) (v5 : Int32) (v6 : Int32) (s : vS), f_Md_verdict_L74 p3 p4 k140 n v5 v6 s = some (r, s') → s_Ek (s_rows 3 L xs) D s_e235.1 74 [(0, .ref 151), (3, .int p3), (4, .int p4), (5, .int v5), (6, .int v6)] [] (v_mk s) (v_Q (some (.int r)) s') := by
  intro n
  induction n with
  | zero => intro v5 v6 s h; exact nomatch (show (none : Option (Int32 × vS)) = some (r, s') from h)
  | succ n ih =>
    intro v5 v6 s h
    replace h : f_Md_verdict_L74b p3 p4 k140 (f_Md_verdict_L74 p3 p4 k140 n) v5 v6 s = some (r, s') := h
    unfold f_Md_verdict_L74b at h
    refine s_ek_bk 2 (P := 77) (ls' := [(0, .ref 151), (3, .int p3), (4, .int p4), (5, .int v5), (6, .int v6)]) (st' := [.ref 151, .int v6]) (M' := v_mk s) rfl ?_
    refine v_gf rfl (v_gi (rfl : v_kd 151 = 11) rfl ⟨rfl, rfl, by decide⟩) ?_
    rcases v_if h with ⟨c110, h⟩ | ⟨c110, h⟩
    · refine v_i2t (T := 140) rfl rfl c110 ?_
      refine v_ls (ls' := [(5, .int v5)]) ⟨rfl, trivial⟩ (show ([5] : List Nat).Nodup from by decide) ?_
      exact hk140 _ _ h
    · refine v_i2f (T := 140) rfl rfl c110 ?_
      refine s_ek_bk 1 (P := 84) (ls' := [(0, .ref 151), (3, .int p3), (4, .int p4), (5, .int v5), (6, .int v6)]) (st' := [.ref 151]) (M' := v_mk s) rfl ?_
      refine v_gf rfl (v_gr (rfl : v_kd 151 = 11) (rfl : v_sl 151 29 = .ref 170) ⟨rfl, rfl, by decide⟩) ?_
      refine s_ek_bk 1 (P := 89) (ls' := [(0, .ref 151), (3, .int p3), (4, .int p4), (5, .int v5), (6, .int v6)]) (st' := [.int v6, .ref 170]) (M' := v_mk s) rfl ?_
      obtain ⟨c111, h⟩ := v_ck h
      refine v_ba (i := v6) rfl (v_ai (rfl : v_kd 170 = 16) rfl (by decide) v_all16 (v_cn (rfl : v_ln 170 = 11) c111)) ?_
      rcases v_if h with ⟨c112, h⟩ | ⟨c112, h⟩
      · refine v_i1t (T := 134) rfl rfl c112 ?_
        refine s_ek_bk 2 (P := 74) (ls' := [(6, .int (v6 + 1)), (0, .ref 151), (3, .int p3), (4, .int p4), (5, .int v5)]) (st' := []) (M' := v_mk s) rfl ?_
        refine v_ls (ls' := [(0, .ref 151), (3, .int p3), (4, .int p4), (5, .int v5), (6, .int (v6 + 1))]) ⟨rfl, rfl, rfl, rfl, rfl, trivial⟩ (show ([0, 3, 4, 5, 6] : List Nat).Nodup from by decide) ?_
        exact ih _ _ _ h
      · refine v_i1f (T := 134) rfl rfl c112 ?_
        refine s_ek_bk 1 (P := 94) (ls' := [(0, .ref 151), (3, .int p3), (4, .int p4), (5, .int v5), (6, .int v6)]) (st' := [.ref 151]) (M' := v_mk s) rfl ?_
        refine v_gf rfl (v_gr (rfl : v_kd 151 = 11) (rfl : v_sl 151 32 = .ref 171) ⟨rfl, rfl, by decide⟩) ?_
        refine s_ek_bk 5 (P := 104) (ls' := [(0, .ref 151), (3, .int p3), (4, .int p4), (5, .int v5), (6, .int v6)]) (st' := [.int (((125 : Int32) * v6) + p3), .ref 171]) (M' := v_mk s) rfl ?_
        obtain ⟨c113, h⟩ := v_ck h
        refine v_ba (i := (((125 : Int32) * v6) + p3)) rfl (v_ai (rfl : v_kd 171 = 16) rfl (by decide) v_all16 (v_cn (rfl : v_ln 171 = 1375) c113)) ?_
        rcases v_if h with ⟨c114, h⟩ | ⟨c114, h⟩
        · refine v_i1t (T := 134) rfl rfl c114 ?_
          refine s_ek_bk 2 (P := 74) (ls' := [(6, .int (v6 + 1)), (0, .ref 151), (3, .int p3), (4, .int p4), (5, .int v5)]) (st' := []) (M' := v_mk s) rfl ?_
          refine v_ls (ls' := [(0, .ref 151), (3, .int p3), (4, .int p4), (5, .int v5), (6, .int (v6 + 1))]) ⟨rfl, rfl, rfl, rfl, rfl, trivial⟩ (show ([0, 3, 4, 5, 6] : List Nat).Nodup from by decide) ?_
          exact ih _ _ _ h
        · refine v_i1f (T := 134) rfl rfl c114 ?_
          refine s_ek_bk 1 (P := 109) (ls' := [(0, .ref 151), (3, .int p3), (4, .int p4), (5, .int v5), (6, .int v6)]) (st' := [.ref 151]) (M' := v_mk s) rfl ?_
          refine v_gf rfl (v_gr (rfl : v_kd 151 = 11) (rfl : v_sl 151 16 = .ref 161) ⟨rfl, rfl, by decide⟩) ?_
          refine s_ek_bk 1 (P := 114) (ls' := [(0, .ref 151), (3, .int p3), (4, .int p4), (5, .int v5), (6, .int v6)]) (st' := [.int v6, .ref 161]) (M' := v_mk s) rfl ?_
          obtain ⟨c115, h⟩ := v_ck h
          refine v_ia (i := v6) rfl (v_ai (rfl : v_kd 161 = 13) rfl (by decide) v_all13 (v_cn (rfl : v_ln 161 = 11) c115)) ?_
          refine s_ek_bk 1 (P := 116) (ls' := [(0, .ref 151), (3, .int p3), (4, .int p4), (5, .int v5), (6, .int v6)]) (st' := [.ref 151, .int (s.1 161 (Int32.toNatClampNeg v6))]) (M' := v_mk s) rfl ?_
          refine v_gf rfl (v_gr (rfl : v_kd 151 = 11) (rfl : v_sl 151 16 = .ref 161) ⟨rfl, rfl, by decide⟩) ?_
          refine s_ek_bk 1 (P := 121) (ls' := [(0, .ref 151), (3, .int p3), (4, .int p4), (5, .int v5), (6, .int v6)]) (st' := [.int p4, .ref 161, .int (s.1 161 (Int32.toNatClampNeg v6))]) (M' := v_mk s) rfl ?_
          obtain ⟨c116, h⟩ := v_ck h
          refine v_ia (i := p4) rfl (v_ai (rfl : v_kd 161 = 13) rfl (by decide) v_all13 (v_cn (rfl : v_ln 161 = 11) c116)) ?_
          rcases v_if h with ⟨c117, h⟩ | ⟨c117, h⟩
          · refine v_i2t (T := 134) rfl rfl c117 ?_
            refine s_ek_bk 2 (P := 74) (ls' := [(6, .int (v6 + 1)), (0, .ref 151), (3, .int p3), (4, .int p4), (5, .int v5)]) (st' := []) (M' := v_mk s) rfl ?_
            refine v_ls (ls' := [(0, .ref 151), (3, .int p3), (4, .int p4), (5, .int v5), (6, .int (v6 + 1))]) ⟨rfl, rfl, rfl, rfl, rfl, trivial⟩ (show ([0, 3, 4, 5, 6] : List Nat).Nodup from by decide) ?_
            exact ih _ _ _ h
          · refine v_i2f (T := 134) rfl rfl c117 ?_
            refine s_ek_bk 8 (P := 74) (ls' := [(6, .int (v6 + 1)), (5, .int (v5 ||| ((1 : Int32) <<< (v6 &&& 31)))), (0, .ref 151), (3, .int p3), (4, .int p4)]) (st' := []) (M' := v_mk s) rfl ?_
            refine v_ls (ls' := [(0, .ref 151), (3, .int p3), (4, .int p4), (5, .int (v5 ||| ((1 : Int32) <<< (v6 &&& 31)))), (6, .int (v6 + 1))]) ⟨rfl, rfl, rfl, rfl, rfl, trivial⟩ (show ([0, 3, 4, 5, 6] : List Nat).Nodup from by decide) ?_
            exact ih _ _ _ h
set_option maxRecDepth 20000 in
set_option maxHeartbeats 4000000 in
theorem t_Md_verdict {L : Nat} {xs : Nat → Int32} {b : Int32} {c : Int32} {D : Nat} {r : Int32} {s s' : vS} (h : f_Md_verdict b c s = some (r, s')) (hD : 6 ≤ D) : s_Ek (s_rows 3 L xs) D s_e235.1 0 (lv_args 0 [.ref 151, .int b, .int c]) [] (v_mk s) (v_Q (some (.int r)) s') := by
  unfold f_Md_verdict at h
  show s_Ek (s_rows 3 L xs) D s_e235.1 0 [(0, .ref 151), (1, .int b), (2, .int c)] [] (v_mk s) _
  refine s_ek_bk 1 (P := 1) (ls' := [(0, .ref 151), (1, .int b), (2, .int c)]) (st' := [.int b]) (M' := v_mk s) rfl ?_
  obtain ⟨r1, s1, e1, h⟩ := v_bd h
  refine v_cS (ν := s_e226.1) (w := 1809) (as := [.int b]) (r := []) (o := some (.int r1)) (by omega) rfl rfl rfl rfl (t_Md_isCase e1 (by omega)) ?_
  show s_Ek (s_rows 3 L xs) D s_e235.1 4 [(0, .ref 151), (1, .int b), (2, .int c)] [.int r1] (v_mk s1) _
  rcases v_if h with ⟨c2, h⟩ | ⟨c2, h⟩
  · refine v_i1t (T := 16) rfl rfl c2 ?_
    refine s_ek_bk 1 (P := 17) (ls' := [(0, .ref 151), (1, .int b), (2, .int c)]) (st' := [.int (-1)]) (M' := v_mk s1) rfl ?_
    obtain ⟨rfl, rfl⟩ := v_so h
    exact v_ret (fun _ => rfl)
  · refine v_i1f (T := 16) rfl rfl c2 ?_
    refine s_ek_bk 3 (P := 10) (ls' := [(0, .ref 151), (1, .int b), (2, .int c)]) (st' := [.int 2, .int 0, .int c]) (M' := v_mk s1) rfl ?_
    obtain ⟨r3, s3, e3, h⟩ := v_bd h
    refine v_cS (ν := s_e181.1) (w := 1451) (as := [.int c, .int 0, .int 2]) (r := []) (o := some (.int r3)) (by omega) rfl rfl rfl rfl (t_Md_in e3 (by omega)) ?_
    show s_Ek (s_rows 3 L xs) D s_e235.1 13 [(0, .ref 151), (1, .int b), (2, .int c)] [.int r3] (v_mk s3) _
    rcases v_if h with ⟨c4, h⟩ | ⟨c4, h⟩
    · refine v_i1f (T := 18) rfl rfl (fun q => q c4) ?_
      refine s_ek_bk 1 (P := 17) (ls' := [(0, .ref 151), (1, .int b), (2, .int c)]) (st' := [.int (-1)]) (M' := v_mk s3) rfl ?_
      obtain ⟨rfl, rfl⟩ := v_so h
      exact v_ret (fun _ => rfl)
    · refine v_i1t (T := 18) rfl rfl c4 ?_
      refine s_ek_bk 1 (P := 19) (ls' := [(0, .ref 151), (1, .int b), (2, .int c)]) (st' := [.ref 151]) (M' := v_mk s3) rfl ?_
      obtain ⟨r5, s5, e5, h⟩ := v_bd h
      refine v_cV (ν := s_e223.1) (w := 1784) (a := 151) (as' := []) (r := []) (o := none) (by omega) rfl rfl rfl (v_mk_kd (k := 11) (rfl : v_kd 151 = 11) (by decide)) rfl (t_Md_findAll e5 (by omega)) ?_
      show s_Ek (s_rows 3 L xs) D s_e235.1 22 [(0, .ref 151), (1, .int b), (2, .int c)] [] (v_mk s5) _
      refine s_ek_bk 1 (P := 23) (ls' := [(0, .ref 151), (1, .int b), (2, .int c)]) (st' := [.int b]) (M' := v_mk s5) rfl ?_
      obtain ⟨r6, s6, e6, h⟩ := v_bd h
      refine v_cS (ν := s_e224.1) (w := 1793) (as := [.int b]) (r := []) (o := some (.int r6)) (by omega) rfl rfl rfl rfl (t_Md_caseOf e6 (by omega)) ?_
      show s_Ek (s_rows 3 L xs) D s_e235.1 26 [(0, .ref 151), (1, .int b), (2, .int c)] [.int r6] (v_mk s6) _
      refine s_ek_bk 4 (P := 30) (ls' := [(3, .int r6), (0, .ref 151), (1, .int b), (2, .int c)]) (st' := [.ref 151, .int r6, .ref 151]) (M' := v_mk s6) rfl ?_
      refine v_gf rfl (v_gi (rfl : v_kd 151 = 11) rfl ⟨rfl, rfl, by decide⟩) ?_
      obtain ⟨r7, s7, e7, h⟩ := v_bd h
      refine v_cV (ν := s_e232.1) (w := 1858) (a := 151) (as' := [.int r6, .int (s6.1 151 18)]) (r := []) (o := some (.int r7)) (by omega) rfl rfl rfl (v_mk_kd (k := 11) (rfl : v_kd 151 = 11) (by decide)) rfl (t_Md_holder e7 (by omega)) ?_
      show s_Ek (s_rows 3 L xs) D s_e235.1 36 [(3, .int r6), (0, .ref 151), (1, .int b), (2, .int c)] [.int r7] (v_mk s7) _
      refine s_ek_bk 2 (P := 40) (ls' := [(4, .int r7), (3, .int r6), (0, .ref 151), (1, .int b), (2, .int c)]) (st' := [.int r7]) (M' := v_mk s7) rfl ?_
      rcases v_if h with ⟨c8, h⟩ | ⟨c8, h⟩
      · refine v_i1t (T := 46) rfl rfl c8 ?_
        refine s_ek_bk 2 (P := 48) (ls' := [(4, .int r7), (3, .int r6), (0, .ref 151), (1, .int b), (2, .int c)]) (st' := [.int 2, .int c]) (M' := v_mk s7) rfl ?_
        rcases v_if h with ⟨c9, h⟩ | ⟨c9, h⟩
        · refine v_i2t (T := 68) rfl rfl c9 ?_
          refine s_ek_bk 4 (P := 74) (ls' := [(6, .int 0), (5, .int 0), (4, .int r7), (3, .int r6), (0, .ref 151), (1, .int b), (2, .int c)]) (st' := []) (M' := v_mk s7) rfl ?_
          refine v_ls (ls' := [(0, .ref 151), (3, .int r6), (4, .int r7), (5, .int 0), (6, .int 0)]) ⟨rfl, rfl, rfl, rfl, rfl, trivial⟩ (show ([0, 3, 4, 5, 6] : List Nat).Nodup from by decide) ?_
          refine t_Md_verdict_L74 (by omega) (fun w10 s11 h => ?_) 4096 _ _ _ h
          show s_Ek (s_rows 3 L xs) D s_e235.1 140 [(5, .int w10)] [] (v_mk s11) _
          refine s_ek_bk 1 (P := 142) (ls' := [(5, .int w10)]) (st' := [.int w10]) (M' := v_mk s11) rfl ?_
          obtain ⟨rfl, rfl⟩ := v_so h
          exact v_ret (fun _ => rfl)
        · refine v_i2f (T := 68) rfl rfl c9 ?_
          refine s_ek_bk 1 (P := 52) (ls' := [(4, .int r7), (3, .int r6), (0, .ref 151), (1, .int b), (2, .int c)]) (st' := [.int c]) (M' := v_mk s7) rfl ?_
          rcases v_if h with ⟨c12, h⟩ | ⟨c12, h⟩
          · refine v_i1f (T := 65) rfl rfl (fun q => q c12) ?_
            refine s_ek_bk 1 (P := 56) (ls' := [(4, .int r7), (3, .int r6), (0, .ref 151), (1, .int b), (2, .int c)]) (st' := [.ref 151]) (M' := v_mk s7) rfl ?_
            refine v_gf rfl (v_gr (rfl : v_kd 151 = 11) (rfl : v_sl 151 16 = .ref 161) ⟨rfl, rfl, by decide⟩) ?_
            refine s_ek_bk 1 (P := 61) (ls' := [(4, .int r7), (3, .int r6), (0, .ref 151), (1, .int b), (2, .int c)]) (st' := [.int r7, .ref 161]) (M' := v_mk s7) rfl ?_
            obtain ⟨c13, h⟩ := v_ck h
            refine v_ia (i := r7) rfl (v_ai (rfl : v_kd 161 = 13) rfl (by decide) v_all13 (v_cn (rfl : v_ln 161 = 11) c13)) ?_
            refine s_ek_bk 1 (P := 67) (ls' := [(4, .int r7), (3, .int r6), (0, .ref 151), (1, .int b), (2, .int c)]) (st' := [.int (s7.1 161 (Int32.toNatClampNeg r7))]) (M' := v_mk s7) rfl ?_
            obtain ⟨rfl, rfl⟩ := v_so h
            exact v_ret (fun _ => rfl)
          · refine v_i1t (T := 65) rfl rfl c12 ?_
            refine s_ek_bk 1 (P := 67) (ls' := [(4, .int r7), (3, .int r6), (0, .ref 151), (1, .int b), (2, .int c)]) (st' := [.int r7]) (M' := v_mk s7) rfl ?_
            obtain ⟨rfl, rfl⟩ := v_so h
            exact v_ret (fun _ => rfl)
      · refine v_i1f (T := 46) rfl rfl c8 ?_
        refine s_ek_bk 1 (P := 45) (ls' := [(4, .int r7), (3, .int r6), (0, .ref 151), (1, .int b), (2, .int c)]) (st' := [.int (-2)]) (M' := v_mk s7) rfl ?_
        obtain ⟨rfl, rfl⟩ := v_so h
        exact v_ret (fun _ => rfl)
noncomputable def f_Md_rowFault (b : Int32) (s : vS) : Option (Int32 × vS) := (if v_in b 6 then (if (s.1 181 (Int32.toNatClampNeg b)).toInt = (-1) then (some ((-11), s)) else (if v_in b 6 then (if (s.1 181 (Int32.toNatClampNeg b)).toInt = (-3) then (some (0, s)) else (some ((-12), s))) else none)) else none)
set_option maxRecDepth 20000 in
set_option maxHeartbeats 4000000 in
theorem t_Md_rowFault {L : Nat} {xs : Nat → Int32} {b : Int32} {D : Nat} {r : Int32} {s s' : vS} (h : f_Md_rowFault b s = some (r, s')) (hD : 0 ≤ D) : s_Ek (s_rows 3 L xs) D s_e236.1 0 (lv_args 0 [.ref 151, .int b]) [] (v_mk s) (v_Q (some (.int r)) s') := by
  unfold f_Md_rowFault at h
  show s_Ek (s_rows 3 L xs) D s_e236.1 0 [(0, .ref 151), (1, .int b)] [] (v_mk s) _
  refine s_ek_bk 1 (P := 1) (ls' := [(0, .ref 151), (1, .int b)]) (st' := [.ref 151]) (M' := v_mk s) rfl ?_
  refine v_gf rfl (v_gr (rfl : v_kd 151 = 11) (rfl : v_sl 151 46 = .ref 181) ⟨rfl, rfl, by decide⟩) ?_
  refine s_ek_bk 1 (P := 5) (ls' := [(0, .ref 151), (1, .int b)]) (st' := [.int b, .ref 181]) (M' := v_mk s) rfl ?_
  obtain ⟨c1, h⟩ := v_ck h
  refine v_ia (i := b) rfl (v_ai (rfl : v_kd 181 = 13) rfl (by decide) v_all13 (v_cn (rfl : v_ln 181 = 6) c1)) ?_
  refine s_ek_bk 1 (P := 7) (ls' := [(0, .ref 151), (1, .int b)]) (st' := [.int (-1), .int (s.1 181 (Int32.toNatClampNeg b))]) (M' := v_mk s) rfl ?_
  rcases v_if h with ⟨c2, h⟩ | ⟨c2, h⟩
  · refine v_i2f (T := 15) rfl rfl (fun q => q c2) ?_
    refine s_ek_bk 2 (P := 32) (ls' := [(0, .ref 151), (1, .int b)]) (st' := [.int (-11)]) (M' := v_mk s) rfl ?_
    obtain ⟨rfl, rfl⟩ := v_so h
    exact v_ret (fun _ => rfl)
  · refine v_i2t (T := 15) rfl rfl c2 ?_
    refine s_ek_bk 1 (P := 16) (ls' := [(0, .ref 151), (1, .int b)]) (st' := [.ref 151]) (M' := v_mk s) rfl ?_
    refine v_gf rfl (v_gr (rfl : v_kd 151 = 11) (rfl : v_sl 151 46 = .ref 181) ⟨rfl, rfl, by decide⟩) ?_
    refine s_ek_bk 1 (P := 20) (ls' := [(0, .ref 151), (1, .int b)]) (st' := [.int b, .ref 181]) (M' := v_mk s) rfl ?_
    obtain ⟨c3, h⟩ := v_ck h
    refine v_ia (i := b) rfl (v_ai (rfl : v_kd 181 = 13) rfl (by decide) v_all13 (v_cn (rfl : v_ln 181 = 6) c3)) ?_
    refine s_ek_bk 1 (P := 23) (ls' := [(0, .ref 151), (1, .int b)]) (st' := [.int (-3), .int (s.1 181 (Int32.toNatClampNeg b))]) (M' := v_mk s) rfl ?_
    rcases v_if h with ⟨c4, h⟩ | ⟨c4, h⟩
    · refine v_i2f (T := 30) rfl rfl (fun q => q c4) ?_
      refine s_ek_bk 2 (P := 32) (ls' := [(0, .ref 151), (1, .int b)]) (st' := [.int 0]) (M' := v_mk s) rfl ?_
      obtain ⟨rfl, rfl⟩ := v_so h
      exact v_ret (fun _ => rfl)
    · refine v_i2t (T := 30) rfl rfl c4 ?_
      refine s_ek_bk 1 (P := 32) (ls' := [(0, .ref 151), (1, .int b)]) (st' := [.int (-12)]) (M' := v_mk s) rfl ?_
      obtain ⟨rfl, rfl⟩ := v_so h
      exact v_ret (fun _ => rfl)
noncomputable def f_Md_caseAt (b : Int32) (c : Int32) (s : vS) : Option (Int32 × vS) := (if v_in (((60 : Int32) * b) + ((2 : Int32) * c)) 360 then (some ((Int64.toInt32 (s.2 183 (Int32.toNatClampNeg (((60 : Int32) * b) + ((2 : Int32) * c))))), s)) else none)
set_option maxRecDepth 20000 in
set_option maxHeartbeats 4000000 in
theorem t_Md_caseAt {L : Nat} {xs : Nat → Int32} {b : Int32} {c : Int32} {D : Nat} {r : Int32} {s s' : vS} (h : f_Md_caseAt b c s = some (r, s')) (hD : 0 ≤ D) : s_Ek (s_rows 3 L xs) D s_e237.1 0 (lv_args 0 [.ref 151, .int b, .int c]) [] (v_mk s) (v_Q (some (.int r)) s') := by
  unfold f_Md_caseAt at h
  show s_Ek (s_rows 3 L xs) D s_e237.1 0 [(0, .ref 151), (1, .int b), (2, .int c)] [] (v_mk s) _
  refine s_ek_bk 1 (P := 1) (ls' := [(0, .ref 151), (1, .int b), (2, .int c)]) (st' := [.ref 151]) (M' := v_mk s) rfl ?_
  refine v_gf rfl (v_gr (rfl : v_kd 151 = 11) (rfl : v_sl 151 48 = .ref 183) ⟨rfl, rfl, by decide⟩) ?_
  refine s_ek_bk 7 (P := 12) (ls' := [(0, .ref 151), (1, .int b), (2, .int c)]) (st' := [.int (((60 : Int32) * b) + ((2 : Int32) * c)), .ref 183]) (M' := v_mk s) rfl ?_
  obtain ⟨c1, h⟩ := v_ck h
  refine v_la (i := (((60 : Int32) * b) + ((2 : Int32) * c))) rfl (v_al (rfl : v_kd 183 = 14) rfl (by decide) v_all14 (v_cn (rfl : v_ln 183 = 360) c1)) ?_
  refine s_ek_bk 1 (P := 14) (ls' := [(0, .ref 151), (1, .int b), (2, .int c)]) (st' := [.int (Int64.toInt32 (s.2 183 (Int32.toNatClampNeg (((60 : Int32) * b) + ((2 : Int32) * c)))))]) (M' := v_mk s) rfl ?_
  obtain ⟨rfl, rfl⟩ := v_so h
  exact v_ret (fun _ => rfl)
noncomputable def f_Md_dueAt (b : Int32) (c : Int32) (s : vS) : Option (Int32 × vS) := (if v_in ((((60 : Int32) * b) + ((2 : Int32) * c)) + (1 : Int32)) 360 then (some ((Int64.toInt32 (s.2 183 (Int32.toNatClampNeg ((((60 : Int32) * b) + ((2 : Int32) * c)) + (1 : Int32))))), s)) else none)
set_option maxRecDepth 20000 in
set_option maxHeartbeats 4000000 in
theorem t_Md_dueAt {L : Nat} {xs : Nat → Int32} {b : Int32} {c : Int32} {D : Nat} {r : Int32} {s s' : vS} (h : f_Md_dueAt b c s = some (r, s')) (hD : 0 ≤ D) : s_Ek (s_rows 3 L xs) D s_e238.1 0 (lv_args 0 [.ref 151, .int b, .int c]) [] (v_mk s) (v_Q (some (.int r)) s') := by
  unfold f_Md_dueAt at h
  show s_Ek (s_rows 3 L xs) D s_e238.1 0 [(0, .ref 151), (1, .int b), (2, .int c)] [] (v_mk s) _
  refine s_ek_bk 1 (P := 1) (ls' := [(0, .ref 151), (1, .int b), (2, .int c)]) (st' := [.ref 151]) (M' := v_mk s) rfl ?_
  refine v_gf rfl (v_gr (rfl : v_kd 151 = 11) (rfl : v_sl 151 48 = .ref 183) ⟨rfl, rfl, by decide⟩) ?_
  refine s_ek_bk 9 (P := 14) (ls' := [(0, .ref 151), (1, .int b), (2, .int c)]) (st' := [.int ((((60 : Int32) * b) + ((2 : Int32) * c)) + (1 : Int32)), .ref 183]) (M' := v_mk s) rfl ?_
  obtain ⟨c1, h⟩ := v_ck h
  refine v_la (i := ((((60 : Int32) * b) + ((2 : Int32) * c)) + (1 : Int32))) rfl (v_al (rfl : v_kd 183 = 14) rfl (by decide) v_all14 (v_cn (rfl : v_ln 183 = 360) c1)) ?_
  refine s_ek_bk 1 (P := 16) (ls' := [(0, .ref 151), (1, .int b), (2, .int c)]) (st' := [.int (Int64.toInt32 (s.2 183 (Int32.toNatClampNeg ((((60 : Int32) * b) + ((2 : Int32) * c)) + (1 : Int32)))))]) (M' := v_mk s) rfl ?_
  obtain ⟨rfl, rfl⟩ := v_so h
  exact v_ret (fun _ => rfl)
noncomputable def f_Md_isTwo (b : Int32) (c : Int32) (s : vS) : Option (Int32 × vS) := (if v_in b 6 then (if (s.1 182 (Int32.toNatClampNeg b)).toInt ≤ (((2 : Int32) * c) + (1 : Int32)).toInt then (some (0, s)) else (v_bi (f_Md_caseAt b c s) (fun r3 s3 => (v_bi (f_Md_isCase r3 s3) (fun r4 s4 => (if r4.toInt = 0 then (some (0, s4)) else (v_bi (f_Md_dueAt b c s4) (fun r6 s6 => (v_bi (f_Md_in r6 0 2 s6) (fun r7 s7 => (if r7.toInt = 0 then (v_bi (f_Md_dueAt b c s7) (fun r9 s9 => (if r9.toInt = (-2) then (some (1, s9)) else (some (0, s9))))) else (some (1, s7))))))))))))) else none)
set_option maxRecDepth 20000 in
set_option maxHeartbeats 4000000 in
theorem t_Md_isTwo {L : Nat} {xs : Nat → Int32} {b : Int32} {c : Int32} {D : Nat} {r : Int32} {s s' : vS} (h : f_Md_isTwo b c s = some (r, s')) (hD : 2 ≤ D) : s_Ek (s_rows 3 L xs) D s_e239.1 0 (lv_args 0 [.ref 151, .int b, .int c]) [] (v_mk s) (v_Q (some (.int r)) s') := by
  unfold f_Md_isTwo at h
  show s_Ek (s_rows 3 L xs) D s_e239.1 0 [(0, .ref 151), (1, .int b), (2, .int c)] [] (v_mk s) _
  refine s_ek_bk 6 (P := 6) (ls' := [(0, .ref 151), (1, .int b), (2, .int c)]) (st' := [.ref 151, .int (((2 : Int32) * c) + (1 : Int32))]) (M' := v_mk s) rfl ?_
  refine v_gf rfl (v_gr (rfl : v_kd 151 = 11) (rfl : v_sl 151 47 = .ref 182) ⟨rfl, rfl, by decide⟩) ?_
  refine s_ek_bk 1 (P := 10) (ls' := [(0, .ref 151), (1, .int b), (2, .int c)]) (st' := [.int b, .ref 182, .int (((2 : Int32) * c) + (1 : Int32))]) (M' := v_mk s) rfl ?_
  obtain ⟨c1, h⟩ := v_ck h
  refine v_ia (i := b) rfl (v_ai (rfl : v_kd 182 = 13) rfl (by decide) v_all13 (v_cn (rfl : v_ln 182 = 6) c1)) ?_
  rcases v_if h with ⟨c2, h⟩ | ⟨c2, h⟩
  · refine v_i2t (T := 55) rfl rfl c2 ?_
    refine s_ek_bk 1 (P := 56) (ls' := [(0, .ref 151), (1, .int b), (2, .int c)]) (st' := [.int 0]) (M' := v_mk s) rfl ?_
    obtain ⟨rfl, rfl⟩ := v_so h
    exact v_ret (fun _ => rfl)
  · refine v_i2f (T := 55) rfl rfl c2 ?_
    refine s_ek_bk 3 (P := 17) (ls' := [(0, .ref 151), (1, .int b), (2, .int c)]) (st' := [.int c, .int b, .ref 151]) (M' := v_mk s) rfl ?_
    obtain ⟨r3, s3, e3, h⟩ := v_bd h
    refine v_cV (ν := s_e237.1) (w := 1898) (a := 151) (as' := [.int b, .int c]) (r := []) (o := some (.int r3)) (by omega) rfl rfl rfl (v_mk_kd (k := 11) (rfl : v_kd 151 = 11) (by decide)) rfl (t_Md_caseAt e3 (by omega)) ?_
    show s_Ek (s_rows 3 L xs) D s_e239.1 20 [(0, .ref 151), (1, .int b), (2, .int c)] [.int r3] (v_mk s3) _
    obtain ⟨r4, s4, e4, h⟩ := v_bd h
    refine v_cS (ν := s_e226.1) (w := 1809) (as := [.int r3]) (r := []) (o := some (.int r4)) (by omega) rfl rfl rfl rfl (t_Md_isCase e4 (by omega)) ?_
    show s_Ek (s_rows 3 L xs) D s_e239.1 23 [(0, .ref 151), (1, .int b), (2, .int c)] [.int r4] (v_mk s4) _
    rcases v_if h with ⟨c5, h⟩ | ⟨c5, h⟩
    · refine v_i1t (T := 55) rfl rfl c5 ?_
      refine s_ek_bk 1 (P := 56) (ls' := [(0, .ref 151), (1, .int b), (2, .int c)]) (st' := [.int 0]) (M' := v_mk s4) rfl ?_
      obtain ⟨rfl, rfl⟩ := v_so h
      exact v_ret (fun _ => rfl)
    · refine v_i1f (T := 55) rfl rfl c5 ?_
      refine s_ek_bk 3 (P := 29) (ls' := [(0, .ref 151), (1, .int b), (2, .int c)]) (st' := [.int c, .int b, .ref 151]) (M' := v_mk s4) rfl ?_
      obtain ⟨r6, s6, e6, h⟩ := v_bd h
      refine v_cV (ν := s_e238.1) (w := 1906) (a := 151) (as' := [.int b, .int c]) (r := []) (o := some (.int r6)) (by omega) rfl rfl rfl (v_mk_kd (k := 11) (rfl : v_kd 151 = 11) (by decide)) rfl (t_Md_dueAt e6 (by omega)) ?_
      show s_Ek (s_rows 3 L xs) D s_e239.1 32 [(0, .ref 151), (1, .int b), (2, .int c)] [.int r6] (v_mk s6) _
      refine s_ek_bk 2 (P := 34) (ls' := [(0, .ref 151), (1, .int b), (2, .int c)]) (st' := [.int 2, .int 0, .int r6]) (M' := v_mk s6) rfl ?_
      obtain ⟨r7, s7, e7, h⟩ := v_bd h
      refine v_cS (ν := s_e181.1) (w := 1451) (as := [.int r6, .int 0, .int 2]) (r := []) (o := some (.int r7)) (by omega) rfl rfl rfl rfl (t_Md_in e7 (by omega)) ?_
      show s_Ek (s_rows 3 L xs) D s_e239.1 37 [(0, .ref 151), (1, .int b), (2, .int c)] [.int r7] (v_mk s7) _
      rcases v_if h with ⟨c8, h⟩ | ⟨c8, h⟩
      · refine v_i1f (T := 51) rfl rfl (fun q => q c8) ?_
        refine s_ek_bk 3 (P := 43) (ls' := [(0, .ref 151), (1, .int b), (2, .int c)]) (st' := [.int c, .int b, .ref 151]) (M' := v_mk s7) rfl ?_
        obtain ⟨r9, s9, e9, h⟩ := v_bd h
        refine v_cV (ν := s_e238.1) (w := 1906) (a := 151) (as' := [.int b, .int c]) (r := []) (o := some (.int r9)) (by omega) rfl rfl rfl (v_mk_kd (k := 11) (rfl : v_kd 151 = 11) (by decide)) rfl (t_Md_dueAt e9 (by omega)) ?_
        show s_Ek (s_rows 3 L xs) D s_e239.1 46 [(0, .ref 151), (1, .int b), (2, .int c)] [.int r9] (v_mk s9) _
        refine s_ek_bk 1 (P := 48) (ls' := [(0, .ref 151), (1, .int b), (2, .int c)]) (st' := [.int (-2), .int r9]) (M' := v_mk s9) rfl ?_
        rcases v_if h with ⟨c10, h⟩ | ⟨c10, h⟩
        · refine v_i2f (T := 55) rfl rfl (fun q => q c10) ?_
          refine s_ek_bk 2 (P := 56) (ls' := [(0, .ref 151), (1, .int b), (2, .int c)]) (st' := [.int 1]) (M' := v_mk s9) rfl ?_
          obtain ⟨rfl, rfl⟩ := v_so h
          exact v_ret (fun _ => rfl)
        · refine v_i2t (T := 55) rfl rfl c10 ?_
          refine s_ek_bk 1 (P := 56) (ls' := [(0, .ref 151), (1, .int b), (2, .int c)]) (st' := [.int 0]) (M' := v_mk s9) rfl ?_
          obtain ⟨rfl, rfl⟩ := v_so h
          exact v_ret (fun _ => rfl)
      · refine v_i1t (T := 51) rfl rfl c8 ?_
        refine s_ek_bk 2 (P := 56) (ls' := [(0, .ref 151), (1, .int b), (2, .int c)]) (st' := [.int 1]) (M' := v_mk s7) rfl ?_
        obtain ⟨rfl, rfl⟩ := v_so h
        exact v_ret (fun _ => rfl)
