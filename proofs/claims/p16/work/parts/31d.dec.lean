/-! functions over the store, and the runs that they stand for: Ct_holder Ct_verdictOf Ct_verdictIn Ct_beatenBy Sh_twos Sh_at Sh_placeOfTwo Ol_isSaying Sh_verdictOfTwo Sh_isTwo Ct_firstWrong Ct_rememberVerdicts Ct_findChanged Ct_comesBack Lw_draw Lw_restore Rd_letterHere Rd_comes Tx_add Rd_product Rd_sum Rd_compared -/
noncomputable def f_Ct_holder_L5b (p1 : Int32) (p2 : Int32) (k66 : Option Nat → vS → Option ((Option Nat) × vS)) (again : Option Nat → Int32 → vS → Option ((Option Nat) × vS)) (v3 : Option Nat) (v4 : Int32) (s : vS) : Option ((Option Nat) × vS) := (if (s.1 8 1).toInt ≤ v4.toInt then (k66 v3 s) else (v_bi (f_Ct_at v4 s) (fun r102 s102 => if v_kd r102 = 4 then (v_bi (f_Ct_isStanding v4 s102) (fun r104 s104 => (if r104.toInt = 0 then (again v3 (v4 + 1) s104) else (v_bi (f_Cs_has (r102 + 4) p1 s104) (fun r106 s106 => (if r106.toInt = 0 then (again v3 (v4 + 1) s106) else (v_on v3 (again (some r102) (v4 + 1) s106) (fun b108 => if v_kd b108 = 4 then (v_bi (f_Lw_goesAhead r102 b108 p2 s106) (fun r111 s111 => (if r111.toInt = 0 then (again (some b108) (v4 + 1) s111) else (again (some r102) (v4 + 1) s111)))) else none)))))))) else none)))
noncomputable def f_Ct_holder_L5 (p1 : Int32) (p2 : Int32) (k66 : Option Nat → vS → Option ((Option Nat) × vS)) (n : Nat) : Option Nat → Int32 → vS → Option ((Option Nat) × vS) := Nat.rec (motive := fun _ => Option Nat → Int32 → vS → Option ((Option Nat) × vS)) (fun _ _ _ => none) (fun _ again => f_Ct_holder_L5b p1 p2 k66 again) n
noncomputable def f_Ct_holder (b : Int32) (c : Int32) (s : vS) : Option ((Option Nat) × vS) := (f_Ct_holder_L5 b c (fun w1 s2 => (v_on w1 (some (none, s2)) (fun b3 => if v_kd b3 = 4 then (some (some b3, s2)) else none))) 4096 none 0 s)
set_option maxRecDepth 20000 in
set_option maxHeartbeats 4000000 in
theorem t_Ct_holder_L5 {L : Nat} {xs : Nat → Int32} {p1 : Int32} {p2 : Int32} {k66 : Option Nat → vS → Option ((Option Nat) × vS)} {D : Nat} (hD : 3 ≤ D) {r : (Option Nat)} {s' : vS} (hk66 : ∀ (v3 : Option Nat) (s : vS), k66 v3 s = some (r, s') → s_Ek (s_rows 3 L xs) D s_e52.1 66 [(3, v_nu v3)] [] (v_mk s) (v_Q (some (v_nu r)) s')) : ∀ (n : Nat) (v3 : Option Nat) (v4 : Int32) (s : vS), f_Ct_holder_L5 p1 p2 k66 n v3 v4 s = some (r, s') → s_Ek (s_rows 3 L xs) D s_e52.1 5 [(0, .ref 8), (1, .int p1), (2, .int p2), (3, v_nu v3), (4, .int v4)] [] (v_mk s) (v_Q (some (v_nu r)) s') := by
  intro n
  induction n with
  | zero => intro v3 v4 s h; exact nomatch (show (none : Option ((Option Nat) × vS)) = some (r, s') from h)
  | succ n ih =>
    intro v3 v4 s h
    replace h : f_Ct_holder_L5b p1 p2 k66 (f_Ct_holder_L5 p1 p2 k66 n) v3 v4 s = some (r, s') := h
    unfold f_Ct_holder_L5b at h
    refine s_ek_bk 2 (P := 8) (ls' := [(0, .ref 8), (1, .int p1), (2, .int p2), (3, v_nu v3), (4, .int v4)]) (st' := [.ref 8, .int v4]) (M' := v_mk s) rfl ?_
    refine v_gf rfl (v_gi (rfl : v_kd 8 = 3) rfl ⟨rfl, rfl, by decide⟩) ?_
    rcases v_if h with ⟨c101, h⟩ | ⟨c101, h⟩
    · refine v_i2t (T := 66) rfl rfl c101 ?_
      refine v_ls (ls' := [(3, v_nu v3)]) ⟨rfl, trivial⟩ (show ([3] : List Nat).Nodup from by decide) ?_
      exact hk66 _ _ h
    · refine v_i2f (T := 66) rfl rfl c101 ?_
      refine s_ek_bk 2 (P := 17) (ls' := [(0, .ref 8), (1, .int p1), (2, .int p2), (3, v_nu v3), (4, .int v4)]) (st' := [.int v4, .ref 8]) (M' := v_mk s) rfl ?_
      obtain ⟨r102, s102, e102, h⟩ := v_bd h
      refine v_cV (ν := s_e41.1) (w := 329) (a := 8) (as' := [.int v4]) (r := []) (o := some (.ref r102)) (by omega) rfl rfl rfl (v_mk_kd (k := 3) (rfl : v_kd 8 = 3) (by decide)) rfl (t_Ct_at e102 (by omega)) ?_
      obtain ⟨c103, h⟩ := v_ck h
      show s_Ek (s_rows 3 L xs) D s_e52.1 20 [(0, .ref 8), (1, .int p1), (2, .int p2), (3, v_nu v3), (4, .int v4)] [.ref r102] (v_mk s102) _
      refine s_ek_bk 3 (P := 25) (ls' := [(5, .ref r102), (0, .ref 8), (1, .int p1), (2, .int p2), (3, v_nu v3), (4, .int v4)]) (st' := [.int v4, .ref 8]) (M' := v_mk s102) (by cases v3 <;> rfl) ?_
      obtain ⟨r104, s104, e104, h⟩ := v_bd h
      refine v_cV (ν := s_e51.1) (w := 409) (a := 8) (as' := [.int v4]) (r := []) (o := some (.int r104)) (by omega) rfl rfl rfl (v_mk_kd (k := 3) (rfl : v_kd 8 = 3) (by decide)) rfl (t_Ct_isStanding e104 (by omega)) ?_
      show s_Ek (s_rows 3 L xs) D s_e52.1 28 [(5, .ref r102), (0, .ref 8), (1, .int p1), (2, .int p2), (3, v_nu v3), (4, .int v4)] [.int r104] (v_mk s104) _
      rcases v_if h with ⟨c105, h⟩ | ⟨c105, h⟩
      · refine v_i1t (T := 60) rfl rfl c105 ?_
        refine s_ek_bk 2 (P := 5) (ls' := [(4, .int (v4 + 1)), (5, .ref r102), (0, .ref 8), (1, .int p1), (2, .int p2), (3, v_nu v3)]) (st' := []) (M' := v_mk s104) (by cases v3 <;> rfl) ?_
        refine v_ls (ls' := [(0, .ref 8), (1, .int p1), (2, .int p2), (3, v_nu v3), (4, .int (v4 + 1))]) ⟨rfl, rfl, rfl, rfl, rfl, trivial⟩ (show ([0, 1, 2, 3, 4] : List Nat).Nodup from by decide) ?_
        exact ih _ _ _ h
      · refine v_i1f (T := 60) rfl rfl c105 ?_
        refine s_ek_bk 1 (P := 33) (ls' := [(5, .ref r102), (0, .ref 8), (1, .int p1), (2, .int p2), (3, v_nu v3), (4, .int v4)]) (st' := [.ref r102]) (M' := v_mk s104) rfl ?_
        refine v_gf rfl (v_gr c103 (v_rK v_r4_5 (by decide) c103).1 ⟨rfl, rfl, by decide⟩) ?_
        refine s_ek_bk 1 (P := 37) (ls' := [(5, .ref r102), (0, .ref 8), (1, .int p1), (2, .int p2), (3, v_nu v3), (4, .int v4)]) (st' := [.int p1, .ref (r102 + 4)]) (M' := v_mk s104) rfl ?_
        obtain ⟨r106, s106, e106, h⟩ := v_bd h
        refine v_cV (ν := s_e8.1) (w := 65) (a := (r102 + 4)) (as' := [.int p1]) (r := []) (o := some (.int r106)) (by omega) rfl rfl rfl (v_mk_kd (k := 0) (v_rK v_r4_5 (by decide) c103).2.1 (by decide)) rfl (t_Cs_has (v_rK v_r4_5 (by decide) c103).2.1 e106 (by omega)) ?_
        show s_Ek (s_rows 3 L xs) D s_e52.1 40 [(5, .ref r102), (0, .ref 8), (1, .int p1), (2, .int p2), (3, v_nu v3), (4, .int v4)] [.int r106] (v_mk s106) _
        rcases v_if h with ⟨c107, h⟩ | ⟨c107, h⟩
        · refine v_i1t (T := 60) rfl rfl c107 ?_
          refine s_ek_bk 2 (P := 5) (ls' := [(4, .int (v4 + 1)), (5, .ref r102), (0, .ref 8), (1, .int p1), (2, .int p2), (3, v_nu v3)]) (st' := []) (M' := v_mk s106) (by cases v3 <;> rfl) ?_
          refine v_ls (ls' := [(0, .ref 8), (1, .int p1), (2, .int p2), (3, v_nu v3), (4, .int (v4 + 1))]) ⟨rfl, rfl, rfl, rfl, rfl, trivial⟩ (show ([0, 1, 2, 3, 4] : List Nat).Nodup from by decide) ?_
          exact ih _ _ _ h
        · refine v_i1f (T := 60) rfl rfl c107 ?_
          rcases v_od h with ⟨rfl, hz110⟩ | ⟨b108, rfl, hz110⟩
          · have h := hz110
            show s_Ek (s_rows 3 L xs) D s_e52.1 43 [(5, .ref r102), (0, .ref 8), (1, .int p1), (2, .int p2), (3, .null), (4, .int v4)] [] (v_mk s106) _
            refine s_ek_bk 6 (P := 5) (ls' := [(4, .int (v4 + 1)), (3, .ref r102), (5, .ref r102), (0, .ref 8), (1, .int p1), (2, .int p2)]) (st' := []) (M' := v_mk s106) rfl ?_
            refine v_ls (ls' := [(0, .ref 8), (1, .int p1), (2, .int p2), (3, v_nu (some r102)), (4, .int (v4 + 1))]) ⟨rfl, rfl, rfl, rfl, rfl, trivial⟩ (show ([0, 1, 2, 3, 4] : List Nat).Nodup from by decide) ?_
            exact ih _ _ _ h
          · have h := hz110
            obtain ⟨c109, h⟩ := v_ck h
            show s_Ek (s_rows 3 L xs) D s_e52.1 43 [(5, .ref r102), (0, .ref 8), (1, .int p1), (2, .int p2), (3, .ref b108), (4, .int v4)] [] (v_mk s106) _
            refine s_ek_bk 5 (P := 51) (ls' := [(5, .ref r102), (0, .ref 8), (1, .int p1), (2, .int p2), (3, .ref b108), (4, .int v4)]) (st' := [.int p2, .ref b108, .ref r102]) (M' := v_mk s106) rfl ?_
            obtain ⟨r111, s111, e111, h⟩ := v_bd h
            refine v_cV (ν := s_e62.1) (w := 498) (a := r102) (as' := [.ref b108, .int p2]) (r := []) (o := some (.int r111)) (by omega) rfl rfl rfl (v_mk_kd (k := 4) c103 (by decide)) rfl (t_Lw_goesAhead c103 c109 e111 (by omega)) ?_
            show s_Ek (s_rows 3 L xs) D s_e52.1 54 [(5, .ref r102), (0, .ref 8), (1, .int p1), (2, .int p2), (3, .ref b108), (4, .int v4)] [.int r111] (v_mk s111) _
            rcases v_if h with ⟨c112, h⟩ | ⟨c112, h⟩
            · refine v_i1t (T := 60) rfl rfl c112 ?_
              refine s_ek_bk 2 (P := 5) (ls' := [(4, .int (v4 + 1)), (5, .ref r102), (0, .ref 8), (1, .int p1), (2, .int p2), (3, .ref b108)]) (st' := []) (M' := v_mk s111) rfl ?_
              refine v_ls (ls' := [(0, .ref 8), (1, .int p1), (2, .int p2), (3, v_nu (some b108)), (4, .int (v4 + 1))]) ⟨rfl, rfl, rfl, rfl, rfl, trivial⟩ (show ([0, 1, 2, 3, 4] : List Nat).Nodup from by decide) ?_
              exact ih _ _ _ h
            · refine v_i1f (T := 60) rfl rfl c112 ?_
              refine s_ek_bk 4 (P := 5) (ls' := [(4, .int (v4 + 1)), (3, .ref r102), (5, .ref r102), (0, .ref 8), (1, .int p1), (2, .int p2)]) (st' := []) (M' := v_mk s111) rfl ?_
              refine v_ls (ls' := [(0, .ref 8), (1, .int p1), (2, .int p2), (3, v_nu (some r102)), (4, .int (v4 + 1))]) ⟨rfl, rfl, rfl, rfl, rfl, trivial⟩ (show ([0, 1, 2, 3, 4] : List Nat).Nodup from by decide) ?_
              exact ih _ _ _ h
set_option maxRecDepth 20000 in
set_option maxHeartbeats 4000000 in
theorem t_Ct_holder {L : Nat} {xs : Nat → Int32} {b : Int32} {c : Int32} {D : Nat} {r : (Option Nat)} {s s' : vS} (h : f_Ct_holder b c s = some (r, s')) (hD : 3 ≤ D) : s_Ek (s_rows 3 L xs) D s_e52.1 0 (lv_args 0 [.ref 8, .int b, .int c]) [] (v_mk s) (v_Q (some (v_nu r)) s') := by
  unfold f_Ct_holder at h
  show s_Ek (s_rows 3 L xs) D s_e52.1 0 [(0, .ref 8), (1, .int b), (2, .int c)] [] (v_mk s) _
  refine s_ek_bk 4 (P := 5) (ls' := [(4, .int 0), (3, .null), (0, .ref 8), (1, .int b), (2, .int c)]) (st' := []) (M' := v_mk s) rfl ?_
  refine v_ls (ls' := [(0, .ref 8), (1, .int b), (2, .int c), (3, v_nu none), (4, .int 0)]) ⟨rfl, rfl, rfl, rfl, rfl, trivial⟩ (show ([0, 1, 2, 3, 4] : List Nat).Nodup from by decide) ?_
  refine t_Ct_holder_L5 (by omega) (fun w1 s2 h => ?_) 4096 _ _ _ h
  show s_Ek (s_rows 3 L xs) D s_e52.1 66 [(3, v_nu w1)] [] (v_mk s2) _
  rcases v_od h with ⟨rfl, hz5⟩ | ⟨b3, rfl, hz5⟩
  · have h := hz5
    show s_Ek (s_rows 3 L xs) D s_e52.1 66 [(3, .null)] [] (v_mk s2) _
    refine s_ek_bk 1 (P := 67) (ls' := [(3, .null)]) (st' := [.null]) (M' := v_mk s2) rfl ?_
    obtain ⟨rfl, rfl⟩ := v_so h
    exact v_ret (fun _ => rfl)
  · have h := hz5
    obtain ⟨c4, h⟩ := v_ck h
    show s_Ek (s_rows 3 L xs) D s_e52.1 66 [(3, .ref b3)] [] (v_mk s2) _
    refine s_ek_bk 1 (P := 67) (ls' := [(3, .ref b3)]) (st' := [.ref b3]) (M' := v_mk s2) rfl ?_
    obtain ⟨rfl, rfl⟩ := v_so h
    exact v_ret (fun _ => rfl)
noncomputable def f_Ct_verdictOf (b : Option Nat) (s : vS) : Option (Int32 × vS) := (v_on b (some ((-2), s)) (fun b1 => if v_kd b1 = 4 then (some ((s.1 b1 2), s)) else none))
set_option maxRecDepth 20000 in
set_option maxHeartbeats 4000000 in
theorem t_Ct_verdictOf {L : Nat} {xs : Nat → Int32} {b : Option Nat} {D : Nat} {r : Int32} {s s' : vS} (h : f_Ct_verdictOf b s = some (r, s')) (hD : 0 ≤ D) : s_Ek (s_rows 3 L xs) D s_e54.1 0 (lv_args 0 [v_nu b]) [] (v_mk s) (v_Q (some (.int r)) s') := by
  unfold f_Ct_verdictOf at h
  have hls : lv_args 0 [v_nu b] = [(0, v_nu b)] := by cases b <;> rfl
  rw [hls]
  show s_Ek (s_rows 3 L xs) D s_e54.1 0 [(0, v_nu b)] [] (v_mk s) _
  rcases v_od h with ⟨rfl, hz3⟩ | ⟨b1, rfl, hz3⟩
  · have h := hz3
    show s_Ek (s_rows 3 L xs) D s_e54.1 0 [(0, .null)] [] (v_mk s) _
    refine s_ek_bk 4 (P := 13) (ls' := [(0, .null)]) (st' := [.int (-2)]) (M' := v_mk s) rfl ?_
    obtain ⟨rfl, rfl⟩ := v_so h
    exact v_ret (fun _ => rfl)
  · have h := hz3
    obtain ⟨c2, h⟩ := v_ck h
    show s_Ek (s_rows 3 L xs) D s_e54.1 0 [(0, .ref b1)] [] (v_mk s) _
    refine s_ek_bk 3 (P := 10) (ls' := [(0, .ref b1)]) (st' := [.ref b1]) (M' := v_mk s) rfl ?_
    refine v_gf rfl (v_gi c2 (v_tK (j := 2) v_is4 (by decide) c2) ⟨rfl, rfl, by decide⟩) ?_
    obtain ⟨rfl, rfl⟩ := v_so h
    exact v_ret (fun _ => rfl)
noncomputable def f_Ct_verdictIn (b : Int32) (c : Int32) (s : vS) : Option (Int32 × vS) := (v_bi (f_Ct_holder b c s) (fun r1 s1 => v_on r1 (v_bi (f_Ct_verdictOf none s1) (fun r5 s5 => (some (r5, s5)))) (fun b2 => if v_kd b2 = 4 then (v_bi (f_Ct_verdictOf (some b2) s1) (fun r6 s6 => (some (r6, s6)))) else none)))
set_option maxRecDepth 20000 in
set_option maxHeartbeats 4000000 in
theorem t_Ct_verdictIn {L : Nat} {xs : Nat → Int32} {b : Int32} {c : Int32} {D : Nat} {r : Int32} {s s' : vS} (h : f_Ct_verdictIn b c s = some (r, s')) (hD : 4 ≤ D) : s_Ek (s_rows 3 L xs) D s_e53.1 0 (lv_args 0 [.ref 8, .int b, .int c]) [] (v_mk s) (v_Q (some (.int r)) s') := by
  unfold f_Ct_verdictIn at h
  show s_Ek (s_rows 3 L xs) D s_e53.1 0 [(0, .ref 8), (1, .int b), (2, .int c)] [] (v_mk s) _
  refine s_ek_bk 3 (P := 3) (ls' := [(0, .ref 8), (1, .int b), (2, .int c)]) (st' := [.int c, .int b, .ref 8]) (M' := v_mk s) rfl ?_
  obtain ⟨r1, s1, e1, h⟩ := v_bd h
  refine v_cV (ν := s_e52.1) (w := 418) (a := 8) (as' := [.int b, .int c]) (r := []) (o := some (v_nu r1)) (by omega) rfl rfl rfl (v_mk_kd (k := 3) (rfl : v_kd 8 = 3) (by decide)) rfl (t_Ct_holder e1 (by omega)) ?_
  rcases v_od h with ⟨rfl, hz4⟩ | ⟨b2, rfl, hz4⟩
  · have h := hz4
    show s_Ek (s_rows 3 L xs) D s_e53.1 6 [(0, .ref 8), (1, .int b), (2, .int c)] [.null] (v_mk s1) _
    obtain ⟨r5, s5, e5, h⟩ := v_bd h
    refine v_cS (ν := s_e54.1) (w := 433) (as := [.null]) (r := []) (o := some (.int r5)) (by omega) rfl rfl rfl rfl (t_Ct_verdictOf e5 (by omega)) ?_
    show s_Ek (s_rows 3 L xs) D s_e53.1 9 [(0, .ref 8), (1, .int b), (2, .int c)] [.int r5] (v_mk s5) _
    obtain ⟨rfl, rfl⟩ := v_so h
    exact v_ret (fun _ => rfl)
  · have h := hz4
    obtain ⟨c3, h⟩ := v_ck h
    show s_Ek (s_rows 3 L xs) D s_e53.1 6 [(0, .ref 8), (1, .int b), (2, .int c)] [.ref b2] (v_mk s1) _
    obtain ⟨r6, s6, e6, h⟩ := v_bd h
    refine v_cS (ν := s_e54.1) (w := 433) (as := [.ref b2]) (r := []) (o := some (.int r6)) (by omega) rfl rfl rfl rfl (t_Ct_verdictOf e6 (by omega)) ?_
    show s_Ek (s_rows 3 L xs) D s_e53.1 9 [(0, .ref 8), (1, .int b), (2, .int c)] [.int r6] (v_mk s6) _
    obtain ⟨rfl, rfl⟩ := v_so h
    exact v_ret (fun _ => rfl)
noncomputable def f_Ct_beatenBy_L5b (p1 : Nat) (p2 : Int32) (k68 : Int32 → vS → Option (Int32 × vS)) (again : Int32 → Int32 → vS → Option (Int32 × vS)) (v3 : Int32) (v4 : Int32) (s : vS) : Option (Int32 × vS) := (if (s.1 8 1).toInt ≤ v4.toInt then (k68 v3 s) else (v_bi (f_Ct_at v4 s) (fun r102 s102 => if v_kd r102 = 4 then (v_bi (f_Ct_isStanding v4 s102) (fun r104 s104 => (if r104.toInt = 0 then (again v3 (v4 + 1) s104) else (v_bi (f_Cs_has (r102 + 4) p2 s104) (fun r106 s106 => (if r106.toInt = 0 then (again v3 (v4 + 1) s106) else (if (s106.1 r102 2).toInt = (s106.1 p1 2).toInt then (again v3 (v4 + 1) s106) else (again (v3 ||| ((1 : Int32) <<< (v4 &&& 31))) (v4 + 1) s106)))))))) else none)))
noncomputable def f_Ct_beatenBy_L5 (p1 : Nat) (p2 : Int32) (k68 : Int32 → vS → Option (Int32 × vS)) (n : Nat) : Int32 → Int32 → vS → Option (Int32 × vS) := Nat.rec (motive := fun _ => Int32 → Int32 → vS → Option (Int32 × vS)) (fun _ _ _ => none) (fun _ again => f_Ct_beatenBy_L5b p1 p2 k68 again) n
noncomputable def f_Ct_beatenBy (b : Nat) (c : Int32) (s : vS) : Option (Int32 × vS) := (f_Ct_beatenBy_L5 b c (fun w1 s2 => (some (w1, s2))) 4096 0 0 s)
set_option maxRecDepth 20000 in
set_option maxHeartbeats 4000000 in
theorem t_Ct_beatenBy_L5 {L : Nat} {xs : Nat → Int32} {p1 : Nat} {p2 : Int32} (hp1 : v_kd p1 = 4) {k68 : Int32 → vS → Option (Int32 × vS)} {D : Nat} (hD : 2 ≤ D) {r : Int32} {s' : vS} (hk68 : ∀ (v3 : Int32) (s : vS), k68 v3 s = some (r, s') → s_Ek (s_rows 3 L xs) D s_e55.1 68 [(3, .int v3)] [] (v_mk s) (v_Q (some (.int r)) s')) : ∀ (n : Nat) (v3 : Int32) (v4 : Int32) (s : vS), f_Ct_beatenBy_L5 p1 p2 k68 n v3 v4 s = some (r, s') → s_Ek (s_rows 3 L xs) D s_e55.1 5 [(0, .ref 8), (1, .ref p1), (2, .int p2), (3, .int v3), (4, .int v4)] [] (v_mk s) (v_Q (some (.int r)) s') := by
  intro n
  induction n with
  | zero => intro v3 v4 s h; exact nomatch (show (none : Option (Int32 × vS)) = some (r, s') from h)
  | succ n ih =>
    intro v3 v4 s h
    replace h : f_Ct_beatenBy_L5b p1 p2 k68 (f_Ct_beatenBy_L5 p1 p2 k68 n) v3 v4 s = some (r, s') := h
    unfold f_Ct_beatenBy_L5b at h
    refine s_ek_bk 2 (P := 8) (ls' := [(0, .ref 8), (1, .ref p1), (2, .int p2), (3, .int v3), (4, .int v4)]) (st' := [.ref 8, .int v4]) (M' := v_mk s) rfl ?_
    refine v_gf rfl (v_gi (rfl : v_kd 8 = 3) rfl ⟨rfl, rfl, by decide⟩) ?_
    rcases v_if h with ⟨c101, h⟩ | ⟨c101, h⟩
    · refine v_i2t (T := 68) rfl rfl c101 ?_
      refine v_ls (ls' := [(3, .int v3)]) ⟨rfl, trivial⟩ (show ([3] : List Nat).Nodup from by decide) ?_
      exact hk68 _ _ h
    · refine v_i2f (T := 68) rfl rfl c101 ?_
      refine s_ek_bk 2 (P := 17) (ls' := [(0, .ref 8), (1, .ref p1), (2, .int p2), (3, .int v3), (4, .int v4)]) (st' := [.int v4, .ref 8]) (M' := v_mk s) rfl ?_
      obtain ⟨r102, s102, e102, h⟩ := v_bd h
      refine v_cV (ν := s_e41.1) (w := 329) (a := 8) (as' := [.int v4]) (r := []) (o := some (.ref r102)) (by omega) rfl rfl rfl (v_mk_kd (k := 3) (rfl : v_kd 8 = 3) (by decide)) rfl (t_Ct_at e102 (by omega)) ?_
      obtain ⟨c103, h⟩ := v_ck h
      show s_Ek (s_rows 3 L xs) D s_e55.1 20 [(0, .ref 8), (1, .ref p1), (2, .int p2), (3, .int v3), (4, .int v4)] [.ref r102] (v_mk s102) _
      refine s_ek_bk 3 (P := 25) (ls' := [(5, .ref r102), (0, .ref 8), (1, .ref p1), (2, .int p2), (3, .int v3), (4, .int v4)]) (st' := [.int v4, .ref 8]) (M' := v_mk s102) rfl ?_
      obtain ⟨r104, s104, e104, h⟩ := v_bd h
      refine v_cV (ν := s_e51.1) (w := 409) (a := 8) (as' := [.int v4]) (r := []) (o := some (.int r104)) (by omega) rfl rfl rfl (v_mk_kd (k := 3) (rfl : v_kd 8 = 3) (by decide)) rfl (t_Ct_isStanding e104 (by omega)) ?_
      show s_Ek (s_rows 3 L xs) D s_e55.1 28 [(5, .ref r102), (0, .ref 8), (1, .ref p1), (2, .int p2), (3, .int v3), (4, .int v4)] [.int r104] (v_mk s104) _
      rcases v_if h with ⟨c105, h⟩ | ⟨c105, h⟩
      · refine v_i1t (T := 62) rfl rfl c105 ?_
        refine s_ek_bk 2 (P := 5) (ls' := [(4, .int (v4 + 1)), (5, .ref r102), (0, .ref 8), (1, .ref p1), (2, .int p2), (3, .int v3)]) (st' := []) (M' := v_mk s104) rfl ?_
        refine v_ls (ls' := [(0, .ref 8), (1, .ref p1), (2, .int p2), (3, .int v3), (4, .int (v4 + 1))]) ⟨rfl, rfl, rfl, rfl, rfl, trivial⟩ (show ([0, 1, 2, 3, 4] : List Nat).Nodup from by decide) ?_
        exact ih _ _ _ h
      · refine v_i1f (T := 62) rfl rfl c105 ?_
        refine s_ek_bk 1 (P := 33) (ls' := [(5, .ref r102), (0, .ref 8), (1, .ref p1), (2, .int p2), (3, .int v3), (4, .int v4)]) (st' := [.ref r102]) (M' := v_mk s104) rfl ?_
        refine v_gf rfl (v_gr c103 (v_rK v_r4_5 (by decide) c103).1 ⟨rfl, rfl, by decide⟩) ?_
        refine s_ek_bk 1 (P := 37) (ls' := [(5, .ref r102), (0, .ref 8), (1, .ref p1), (2, .int p2), (3, .int v3), (4, .int v4)]) (st' := [.int p2, .ref (r102 + 4)]) (M' := v_mk s104) rfl ?_
        obtain ⟨r106, s106, e106, h⟩ := v_bd h
        refine v_cV (ν := s_e8.1) (w := 65) (a := (r102 + 4)) (as' := [.int p2]) (r := []) (o := some (.int r106)) (by omega) rfl rfl rfl (v_mk_kd (k := 0) (v_rK v_r4_5 (by decide) c103).2.1 (by decide)) rfl (t_Cs_has (v_rK v_r4_5 (by decide) c103).2.1 e106 (by omega)) ?_
        show s_Ek (s_rows 3 L xs) D s_e55.1 40 [(5, .ref r102), (0, .ref 8), (1, .ref p1), (2, .int p2), (3, .int v3), (4, .int v4)] [.int r106] (v_mk s106) _
        rcases v_if h with ⟨c107, h⟩ | ⟨c107, h⟩
        · refine v_i1t (T := 62) rfl rfl c107 ?_
          refine s_ek_bk 2 (P := 5) (ls' := [(4, .int (v4 + 1)), (5, .ref r102), (0, .ref 8), (1, .ref p1), (2, .int p2), (3, .int v3)]) (st' := []) (M' := v_mk s106) rfl ?_
          refine v_ls (ls' := [(0, .ref 8), (1, .ref p1), (2, .int p2), (3, .int v3), (4, .int (v4 + 1))]) ⟨rfl, rfl, rfl, rfl, rfl, trivial⟩ (show ([0, 1, 2, 3, 4] : List Nat).Nodup from by decide) ?_
          exact ih _ _ _ h
        · refine v_i1f (T := 62) rfl rfl c107 ?_
          refine s_ek_bk 1 (P := 45) (ls' := [(5, .ref r102), (0, .ref 8), (1, .ref p1), (2, .int p2), (3, .int v3), (4, .int v4)]) (st' := [.ref r102]) (M' := v_mk s106) rfl ?_
          refine v_gf rfl (v_gi c103 (v_tK (j := 2) v_is4 (by decide) c103) ⟨rfl, rfl, by decide⟩) ?_
          refine s_ek_bk 1 (P := 49) (ls' := [(5, .ref r102), (0, .ref 8), (1, .ref p1), (2, .int p2), (3, .int v3), (4, .int v4)]) (st' := [.ref p1, .int (s106.1 r102 2)]) (M' := v_mk s106) rfl ?_
          refine v_gf rfl (v_gi hp1 (v_tK (j := 2) v_is4 (by decide) hp1) ⟨rfl, rfl, by decide⟩) ?_
          rcases v_if h with ⟨c108, h⟩ | ⟨c108, h⟩
          · refine v_i2t (T := 62) rfl rfl c108 ?_
            refine s_ek_bk 2 (P := 5) (ls' := [(4, .int (v4 + 1)), (5, .ref r102), (0, .ref 8), (1, .ref p1), (2, .int p2), (3, .int v3)]) (st' := []) (M' := v_mk s106) rfl ?_
            refine v_ls (ls' := [(0, .ref 8), (1, .ref p1), (2, .int p2), (3, .int v3), (4, .int (v4 + 1))]) ⟨rfl, rfl, rfl, rfl, rfl, trivial⟩ (show ([0, 1, 2, 3, 4] : List Nat).Nodup from by decide) ?_
            exact ih _ _ _ h
          · refine v_i2f (T := 62) rfl rfl c108 ?_
            refine s_ek_bk 8 (P := 5) (ls' := [(4, .int (v4 + 1)), (3, .int (v3 ||| ((1 : Int32) <<< (v4 &&& 31)))), (5, .ref r102), (0, .ref 8), (1, .ref p1), (2, .int p2)]) (st' := []) (M' := v_mk s106) rfl ?_
            refine v_ls (ls' := [(0, .ref 8), (1, .ref p1), (2, .int p2), (3, .int (v3 ||| ((1 : Int32) <<< (v4 &&& 31)))), (4, .int (v4 + 1))]) ⟨rfl, rfl, rfl, rfl, rfl, trivial⟩ (show ([0, 1, 2, 3, 4] : List Nat).Nodup from by decide) ?_
            exact ih _ _ _ h
set_option maxRecDepth 20000 in
set_option maxHeartbeats 4000000 in
theorem t_Ct_beatenBy {L : Nat} {xs : Nat → Int32} {b : Nat} {c : Int32} (hb : v_kd b = 4) {D : Nat} {r : Int32} {s s' : vS} (h : f_Ct_beatenBy b c s = some (r, s')) (hD : 2 ≤ D) : s_Ek (s_rows 3 L xs) D s_e55.1 0 (lv_args 0 [.ref 8, .ref b, .int c]) [] (v_mk s) (v_Q (some (.int r)) s') := by
  unfold f_Ct_beatenBy at h
  show s_Ek (s_rows 3 L xs) D s_e55.1 0 [(0, .ref 8), (1, .ref b), (2, .int c)] [] (v_mk s) _
  refine s_ek_bk 4 (P := 5) (ls' := [(4, .int 0), (3, .int 0), (0, .ref 8), (1, .ref b), (2, .int c)]) (st' := []) (M' := v_mk s) rfl ?_
  refine v_ls (ls' := [(0, .ref 8), (1, .ref b), (2, .int c), (3, .int 0), (4, .int 0)]) ⟨rfl, rfl, rfl, rfl, rfl, trivial⟩ (show ([0, 1, 2, 3, 4] : List Nat).Nodup from by decide) ?_
  refine t_Ct_beatenBy_L5 hb (by omega) (fun w1 s2 h => ?_) 4096 _ _ _ h
  show s_Ek (s_rows 3 L xs) D s_e55.1 68 [(3, .int w1)] [] (v_mk s2) _
  refine s_ek_bk 1 (P := 69) (ls' := [(3, .int w1)]) (st' := [.int w1]) (M' := v_mk s2) rfl ?_
  obtain ⟨rfl, rfl⟩ := v_so h
  exact v_ret (fun _ => rfl)
noncomputable def f_Sh_twos (a : Nat) (s : vS) : Option (Int32 × vS) := (some ((((s.1 a 2) + (1 : Int32)) / (2 : Int32)), s))
set_option maxRecDepth 20000 in
set_option maxHeartbeats 4000000 in
theorem t_Sh_twos {L : Nat} {xs : Nat → Int32} {a : Nat} (ha : v_kd a = 6) {D : Nat} {r : Int32} {s s' : vS} (h : f_Sh_twos a s = some (r, s')) (hD : 0 ≤ D) : s_Ek (s_rows 3 L xs) D s_e94.1 0 (lv_args 0 [.ref a]) [] (v_mk s) (v_Q (some (.int r)) s') := by
  unfold f_Sh_twos at h
  show s_Ek (s_rows 3 L xs) D s_e94.1 0 [(0, .ref a)] [] (v_mk s) _
  refine s_ek_bk 1 (P := 1) (ls' := [(0, .ref a)]) (st' := [.ref a]) (M' := v_mk s) rfl ?_
  refine v_gf rfl (v_gi ha (v_tK (j := 2) v_is6 (by decide) ha) ⟨rfl, rfl, by decide⟩) ?_
  refine s_ek_bk 4 (P := 8) (ls' := [(0, .ref a)]) (st' := [.int (((s.1 a 2) + (1 : Int32)) / (2 : Int32))]) (M' := v_mk s) rfl ?_
  obtain ⟨rfl, rfl⟩ := v_so h
  exact v_ret (fun _ => rfl)
noncomputable def f_Sh_at (a : Nat) (b : Int32) (s : vS) : Option (Int64 × vS) := (if b.toInt < 0 then (some (0, s)) else (if (s.1 a 2).toInt ≤ b.toInt then (some (0, s)) else (if 60 ≤ b.toInt then (some (0, s)) else (if v_in b 60 then (some ((s.2 (a + 1) (Int32.toNatClampNeg b)), s)) else none))))
set_option maxRecDepth 20000 in
set_option maxHeartbeats 4000000 in
theorem t_Sh_at {L : Nat} {xs : Nat → Int32} {a : Nat} {b : Int32} (ha : v_kd a = 6) {D : Nat} {r : Int64} {s s' : vS} (h : f_Sh_at a b s = some (r, s')) (hD : 0 ≤ D) : s_Ek (s_rows 3 L xs) D s_e90.1 0 (lv_args 0 [.ref a, .int b]) [] (v_mk s) (v_Q (some (.long r)) s') := by
  unfold f_Sh_at at h
  show s_Ek (s_rows 3 L xs) D s_e90.1 0 [(0, .ref a), (1, .int b)] [] (v_mk s) _
  refine s_ek_bk 1 (P := 1) (ls' := [(0, .ref a), (1, .int b)]) (st' := [.int b]) (M' := v_mk s) rfl ?_
  rcases v_if h with ⟨c1, h⟩ | ⟨c1, h⟩
  · refine v_i1t (T := 30) rfl rfl c1 ?_
    refine s_ek_bk 1 (P := 31) (ls' := [(0, .ref a), (1, .int b)]) (st' := [.long 0]) (M' := v_mk s) rfl ?_
    obtain ⟨rfl, rfl⟩ := v_so h
    exact v_ret (fun _ => rfl)
  · refine v_i1f (T := 30) rfl rfl c1 ?_
    refine s_ek_bk 2 (P := 6) (ls' := [(0, .ref a), (1, .int b)]) (st' := [.ref a, .int b]) (M' := v_mk s) rfl ?_
    refine v_gf rfl (v_gi ha (v_tK (j := 2) v_is6 (by decide) ha) ⟨rfl, rfl, by decide⟩) ?_
    rcases v_if h with ⟨c2, h⟩ | ⟨c2, h⟩
    · refine v_i2t (T := 30) rfl rfl c2 ?_
      refine s_ek_bk 1 (P := 31) (ls' := [(0, .ref a), (1, .int b)]) (st' := [.long 0]) (M' := v_mk s) rfl ?_
      obtain ⟨rfl, rfl⟩ := v_so h
      exact v_ret (fun _ => rfl)
    · refine v_i2f (T := 30) rfl rfl c2 ?_
      refine s_ek_bk 2 (P := 14) (ls' := [(0, .ref a), (1, .int b)]) (st' := [.ref a, .int b]) (M' := v_mk s) rfl ?_
      refine v_gf rfl (v_gr ha (v_rK v_r6_3 (by decide) ha).1 ⟨rfl, rfl, by decide⟩) ?_
      refine v_alen (x := 60) rfl (by rw [v_len (v_rK v_r6_3 (by decide) ha).2.1 (by decide), (v_rK v_r6_3 (by decide) ha).2.2]; rfl) ?_
      rcases v_if h with ⟨c3, h⟩ | ⟨c3, h⟩
      · refine v_i2t (T := 30) rfl rfl c3 ?_
        refine s_ek_bk 1 (P := 31) (ls' := [(0, .ref a), (1, .int b)]) (st' := [.long 0]) (M' := v_mk s) rfl ?_
        obtain ⟨rfl, rfl⟩ := v_so h
        exact v_ret (fun _ => rfl)
      · refine v_i2f (T := 30) rfl rfl c3 ?_
        refine s_ek_bk 1 (P := 22) (ls' := [(0, .ref a), (1, .int b)]) (st' := [.ref a]) (M' := v_mk s) rfl ?_
        refine v_gf rfl (v_gr ha (v_rK v_r6_3 (by decide) ha).1 ⟨rfl, rfl, by decide⟩) ?_
        refine s_ek_bk 1 (P := 26) (ls' := [(0, .ref a), (1, .int b)]) (st' := [.int b, .ref (a + 1)]) (M' := v_mk s) rfl ?_
        obtain ⟨c4, h⟩ := v_ck h
        refine v_la (i := b) rfl (v_al (v_rK v_r6_3 (by decide) ha).2.1 rfl (by decide) v_all14 (v_cn (v_rK v_r6_3 (by decide) ha).2.2 c4)) ?_
        refine s_ek_bk 1 (P := 31) (ls' := [(0, .ref a), (1, .int b)]) (st' := [.long (s.2 (a + 1) (Int32.toNatClampNeg b))]) (M' := v_mk s) rfl ?_
        obtain ⟨rfl, rfl⟩ := v_so h
        exact v_ret (fun _ => rfl)
noncomputable def f_Sh_placeOfTwo (a : Nat) (b : Int32) (s : vS) : Option (Int32 × vS) := (v_bi (f_Sh_at a ((2 : Int32) * b) s) (fun r1 s1 => (v_bi (f_Cs_placeOf (Int64.toInt32 r1) s1) (fun r2 s2 => (some (r2, s2))))))
set_option maxRecDepth 20000 in
set_option maxHeartbeats 4000000 in
theorem t_Sh_placeOfTwo {L : Nat} {xs : Nat → Int32} {a : Nat} {b : Int32} (ha : v_kd a = 6) {D : Nat} {r : Int32} {s s' : vS} (h : f_Sh_placeOfTwo a b s = some (r, s')) (hD : 1 ≤ D) : s_Ek (s_rows 3 L xs) D s_e97.1 0 (lv_args 0 [.ref a, .int b]) [] (v_mk s) (v_Q (some (.int r)) s') := by
  unfold f_Sh_placeOfTwo at h
  show s_Ek (s_rows 3 L xs) D s_e97.1 0 [(0, .ref a), (1, .int b)] [] (v_mk s) _
  refine s_ek_bk 4 (P := 4) (ls' := [(0, .ref a), (1, .int b)]) (st' := [.int ((2 : Int32) * b), .ref a]) (M' := v_mk s) rfl ?_
  obtain ⟨r1, s1, e1, h⟩ := v_bd h
  refine v_cV (ν := s_e90.1) (w := 721) (a := a) (as' := [.int ((2 : Int32) * b)]) (r := []) (o := some (.long r1)) (by omega) rfl rfl rfl (v_mk_kd (k := 6) ha (by decide)) rfl (t_Sh_at ha e1 (by omega)) ?_
  show s_Ek (s_rows 3 L xs) D s_e97.1 7 [(0, .ref a), (1, .int b)] [.long r1] (v_mk s1) _
  refine s_ek_bk 1 (P := 8) (ls' := [(0, .ref a), (1, .int b)]) (st' := [.int (Int64.toInt32 r1)]) (M' := v_mk s1) rfl ?_
  obtain ⟨r2, s2, e2, h⟩ := v_bd h
  refine v_cS (ν := s_e2.1) (w := 17) (as := [.int (Int64.toInt32 r1)]) (r := []) (o := some (.int r2)) (by omega) rfl rfl rfl rfl (t_Cs_placeOf e2 (by omega)) ?_
  show s_Ek (s_rows 3 L xs) D s_e97.1 11 [(0, .ref a), (1, .int b)] [.int r2] (v_mk s2) _
  obtain ⟨rfl, rfl⟩ := v_so h
  exact v_ret (fun _ => rfl)
noncomputable def f_Ol_isSaying (b : Int32) (s : vS) : Option (Int32 × vS) := (if b.toInt < 0 then (some (0, s)) else (if 2 < b.toInt then (some (0, s)) else (some (1, s))))
set_option maxRecDepth 20000 in
set_option maxHeartbeats 4000000 in
theorem t_Ol_isSaying {L : Nat} {xs : Nat → Int32} {b : Int32} {D : Nat} {r : Int32} {s s' : vS} (h : f_Ol_isSaying b s = some (r, s')) (hD : 0 ≤ D) : s_Ek (s_rows 3 L xs) D s_e170.1 0 (lv_args 0 [.int b]) [] (v_mk s) (v_Q (some (.int r)) s') := by
  unfold f_Ol_isSaying at h
  show s_Ek (s_rows 3 L xs) D s_e170.1 0 [(0, .int b)] [] (v_mk s) _
  refine s_ek_bk 1 (P := 1) (ls' := [(0, .int b)]) (st' := [.int b]) (M' := v_mk s) rfl ?_
  rcases v_if h with ⟨c1, h⟩ | ⟨c1, h⟩
  · refine v_i1t (T := 13) rfl rfl c1 ?_
    refine s_ek_bk 1 (P := 14) (ls' := [(0, .int b)]) (st' := [.int 0]) (M' := v_mk s) rfl ?_
    obtain ⟨rfl, rfl⟩ := v_so h
    exact v_ret (fun _ => rfl)
  · refine v_i1f (T := 13) rfl rfl c1 ?_
    refine s_ek_bk 2 (P := 6) (ls' := [(0, .int b)]) (st' := [.int 2, .int b]) (M' := v_mk s) rfl ?_
    rcases v_if h with ⟨c2, h⟩ | ⟨c2, h⟩
    · refine v_i2t (T := 13) rfl rfl c2 ?_
      refine s_ek_bk 1 (P := 14) (ls' := [(0, .int b)]) (st' := [.int 0]) (M' := v_mk s) rfl ?_
      obtain ⟨rfl, rfl⟩ := v_so h
      exact v_ret (fun _ => rfl)
    · refine v_i2f (T := 13) rfl rfl c2 ?_
      refine s_ek_bk 2 (P := 14) (ls' := [(0, .int b)]) (st' := [.int 1]) (M' := v_mk s) rfl ?_
      obtain ⟨rfl, rfl⟩ := v_so h
      exact v_ret (fun _ => rfl)
noncomputable def f_Sh_verdictOfTwo (a : Nat) (b : Int32) (s : vS) : Option (Int32 × vS) := (v_bi (f_Sh_at a (((2 : Int32) * b) + (1 : Int32)) s) (fun r1 s1 => (if (((2 : Int32) * b) + (1 : Int32)).toInt < (s1.1 a 2).toInt then (v_bi (f_Ol_isSaying (Int64.toInt32 r1) s1) (fun r3 s3 => (if r3.toInt = 0 then (if (Int64.toInt32 r1).toInt = (-2) then (some ((Int64.toInt32 r1), s3)) else (some ((-1), s3))) else (some ((Int64.toInt32 r1), s3))))) else (some ((-1), s1)))))
set_option maxRecDepth 20000 in
set_option maxHeartbeats 4000000 in
theorem t_Sh_verdictOfTwo {L : Nat} {xs : Nat → Int32} {a : Nat} {b : Int32} (ha : v_kd a = 6) {D : Nat} {r : Int32} {s s' : vS} (h : f_Sh_verdictOfTwo a b s = some (r, s')) (hD : 1 ≤ D) : s_Ek (s_rows 3 L xs) D s_e98.1 0 (lv_args 0 [.ref a, .int b]) [] (v_mk s) (v_Q (some (.int r)) s') := by
  unfold f_Sh_verdictOfTwo at h
  show s_Ek (s_rows 3 L xs) D s_e98.1 0 [(0, .ref a), (1, .int b)] [] (v_mk s) _
  refine s_ek_bk 6 (P := 6) (ls' := [(0, .ref a), (1, .int b)]) (st' := [.int (((2 : Int32) * b) + (1 : Int32)), .ref a]) (M' := v_mk s) rfl ?_
  obtain ⟨r1, s1, e1, h⟩ := v_bd h
  refine v_cV (ν := s_e90.1) (w := 721) (a := a) (as' := [.int (((2 : Int32) * b) + (1 : Int32))]) (r := []) (o := some (.long r1)) (by omega) rfl rfl rfl (v_mk_kd (k := 6) ha (by decide)) rfl (t_Sh_at ha e1 (by omega)) ?_
  show s_Ek (s_rows 3 L xs) D s_e98.1 9 [(0, .ref a), (1, .int b)] [.long r1] (v_mk s1) _
  refine s_ek_bk 8 (P := 17) (ls' := [(2, .int (Int64.toInt32 r1)), (0, .ref a), (1, .int b)]) (st' := [.ref a, .int (((2 : Int32) * b) + (1 : Int32))]) (M' := v_mk s1) rfl ?_
  refine v_gf rfl (v_gi ha (v_tK (j := 2) v_is6 (by decide) ha) ⟨rfl, rfl, by decide⟩) ?_
  rcases v_if h with ⟨c2, h⟩ | ⟨c2, h⟩
  · refine v_i2t (T := 27) rfl rfl c2 ?_
    refine s_ek_bk 5 (P := 34) (ls' := [(3, .int 0), (2, .int (Int64.toInt32 r1)), (0, .ref a), (1, .int b)]) (st' := [.int (Int64.toInt32 r1)]) (M' := v_mk s1) rfl ?_
    obtain ⟨r3, s3, e3, h⟩ := v_bd h
    refine v_cI (ν := s_e170.1) (w := 1361) (as := [.int (Int64.toInt32 r1)]) (r := []) (o := some (.int r3)) (by omega) rfl rfl rfl rfl (t_Ol_isSaying e3 (by omega)) ?_
    show s_Ek (s_rows 3 L xs) D s_e98.1 37 [(3, .int 0), (2, .int (Int64.toInt32 r1)), (0, .ref a), (1, .int b)] [.int r3] (v_mk s3) _
    rcases v_if h with ⟨c4, h⟩ | ⟨c4, h⟩
    · refine v_i1f (T := 46) rfl rfl (fun q => q c4) ?_
      refine s_ek_bk 2 (P := 43) (ls' := [(3, .int 0), (2, .int (Int64.toInt32 r1)), (0, .ref a), (1, .int b)]) (st' := [.int (-2), .int (Int64.toInt32 r1)]) (M' := v_mk s3) rfl ?_
      rcases v_if h with ⟨c5, h⟩ | ⟨c5, h⟩
      · refine v_i2f (T := 50) rfl rfl (fun q => q c5) ?_
        refine s_ek_bk 2 (P := 51) (ls' := [(3, .int 0), (2, .int (Int64.toInt32 r1)), (0, .ref a), (1, .int b)]) (st' := [.int (Int64.toInt32 r1)]) (M' := v_mk s3) rfl ?_
        obtain ⟨rfl, rfl⟩ := v_so h
        exact v_ret (fun _ => rfl)
      · refine v_i2t (T := 50) rfl rfl c5 ?_
        refine s_ek_bk 1 (P := 51) (ls' := [(3, .int 0), (2, .int (Int64.toInt32 r1)), (0, .ref a), (1, .int b)]) (st' := [.int (-1)]) (M' := v_mk s3) rfl ?_
        obtain ⟨rfl, rfl⟩ := v_so h
        exact v_ret (fun _ => rfl)
    · refine v_i1t (T := 46) rfl rfl c4 ?_
      refine s_ek_bk 2 (P := 51) (ls' := [(3, .int 0), (2, .int (Int64.toInt32 r1)), (0, .ref a), (1, .int b)]) (st' := [.int (Int64.toInt32 r1)]) (M' := v_mk s3) rfl ?_
      obtain ⟨rfl, rfl⟩ := v_so h
      exact v_ret (fun _ => rfl)
  · refine v_i2f (T := 27) rfl rfl c2 ?_
    refine s_ek_bk 6 (P := 51) (ls' := [(3, .int 1), (2, .int (Int64.toInt32 r1)), (0, .ref a), (1, .int b)]) (st' := [.int (-1)]) (M' := v_mk s1) rfl ?_
    obtain ⟨rfl, rfl⟩ := v_so h
    exact v_ret (fun _ => rfl)
noncomputable def f_Sh_isTwo (a : Nat) (b : Int32) (s : vS) : Option (Int32 × vS) := (v_bi (f_Sh_placeOfTwo a b s) (fun r1 s1 => (if r1.toInt < 0 then (some (0, s1)) else (v_bi (f_Sh_verdictOfTwo a b s1) (fun r3 s3 => (if r3.toInt = (-1) then (some (0, s3)) else (some (1, s3))))))))
set_option maxRecDepth 20000 in
set_option maxHeartbeats 4000000 in
theorem t_Sh_isTwo {L : Nat} {xs : Nat → Int32} {a : Nat} {b : Int32} (ha : v_kd a = 6) {D : Nat} {r : Int32} {s s' : vS} (h : f_Sh_isTwo a b s = some (r, s')) (hD : 2 ≤ D) : s_Ek (s_rows 3 L xs) D s_e95.1 0 (lv_args 0 [.ref a, .int b]) [] (v_mk s) (v_Q (some (.int r)) s') := by
  unfold f_Sh_isTwo at h
  show s_Ek (s_rows 3 L xs) D s_e95.1 0 [(0, .ref a), (1, .int b)] [] (v_mk s) _
  refine s_ek_bk 2 (P := 2) (ls' := [(0, .ref a), (1, .int b)]) (st' := [.int b, .ref a]) (M' := v_mk s) rfl ?_
  obtain ⟨r1, s1, e1, h⟩ := v_bd h
  refine v_cV (ν := s_e97.1) (w := 777) (a := a) (as' := [.int b]) (r := []) (o := some (.int r1)) (by omega) rfl rfl rfl (v_mk_kd (k := 6) ha (by decide)) rfl (t_Sh_placeOfTwo ha e1 (by omega)) ?_
  show s_Ek (s_rows 3 L xs) D s_e95.1 5 [(0, .ref a), (1, .int b)] [.int r1] (v_mk s1) _
  rcases v_if h with ⟨c2, h⟩ | ⟨c2, h⟩
  · refine v_i1t (T := 21) rfl rfl c2 ?_
    refine s_ek_bk 1 (P := 22) (ls' := [(0, .ref a), (1, .int b)]) (st' := [.int 0]) (M' := v_mk s1) rfl ?_
    obtain ⟨rfl, rfl⟩ := v_so h
    exact v_ret (fun _ => rfl)
  · refine v_i1f (T := 21) rfl rfl c2 ?_
    refine s_ek_bk 2 (P := 10) (ls' := [(0, .ref a), (1, .int b)]) (st' := [.int b, .ref a]) (M' := v_mk s1) rfl ?_
    obtain ⟨r3, s3, e3, h⟩ := v_bd h
    refine v_cV (ν := s_e98.1) (w := 785) (a := a) (as' := [.int b]) (r := []) (o := some (.int r3)) (by omega) rfl rfl rfl (v_mk_kd (k := 6) ha (by decide)) rfl (t_Sh_verdictOfTwo ha e3 (by omega)) ?_
    show s_Ek (s_rows 3 L xs) D s_e95.1 13 [(0, .ref a), (1, .int b)] [.int r3] (v_mk s3) _
    refine s_ek_bk 1 (P := 14) (ls' := [(0, .ref a), (1, .int b)]) (st' := [.int (-1), .int r3]) (M' := v_mk s3) rfl ?_
    rcases v_if h with ⟨c4, h⟩ | ⟨c4, h⟩
    · refine v_i2t (T := 21) rfl rfl c4 ?_
      refine s_ek_bk 1 (P := 22) (ls' := [(0, .ref a), (1, .int b)]) (st' := [.int 0]) (M' := v_mk s3) rfl ?_
      obtain ⟨rfl, rfl⟩ := v_so h
      exact v_ret (fun _ => rfl)
    · refine v_i2f (T := 21) rfl rfl c4 ?_
      refine s_ek_bk 2 (P := 22) (ls' := [(0, .ref a), (1, .int b)]) (st' := [.int 1]) (M' := v_mk s3) rfl ?_
      obtain ⟨rfl, rfl⟩ := v_so h
      exact v_ret (fun _ => rfl)
noncomputable def f_Ct_firstWrong_L2b (p1 : Nat) (k39 : Int32 → vS → Option (Int32 × vS)) (k47 : vS → Option (Int32 × vS)) (again : Int32 → vS → Option (Int32 × vS)) (v2 : Int32) (s : vS) : Option (Int32 × vS) := (v_bi (f_Sh_twos p1 s) (fun r101 s101 => (if r101.toInt ≤ v2.toInt then (k47 s101) else (v_bi (f_Sh_isTwo p1 v2 s101) (fun r103 s103 => (if r103.toInt = 0 then (k39 v2 s103) else (v_bi (f_Sh_placeOfTwo p1 v2 s103) (fun r105 s105 => (v_bi (f_Ct_verdictIn r105 (s105.1 8 2) s105) (fun r106 s106 => (v_bi (f_Sh_verdictOfTwo p1 v2 s106) (fun r107 s107 => (if r106.toInt = r107.toInt then (again (v2 + 1) s107) else (k39 v2 s107))))))))))))))
noncomputable def f_Ct_firstWrong_L2 (p1 : Nat) (k39 : Int32 → vS → Option (Int32 × vS)) (k47 : vS → Option (Int32 × vS)) (n : Nat) : Int32 → vS → Option (Int32 × vS) := Nat.rec (motive := fun _ => Int32 → vS → Option (Int32 × vS)) (fun _ _ => none) (fun _ again => f_Ct_firstWrong_L2b p1 k39 k47 again) n
noncomputable def f_Ct_firstWrong (b : Nat) (s : vS) : Option (Int32 × vS) := (f_Ct_firstWrong_L2 b (fun w1 s2 => (some (w1, s2))) (fun s3 => (some ((-1), s3))) 4096 0 s)
set_option maxRecDepth 20000 in
set_option maxHeartbeats 4000000 in
theorem t_Ct_firstWrong_L2 {L : Nat} {xs : Nat → Int32} {p1 : Nat} (hp1 : v_kd p1 = 6) {k39 : Int32 → vS → Option (Int32 × vS)} {k47 : vS → Option (Int32 × vS)} {D : Nat} (hD : 5 ≤ D) {r : Int32} {s' : vS} (hk39 : ∀ (v2 : Int32) (s : vS), k39 v2 s = some (r, s') → s_Ek (s_rows 3 L xs) D s_e56.1 39 [(2, .int v2)] [] (v_mk s) (v_Q (some (.int r)) s')) (hk47 : ∀ (s : vS), k47 s = some (r, s') → s_Ek (s_rows 3 L xs) D s_e56.1 47 [] [] (v_mk s) (v_Q (some (.int r)) s')) : ∀ (n : Nat) (v2 : Int32) (s : vS), f_Ct_firstWrong_L2 p1 k39 k47 n v2 s = some (r, s') → s_Ek (s_rows 3 L xs) D s_e56.1 2 [(0, .ref 8), (1, .ref p1), (2, .int v2)] [] (v_mk s) (v_Q (some (.int r)) s') := by
  intro n
  induction n with
  | zero => intro v2 s h; exact nomatch (show (none : Option (Int32 × vS)) = some (r, s') from h)
  | succ n ih =>
    intro v2 s h
    replace h : f_Ct_firstWrong_L2b p1 k39 k47 (f_Ct_firstWrong_L2 p1 k39 k47 n) v2 s = some (r, s') := h
    unfold f_Ct_firstWrong_L2b at h
    refine s_ek_bk 2 (P := 4) (ls' := [(0, .ref 8), (1, .ref p1), (2, .int v2)]) (st' := [.ref p1, .int v2]) (M' := v_mk s) rfl ?_
    obtain ⟨r101, s101, e101, h⟩ := v_bd h
    refine v_cV (ν := s_e94.1) (w := 752) (a := p1) (as' := []) (r := [.int v2]) (o := some (.int r101)) (by omega) rfl rfl rfl (v_mk_kd (k := 6) hp1 (by decide)) rfl (t_Sh_twos hp1 e101 (by omega)) ?_
    show s_Ek (s_rows 3 L xs) D s_e56.1 7 [(0, .ref 8), (1, .ref p1), (2, .int v2)] [.int r101, .int v2] (v_mk s101) _
    rcases v_if h with ⟨c102, h⟩ | ⟨c102, h⟩
    · refine v_i2t (T := 47) rfl rfl c102 ?_
      refine v_ls (ls' := []) trivial (show ([] : List Nat).Nodup from by decide) ?_
      exact hk47 _ h
    · refine v_i2f (T := 47) rfl rfl c102 ?_
      refine s_ek_bk 2 (P := 12) (ls' := [(0, .ref 8), (1, .ref p1), (2, .int v2)]) (st' := [.int v2, .ref p1]) (M' := v_mk s101) rfl ?_
      obtain ⟨r103, s103, e103, h⟩ := v_bd h
      refine v_cV (ν := s_e95.1) (w := 761) (a := p1) (as' := [.int v2]) (r := []) (o := some (.int r103)) (by omega) rfl rfl rfl (v_mk_kd (k := 6) hp1 (by decide)) rfl (t_Sh_isTwo hp1 e103 (by omega)) ?_
      show s_Ek (s_rows 3 L xs) D s_e56.1 15 [(0, .ref 8), (1, .ref p1), (2, .int v2)] [.int r103] (v_mk s103) _
      rcases v_if h with ⟨c104, h⟩ | ⟨c104, h⟩
      · refine v_i1t (T := 39) rfl rfl c104 ?_
        refine v_ls (ls' := [(2, .int v2)]) ⟨rfl, trivial⟩ (show ([2] : List Nat).Nodup from by decide) ?_
        exact hk39 _ _ h
      · refine v_i1f (T := 39) rfl rfl c104 ?_
        refine s_ek_bk 3 (P := 21) (ls' := [(0, .ref 8), (1, .ref p1), (2, .int v2)]) (st' := [.int v2, .ref p1, .ref 8]) (M' := v_mk s103) rfl ?_
        obtain ⟨r105, s105, e105, h⟩ := v_bd h
        refine v_cV (ν := s_e97.1) (w := 777) (a := p1) (as' := [.int v2]) (r := [.ref 8]) (o := some (.int r105)) (by omega) rfl rfl rfl (v_mk_kd (k := 6) hp1 (by decide)) rfl (t_Sh_placeOfTwo hp1 e105 (by omega)) ?_
        show s_Ek (s_rows 3 L xs) D s_e56.1 24 [(0, .ref 8), (1, .ref p1), (2, .int v2)] [.int r105, .ref 8] (v_mk s105) _
        refine s_ek_bk 1 (P := 25) (ls' := [(0, .ref 8), (1, .ref p1), (2, .int v2)]) (st' := [.ref 8, .int r105, .ref 8]) (M' := v_mk s105) rfl ?_
        refine v_gf rfl (v_gi (rfl : v_kd 8 = 3) rfl ⟨rfl, rfl, by decide⟩) ?_
        obtain ⟨r106, s106, e106, h⟩ := v_bd h
        refine v_cV (ν := s_e53.1) (w := 426) (a := 8) (as' := [.int r105, .int (s105.1 8 2)]) (r := []) (o := some (.int r106)) (by omega) rfl rfl rfl (v_mk_kd (k := 3) (rfl : v_kd 8 = 3) (by decide)) rfl (t_Ct_verdictIn e106 (by omega)) ?_
        show s_Ek (s_rows 3 L xs) D s_e56.1 31 [(0, .ref 8), (1, .ref p1), (2, .int v2)] [.int r106] (v_mk s106) _
        refine s_ek_bk 2 (P := 33) (ls' := [(0, .ref 8), (1, .ref p1), (2, .int v2)]) (st' := [.int v2, .ref p1, .int r106]) (M' := v_mk s106) rfl ?_
        obtain ⟨r107, s107, e107, h⟩ := v_bd h
        refine v_cV (ν := s_e98.1) (w := 785) (a := p1) (as' := [.int v2]) (r := [.int r106]) (o := some (.int r107)) (by omega) rfl rfl rfl (v_mk_kd (k := 6) hp1 (by decide)) rfl (t_Sh_verdictOfTwo hp1 e107 (by omega)) ?_
        show s_Ek (s_rows 3 L xs) D s_e56.1 36 [(0, .ref 8), (1, .ref p1), (2, .int v2)] [.int r107, .int r106] (v_mk s107) _
        rcases v_if h with ⟨c108, h⟩ | ⟨c108, h⟩
        · refine v_i2t (T := 41) rfl rfl c108 ?_
          refine s_ek_bk 2 (P := 2) (ls' := [(2, .int (v2 + 1)), (0, .ref 8), (1, .ref p1)]) (st' := []) (M' := v_mk s107) rfl ?_
          refine v_ls (ls' := [(0, .ref 8), (1, .ref p1), (2, .int (v2 + 1))]) ⟨rfl, rfl, rfl, trivial⟩ (show ([0, 1, 2] : List Nat).Nodup from by decide) ?_
          exact ih _ _ h
        · refine v_i2f (T := 41) rfl rfl c108 ?_
          refine v_ls (ls' := [(2, .int v2)]) ⟨rfl, trivial⟩ (show ([2] : List Nat).Nodup from by decide) ?_
          exact hk39 _ _ h
set_option maxRecDepth 20000 in
set_option maxHeartbeats 4000000 in
theorem t_Ct_firstWrong {L : Nat} {xs : Nat → Int32} {b : Nat} (hb : v_kd b = 6) {D : Nat} {r : Int32} {s s' : vS} (h : f_Ct_firstWrong b s = some (r, s')) (hD : 5 ≤ D) : s_Ek (s_rows 3 L xs) D s_e56.1 0 (lv_args 0 [.ref 8, .ref b]) [] (v_mk s) (v_Q (some (.int r)) s') := by
  unfold f_Ct_firstWrong at h
  show s_Ek (s_rows 3 L xs) D s_e56.1 0 [(0, .ref 8), (1, .ref b)] [] (v_mk s) _
  refine s_ek_bk 2 (P := 2) (ls' := [(2, .int 0), (0, .ref 8), (1, .ref b)]) (st' := []) (M' := v_mk s) rfl ?_
  refine v_ls (ls' := [(0, .ref 8), (1, .ref b), (2, .int 0)]) ⟨rfl, rfl, rfl, trivial⟩ (show ([0, 1, 2] : List Nat).Nodup from by decide) ?_
  refine t_Ct_firstWrong_L2 hb (by omega) (fun w1 s2 h => ?_) (fun s3 h => ?_) 4096 _ _ h
  · show s_Ek (s_rows 3 L xs) D s_e56.1 39 [(2, .int w1)] [] (v_mk s2) _
    refine s_ek_bk 1 (P := 40) (ls' := [(2, .int w1)]) (st' := [.int w1]) (M' := v_mk s2) rfl ?_
    obtain ⟨rfl, rfl⟩ := v_so h
    exact v_ret (fun _ => rfl)
  · show s_Ek (s_rows 3 L xs) D s_e56.1 47 [] [] (v_mk s3) _
    refine s_ek_bk 1 (P := 48) (ls' := []) (st' := [.int (-1)]) (M' := v_mk s3) rfl ?_
    obtain ⟨rfl, rfl⟩ := v_so h
    exact v_ret (fun _ => rfl)
noncomputable def f_Ct_rememberVerdicts_L2b (k32 : vS → Option (Unit × vS)) (again : Int32 → vS → Option (Unit × vS)) (v1 : Int32) (s : vS) : Option (Unit × vS) := (if 125 ≤ v1.toInt then (k32 s) else (v_bi (f_Ct_verdictIn v1 (s.1 8 2) s) (fun r102 s102 => (if v_in v1 125 then (v_let (v_w1 s102 22 (Int32.toNatClampNeg v1) r102) (fun s104 => (again (v1 + 1) s104))) else none))))
noncomputable def f_Ct_rememberVerdicts_L2 (k32 : vS → Option (Unit × vS)) (n : Nat) : Int32 → vS → Option (Unit × vS) := Nat.rec (motive := fun _ => Int32 → vS → Option (Unit × vS)) (fun _ _ => none) (fun _ again => f_Ct_rememberVerdicts_L2b k32 again) n
noncomputable def f_Ct_rememberVerdicts (s : vS) : Option (Unit × vS) := (f_Ct_rememberVerdicts_L2 (fun s1 => (some ((), s1))) 4096 0 s)
set_option maxRecDepth 20000 in
set_option maxHeartbeats 4000000 in
theorem t_Ct_rememberVerdicts_L2 {L : Nat} {xs : Nat → Int32} {k32 : vS → Option (Unit × vS)} {D : Nat} (hD : 5 ≤ D) {r : Unit} {s' : vS} (hk32 : ∀ (s : vS), k32 s = some (r, s') → s_Ek (s_rows 3 L xs) D s_e57.1 32 [] [] (v_mk s) (v_Q none s')) : ∀ (n : Nat) (v1 : Int32) (s : vS), f_Ct_rememberVerdicts_L2 k32 n v1 s = some (r, s') → s_Ek (s_rows 3 L xs) D s_e57.1 2 [(0, .ref 8), (1, .int v1)] [] (v_mk s) (v_Q none s') := by
  intro n
  induction n with
  | zero => intro v1 s h; exact nomatch (show (none : Option (Unit × vS)) = some (r, s') from h)
  | succ n ih =>
    intro v1 s h
    replace h : f_Ct_rememberVerdicts_L2b k32 (f_Ct_rememberVerdicts_L2 k32 n) v1 s = some (r, s') := h
    unfold f_Ct_rememberVerdicts_L2b at h
    refine s_ek_bk 2 (P := 4) (ls' := [(0, .ref 8), (1, .int v1)]) (st' := [.ref 8, .int v1]) (M' := v_mk s) rfl ?_
    refine v_gf rfl (v_gr (rfl : v_kd 8 = 3) (rfl : v_sl 8 9 = .ref 22) ⟨rfl, rfl, by decide⟩) ?_
    refine v_alen (x := 125) rfl (by rw [v_len (rfl : v_kd 22 = 13) (by decide), (rfl : v_ln 22 = 125)]; rfl) ?_
    rcases v_if h with ⟨c101, h⟩ | ⟨c101, h⟩
    · refine v_i2t (T := 32) rfl rfl c101 ?_
      refine v_ls (ls' := []) trivial (show ([] : List Nat).Nodup from by decide) ?_
      exact hk32 _ h
    · refine v_i2f (T := 32) rfl rfl c101 ?_
      refine s_ek_bk 1 (P := 12) (ls' := [(0, .ref 8), (1, .int v1)]) (st' := [.ref 8]) (M' := v_mk s) rfl ?_
      refine v_gf rfl (v_gr (rfl : v_kd 8 = 3) (rfl : v_sl 8 9 = .ref 22) ⟨rfl, rfl, by decide⟩) ?_
      refine s_ek_bk 4 (P := 19) (ls' := [(0, .ref 8), (1, .int v1)]) (st' := [.ref 8, .int v1, .ref 8, .int v1, .ref 22]) (M' := v_mk s) rfl ?_
      refine v_gf rfl (v_gi (rfl : v_kd 8 = 3) rfl ⟨rfl, rfl, by decide⟩) ?_
      obtain ⟨r102, s102, e102, h⟩ := v_bd h
      refine v_cV (ν := s_e53.1) (w := 426) (a := 8) (as' := [.int v1, .int (s.1 8 2)]) (r := [.int v1, .ref 22]) (o := some (.int r102)) (by omega) rfl rfl rfl (v_mk_kd (k := 3) (rfl : v_kd 8 = 3) (by decide)) rfl (t_Ct_verdictIn e102 (by omega)) ?_
      show s_Ek (s_rows 3 L xs) D s_e57.1 25 [(0, .ref 8), (1, .int v1)] [.int r102, .int v1, .ref 22] (v_mk s102) _
      obtain ⟨c103, h⟩ := v_ck h
      obtain ⟨s104, es104, h⟩ := v_ld h
      refine v_ist (M' := v_mk s104) (i := v1) rfl (by rw [es104]; exact v_pai (rfl : v_kd 22 = 13) rfl (by decide) v_all13 (v_cn (rfl : v_ln 22 = 125) c103)) ?_
      refine s_ek_bk 2 (P := 2) (ls' := [(1, .int (v1 + 1)), (0, .ref 8)]) (st' := []) (M' := v_mk s104) rfl ?_
      refine v_ls (ls' := [(0, .ref 8), (1, .int (v1 + 1))]) ⟨rfl, rfl, trivial⟩ (show ([0, 1] : List Nat).Nodup from by decide) ?_
      exact ih _ _ h
set_option maxRecDepth 20000 in
set_option maxHeartbeats 4000000 in
theorem t_Ct_rememberVerdicts {L : Nat} {xs : Nat → Int32} {D : Nat} {r : Unit} {s s' : vS} (h : f_Ct_rememberVerdicts s = some (r, s')) (hD : 5 ≤ D) : s_Ek (s_rows 3 L xs) D s_e57.1 0 (lv_args 0 [.ref 8]) [] (v_mk s) (v_Q none s') := by
  unfold f_Ct_rememberVerdicts at h
  show s_Ek (s_rows 3 L xs) D s_e57.1 0 [(0, .ref 8)] [] (v_mk s) _
  refine s_ek_bk 2 (P := 2) (ls' := [(1, .int 0), (0, .ref 8)]) (st' := []) (M' := v_mk s) rfl ?_
  refine v_ls (ls' := [(0, .ref 8), (1, .int 0)]) ⟨rfl, rfl, trivial⟩ (show ([0, 1] : List Nat).Nodup from by decide) ?_
  refine t_Ct_rememberVerdicts_L2 (by omega) (fun s1 h => ?_) 4096 _ _ h
  show s_Ek (s_rows 3 L xs) D s_e57.1 32 [] [] (v_mk s1) _
  obtain ⟨rfl, rfl⟩ := v_so h
  exact v_ret (fun _ => rfl)
noncomputable def f_Ct_findChanged_L6b (p1 : Nat) (k44 : vS → Option (Unit × vS)) (again : Int32 → vS → Option (Unit × vS)) (v2 : Int32) (s : vS) : Option (Unit × vS) := (if 125 ≤ v2.toInt then (k44 s) else (if v_in v2 125 then (v_bi (f_Ct_verdictIn v2 (s.1 8 2) s) (fun r104 s104 => (if (s.1 22 (Int32.toNatClampNeg v2)).toInt = r104.toInt then (again (v2 + 1) s104) else (v_bi (f_Cs_add p1 v2 s104) (fun _ s106 => (again (v2 + 1) s106)))))) else none))
noncomputable def f_Ct_findChanged_L6 (p1 : Nat) (k44 : vS → Option (Unit × vS)) (n : Nat) : Int32 → vS → Option (Unit × vS) := Nat.rec (motive := fun _ => Int32 → vS → Option (Unit × vS)) (fun _ _ => none) (fun _ again => f_Ct_findChanged_L6b p1 k44 again) n
noncomputable def f_Ct_findChanged (b : Nat) (s : vS) : Option (Unit × vS) := (v_bi (f_Cs_clear b s) (fun _ s1 => (f_Ct_findChanged_L6 b (fun s2 => (some ((), s2))) 4096 0 s1)))
set_option maxRecDepth 20000 in
set_option maxHeartbeats 4000000 in
theorem t_Ct_findChanged_L6 {L : Nat} {xs : Nat → Int32} {p1 : Nat} (hp1 : v_kd p1 = 0) {k44 : vS → Option (Unit × vS)} {D : Nat} (hD : 5 ≤ D) {r : Unit} {s' : vS} (hk44 : ∀ (s : vS), k44 s = some (r, s') → s_Ek (s_rows 3 L xs) D s_e58.1 44 [] [] (v_mk s) (v_Q none s')) : ∀ (n : Nat) (v2 : Int32) (s : vS), f_Ct_findChanged_L6 p1 k44 n v2 s = some (r, s') → s_Ek (s_rows 3 L xs) D s_e58.1 6 [(0, .ref 8), (1, .ref p1), (2, .int v2)] [] (v_mk s) (v_Q none s') := by
  intro n
  induction n with
  | zero => intro v2 s h; exact nomatch (show (none : Option (Unit × vS)) = some (r, s') from h)
  | succ n ih =>
    intro v2 s h
    replace h : f_Ct_findChanged_L6b p1 k44 (f_Ct_findChanged_L6 p1 k44 n) v2 s = some (r, s') := h
    unfold f_Ct_findChanged_L6b at h
    refine s_ek_bk 2 (P := 8) (ls' := [(0, .ref 8), (1, .ref p1), (2, .int v2)]) (st' := [.ref 8, .int v2]) (M' := v_mk s) rfl ?_
    refine v_gf rfl (v_gr (rfl : v_kd 8 = 3) (rfl : v_sl 8 9 = .ref 22) ⟨rfl, rfl, by decide⟩) ?_
    refine v_alen (x := 125) rfl (by rw [v_len (rfl : v_kd 22 = 13) (by decide), (rfl : v_ln 22 = 125)]; rfl) ?_
    rcases v_if h with ⟨c102, h⟩ | ⟨c102, h⟩
    · refine v_i2t (T := 44) rfl rfl c102 ?_
      refine v_ls (ls' := []) trivial (show ([] : List Nat).Nodup from by decide) ?_
      exact hk44 _ h
    · refine v_i2f (T := 44) rfl rfl c102 ?_
      refine s_ek_bk 1 (P := 16) (ls' := [(0, .ref 8), (1, .ref p1), (2, .int v2)]) (st' := [.ref 8]) (M' := v_mk s) rfl ?_
      refine v_gf rfl (v_gr (rfl : v_kd 8 = 3) (rfl : v_sl 8 9 = .ref 22) ⟨rfl, rfl, by decide⟩) ?_
      refine s_ek_bk 1 (P := 20) (ls' := [(0, .ref 8), (1, .ref p1), (2, .int v2)]) (st' := [.int v2, .ref 22]) (M' := v_mk s) rfl ?_
      obtain ⟨c103, h⟩ := v_ck h
      refine v_ia (i := v2) rfl (v_ai (rfl : v_kd 22 = 13) rfl (by decide) v_all13 (v_cn (rfl : v_ln 22 = 125) c103)) ?_
      refine s_ek_bk 3 (P := 24) (ls' := [(0, .ref 8), (1, .ref p1), (2, .int v2)]) (st' := [.ref 8, .int v2, .ref 8, .int (s.1 22 (Int32.toNatClampNeg v2))]) (M' := v_mk s) rfl ?_
      refine v_gf rfl (v_gi (rfl : v_kd 8 = 3) rfl ⟨rfl, rfl, by decide⟩) ?_
      obtain ⟨r104, s104, e104, h⟩ := v_bd h
      refine v_cV (ν := s_e53.1) (w := 426) (a := 8) (as' := [.int v2, .int (s.1 8 2)]) (r := [.int (s.1 22 (Int32.toNatClampNeg v2))]) (o := some (.int r104)) (by omega) rfl rfl rfl (v_mk_kd (k := 3) (rfl : v_kd 8 = 3) (by decide)) rfl (t_Ct_verdictIn e104 (by omega)) ?_
      show s_Ek (s_rows 3 L xs) D s_e58.1 30 [(0, .ref 8), (1, .ref p1), (2, .int v2)] [.int r104, .int (s.1 22 (Int32.toNatClampNeg v2))] (v_mk s104) _
      rcases v_if h with ⟨c105, h⟩ | ⟨c105, h⟩
      · refine v_i2t (T := 38) rfl rfl c105 ?_
        refine s_ek_bk 2 (P := 6) (ls' := [(2, .int (v2 + 1)), (0, .ref 8), (1, .ref p1)]) (st' := []) (M' := v_mk s104) rfl ?_
        refine v_ls (ls' := [(0, .ref 8), (1, .ref p1), (2, .int (v2 + 1))]) ⟨rfl, rfl, rfl, trivial⟩ (show ([0, 1, 2] : List Nat).Nodup from by decide) ?_
        exact ih _ _ h
      · refine v_i2f (T := 38) rfl rfl c105 ?_
        refine s_ek_bk 2 (P := 35) (ls' := [(0, .ref 8), (1, .ref p1), (2, .int v2)]) (st' := [.int v2, .ref p1]) (M' := v_mk s104) rfl ?_
        obtain ⟨r106, s106, e106, h⟩ := v_bd h
        refine v_cV (ν := s_e7.1) (w := 57) (a := p1) (as' := [.int v2]) (r := []) (o := none) (by omega) rfl rfl rfl (v_mk_kd (k := 0) hp1 (by decide)) rfl (t_Cs_add hp1 e106 (by omega)) ?_
        show s_Ek (s_rows 3 L xs) D s_e58.1 38 [(0, .ref 8), (1, .ref p1), (2, .int v2)] [] (v_mk s106) _
        refine s_ek_bk 2 (P := 6) (ls' := [(2, .int (v2 + 1)), (0, .ref 8), (1, .ref p1)]) (st' := []) (M' := v_mk s106) rfl ?_
        refine v_ls (ls' := [(0, .ref 8), (1, .ref p1), (2, .int (v2 + 1))]) ⟨rfl, rfl, rfl, trivial⟩ (show ([0, 1, 2] : List Nat).Nodup from by decide) ?_
        exact ih _ _ h
set_option maxRecDepth 20000 in
set_option maxHeartbeats 4000000 in
theorem t_Ct_findChanged {L : Nat} {xs : Nat → Int32} {b : Nat} (hb : v_kd b = 0) {D : Nat} {r : Unit} {s s' : vS} (h : f_Ct_findChanged b s = some (r, s')) (hD : 5 ≤ D) : s_Ek (s_rows 3 L xs) D s_e58.1 0 (lv_args 0 [.ref 8, .ref b]) [] (v_mk s) (v_Q none s') := by
  unfold f_Ct_findChanged at h
  show s_Ek (s_rows 3 L xs) D s_e58.1 0 [(0, .ref 8), (1, .ref b)] [] (v_mk s) _
  refine s_ek_bk 1 (P := 1) (ls' := [(0, .ref 8), (1, .ref b)]) (st' := [.ref b]) (M' := v_mk s) rfl ?_
  obtain ⟨r1, s1, e1, h⟩ := v_bd h
  refine v_cV (ν := s_e5.1) (w := 40) (a := b) (as' := []) (r := []) (o := none) (by omega) rfl rfl rfl (v_mk_kd (k := 0) hb (by decide)) rfl (t_Cs_clear hb e1 (by omega)) ?_
  show s_Ek (s_rows 3 L xs) D s_e58.1 4 [(0, .ref 8), (1, .ref b)] [] (v_mk s1) _
  refine s_ek_bk 2 (P := 6) (ls' := [(2, .int 0), (0, .ref 8), (1, .ref b)]) (st' := []) (M' := v_mk s1) rfl ?_
  refine v_ls (ls' := [(0, .ref 8), (1, .ref b), (2, .int 0)]) ⟨rfl, rfl, rfl, trivial⟩ (show ([0, 1, 2] : List Nat).Nodup from by decide) ?_
  refine t_Ct_findChanged_L6 hb (by omega) (fun s2 h => ?_) 4096 _ _ h
  show s_Ek (s_rows 3 L xs) D s_e58.1 44 [] [] (v_mk s2) _
  obtain ⟨rfl, rfl⟩ := v_so h
  exact v_ret (fun _ => rfl)
noncomputable def f_Ct_comesBack_L4b (p1 : Int32) (k50 : vS → Option (Int32 × vS)) (again : Int32 → Int32 → vS → Option (Int32 × vS)) (v2 : Int32) (v3 : Int32) (s : vS) : Option (Int32 × vS) := (if (s.1 8 1).toInt ≤ v3.toInt then (k50 s) else (v_bi (f_Ct_isThere v2 s) (fun r102 s102 => (if r102.toInt = 0 then (if (-1) = p1.toInt then (v_bi (f_Ct_isThere p1 s102) (fun r105 s105 => (if r105 = 0 ∨ r105 = 1 then some (r105, s105) else none))) else (again (-1) (v3 + 1) s102)) else (v_bi (f_Ct_at v2 s102) (fun r107 s107 => if v_kd r107 = 4 then (if (s107.1 r107 3).toInt = p1.toInt then (v_bi (f_Ct_isThere p1 s107) (fun r110 s110 => (if r110 = 0 ∨ r110 = 1 then some (r110, s110) else none))) else (again (s107.1 r107 3) (v3 + 1) s107)) else none))))))
noncomputable def f_Ct_comesBack_L4 (p1 : Int32) (k50 : vS → Option (Int32 × vS)) (n : Nat) : Int32 → Int32 → vS → Option (Int32 × vS) := Nat.rec (motive := fun _ => Int32 → Int32 → vS → Option (Int32 × vS)) (fun _ _ _ => none) (fun _ again => f_Ct_comesBack_L4b p1 k50 again) n
noncomputable def f_Ct_comesBack (b : Int32) (s : vS) : Option (Int32 × vS) := (f_Ct_comesBack_L4 b (fun s1 => (some (0, s1))) 4096 b 0 s)
set_option maxRecDepth 20000 in
set_option maxHeartbeats 4000000 in
theorem t_Ct_comesBack_L4 {L : Nat} {xs : Nat → Int32} {p1 : Int32} {k50 : vS → Option (Int32 × vS)} {D : Nat} (hD : 2 ≤ D) {r : Int32} {s' : vS} (hk50 : ∀ (s : vS), k50 s = some (r, s') → s_Ek (s_rows 3 L xs) D s_e59.1 50 [] [] (v_mk s) (v_Q (some (.int r)) s')) : ∀ (n : Nat) (v2 : Int32) (v3 : Int32) (s : vS), f_Ct_comesBack_L4 p1 k50 n v2 v3 s = some (r, s') → s_Ek (s_rows 3 L xs) D s_e59.1 4 [(0, .ref 8), (1, .int p1), (2, .int v2), (3, .int v3)] [] (v_mk s) (v_Q (some (.int r)) s') := by
  intro n
  induction n with
  | zero => intro v2 v3 s h; exact nomatch (show (none : Option (Int32 × vS)) = some (r, s') from h)
  | succ n ih =>
    intro v2 v3 s h
    replace h : f_Ct_comesBack_L4b p1 k50 (f_Ct_comesBack_L4 p1 k50 n) v2 v3 s = some (r, s') := h
    unfold f_Ct_comesBack_L4b at h
    refine s_ek_bk 2 (P := 6) (ls' := [(0, .ref 8), (1, .int p1), (2, .int v2), (3, .int v3)]) (st' := [.ref 8, .int v3]) (M' := v_mk s) rfl ?_
    refine v_gf rfl (v_gi (rfl : v_kd 8 = 3) rfl ⟨rfl, rfl, by decide⟩) ?_
    rcases v_if h with ⟨c101, h⟩ | ⟨c101, h⟩
    · refine v_i2t (T := 50) rfl rfl c101 ?_
      refine v_ls (ls' := []) trivial (show ([] : List Nat).Nodup from by decide) ?_
      exact hk50 _ h
    · refine v_i2f (T := 50) rfl rfl c101 ?_
      refine s_ek_bk 2 (P := 14) (ls' := [(0, .ref 8), (1, .int p1), (2, .int v2), (3, .int v3)]) (st' := [.int v2, .ref 8]) (M' := v_mk s) rfl ?_
      obtain ⟨r102, s102, e102, h⟩ := v_bd h
      refine v_cV (ν := s_e46.1) (w := 369) (a := 8) (as' := [.int v2]) (r := []) (o := some (.int r102)) (by omega) rfl rfl rfl (v_mk_kd (k := 3) (rfl : v_kd 8 = 3) (by decide)) rfl (t_Ct_isThere e102 (by omega)) ?_
      show s_Ek (s_rows 3 L xs) D s_e59.1 17 [(0, .ref 8), (1, .int p1), (2, .int v2), (3, .int v3)] [.int r102] (v_mk s102) _
      rcases v_if h with ⟨c103, h⟩ | ⟨c103, h⟩
      · refine v_i1t (T := 31) rfl rfl c103 ?_
        refine s_ek_bk 4 (P := 35) (ls' := [(2, .int (-1)), (0, .ref 8), (1, .int p1), (3, .int v3)]) (st' := [.int p1, .int (-1)]) (M' := v_mk s102) rfl ?_
        rcases v_if h with ⟨c104, h⟩ | ⟨c104, h⟩
        · refine v_i2f (T := 44) rfl rfl (fun q => q c104) ?_
          refine s_ek_bk 2 (P := 40) (ls' := [(2, .int (-1)), (0, .ref 8), (1, .int p1), (3, .int v3)]) (st' := [.int p1, .ref 8]) (M' := v_mk s102) rfl ?_
          obtain ⟨r105, s105, e105, h⟩ := v_bd h
          refine v_cV (ν := s_e46.1) (w := 369) (a := 8) (as' := [.int p1]) (r := []) (o := some (.int r105)) (by omega) rfl rfl rfl (v_mk_kd (k := 3) (rfl : v_kd 8 = 3) (by decide)) rfl (t_Ct_isThere e105 (by omega)) ?_
          show s_Ek (s_rows 3 L xs) D s_e59.1 43 [(2, .int (-1)), (0, .ref 8), (1, .int p1), (3, .int v3)] [.int r105] (v_mk s105) _
          obtain ⟨c106, h⟩ := v_ck h
          obtain ⟨rfl, rfl⟩ := v_so h
          exact v_zret rfl rfl c106
        · refine v_i2t (T := 44) rfl rfl c104 ?_
          refine s_ek_bk 2 (P := 4) (ls' := [(3, .int (v3 + 1)), (2, .int (-1)), (0, .ref 8), (1, .int p1)]) (st' := []) (M' := v_mk s102) rfl ?_
          refine v_ls (ls' := [(0, .ref 8), (1, .int p1), (2, .int (-1)), (3, .int (v3 + 1))]) ⟨rfl, rfl, rfl, rfl, trivial⟩ (show ([0, 1, 2, 3] : List Nat).Nodup from by decide) ?_
          exact ih _ _ _ h
      · refine v_i1f (T := 31) rfl rfl c103 ?_
        refine s_ek_bk 2 (P := 22) (ls' := [(0, .ref 8), (1, .int p1), (2, .int v2), (3, .int v3)]) (st' := [.int v2, .ref 8]) (M' := v_mk s102) rfl ?_
        obtain ⟨r107, s107, e107, h⟩ := v_bd h
        refine v_cV (ν := s_e41.1) (w := 329) (a := 8) (as' := [.int v2]) (r := []) (o := some (.ref r107)) (by omega) rfl rfl rfl (v_mk_kd (k := 3) (rfl : v_kd 8 = 3) (by decide)) rfl (t_Ct_at e107 (by omega)) ?_
        obtain ⟨c108, h⟩ := v_ck h
        show s_Ek (s_rows 3 L xs) D s_e59.1 25 [(0, .ref 8), (1, .int p1), (2, .int v2), (3, .int v3)] [.ref r107] (v_mk s107) _
        refine v_gf rfl (v_gi c108 (v_tK (j := 3) v_is4 (by decide) c108) ⟨rfl, rfl, by decide⟩) ?_
        refine s_ek_bk 4 (P := 35) (ls' := [(2, .int (s107.1 r107 3)), (0, .ref 8), (1, .int p1), (3, .int v3)]) (st' := [.int p1, .int (s107.1 r107 3)]) (M' := v_mk s107) rfl ?_
        rcases v_if h with ⟨c109, h⟩ | ⟨c109, h⟩
        · refine v_i2f (T := 44) rfl rfl (fun q => q c109) ?_
          refine s_ek_bk 2 (P := 40) (ls' := [(2, .int (s107.1 r107 3)), (0, .ref 8), (1, .int p1), (3, .int v3)]) (st' := [.int p1, .ref 8]) (M' := v_mk s107) rfl ?_
          obtain ⟨r110, s110, e110, h⟩ := v_bd h
          refine v_cV (ν := s_e46.1) (w := 369) (a := 8) (as' := [.int p1]) (r := []) (o := some (.int r110)) (by omega) rfl rfl rfl (v_mk_kd (k := 3) (rfl : v_kd 8 = 3) (by decide)) rfl (t_Ct_isThere e110 (by omega)) ?_
          show s_Ek (s_rows 3 L xs) D s_e59.1 43 [(2, .int (s107.1 r107 3)), (0, .ref 8), (1, .int p1), (3, .int v3)] [.int r110] (v_mk s110) _
          obtain ⟨c111, h⟩ := v_ck h
          obtain ⟨rfl, rfl⟩ := v_so h
          exact v_zret rfl rfl c111
        · refine v_i2t (T := 44) rfl rfl c109 ?_
          refine s_ek_bk 2 (P := 4) (ls' := [(3, .int (v3 + 1)), (2, .int (s107.1 r107 3)), (0, .ref 8), (1, .int p1)]) (st' := []) (M' := v_mk s107) rfl ?_
          refine v_ls (ls' := [(0, .ref 8), (1, .int p1), (2, .int (s107.1 r107 3)), (3, .int (v3 + 1))]) ⟨rfl, rfl, rfl, rfl, trivial⟩ (show ([0, 1, 2, 3] : List Nat).Nodup from by decide) ?_
          exact ih _ _ _ h
set_option maxRecDepth 20000 in
set_option maxHeartbeats 4000000 in
theorem t_Ct_comesBack {L : Nat} {xs : Nat → Int32} {b : Int32} {D : Nat} {r : Int32} {s s' : vS} (h : f_Ct_comesBack b s = some (r, s')) (hD : 2 ≤ D) : s_Ek (s_rows 3 L xs) D s_e59.1 0 (lv_args 0 [.ref 8, .int b]) [] (v_mk s) (v_Q (some (.int r)) s') := by
  unfold f_Ct_comesBack at h
  show s_Ek (s_rows 3 L xs) D s_e59.1 0 [(0, .ref 8), (1, .int b)] [] (v_mk s) _
  refine s_ek_bk 4 (P := 4) (ls' := [(3, .int 0), (2, .int b), (0, .ref 8), (1, .int b)]) (st' := []) (M' := v_mk s) rfl ?_
  refine v_ls (ls' := [(0, .ref 8), (1, .int b), (2, .int b), (3, .int 0)]) ⟨rfl, rfl, rfl, rfl, trivial⟩ (show ([0, 1, 2, 3] : List Nat).Nodup from by decide) ?_
  refine t_Ct_comesBack_L4 (by omega) (fun s1 h => ?_) 4096 _ _ _ h
  show s_Ek (s_rows 3 L xs) D s_e59.1 50 [] [] (v_mk s1) _
  refine s_ek_bk 1 (P := 51) (ls' := []) (st' := [.int 0]) (M' := v_mk s1) rfl ?_
  obtain ⟨rfl, rfl⟩ := v_so h
  exact v_ret (fun _ => rfl)
noncomputable def f_Lw_draw (a : Nat) (s : vS) : Option (Unit × vS) := (v_let (v_w1 s a 9 (s.1 a 1)) (fun s1 => (v_let (v_w1 s1 a 10 (s1.1 a 2)) (fun s2 => (v_let (v_w1 s2 a 11 (s2.1 a 3)) (fun s3 => (some ((), s3))))))))
set_option maxRecDepth 20000 in
set_option maxHeartbeats 4000000 in
theorem t_Lw_draw {L : Nat} {xs : Nat → Int32} {a : Nat} (ha : v_kd a = 4) {D : Nat} {r : Unit} {s s' : vS} (h : f_Lw_draw a s = some (r, s')) (hD : 0 ≤ D) : s_Ek (s_rows 3 L xs) D s_e65.1 0 (lv_args 0 [.ref a]) [] (v_mk s) (v_Q none s') := by
  unfold f_Lw_draw at h
  show s_Ek (s_rows 3 L xs) D s_e65.1 0 [(0, .ref a)] [] (v_mk s) _
  refine s_ek_bk 2 (P := 2) (ls' := [(0, .ref a)]) (st' := [.ref a, .ref a]) (M' := v_mk s) rfl ?_
  refine v_gf rfl (v_gi ha (v_tK (j := 1) v_is4 (by decide) ha) ⟨rfl, rfl, by decide⟩) ?_
  obtain ⟨s1, es1, h⟩ := v_ld h
  refine v_pf (M' := v_mk s1) rfl (by rw [es1]; exact v_pi ha (v_tK (j := 9) v_is4 (by decide) ha) ⟨rfl, rfl, by decide⟩ rfl) ?_
  refine s_ek_bk 2 (P := 10) (ls' := [(0, .ref a)]) (st' := [.ref a, .ref a]) (M' := v_mk s1) rfl ?_
  refine v_gf rfl (v_gi ha (v_tK (j := 2) v_is4 (by decide) ha) ⟨rfl, rfl, by decide⟩) ?_
  obtain ⟨s2, es2, h⟩ := v_ld h
  refine v_pf (M' := v_mk s2) rfl (by rw [es2]; exact v_pi ha (v_tK (j := 10) v_is4 (by decide) ha) ⟨rfl, rfl, by decide⟩ rfl) ?_
  refine s_ek_bk 2 (P := 18) (ls' := [(0, .ref a)]) (st' := [.ref a, .ref a]) (M' := v_mk s2) rfl ?_
  refine v_gf rfl (v_gi ha (v_tK (j := 3) v_is4 (by decide) ha) ⟨rfl, rfl, by decide⟩) ?_
  obtain ⟨s3, es3, h⟩ := v_ld h
  refine v_pf (M' := v_mk s3) rfl (by rw [es3]; exact v_pi ha (v_tK (j := 11) v_is4 (by decide) ha) ⟨rfl, rfl, by decide⟩ rfl) ?_
  obtain ⟨rfl, rfl⟩ := v_so h
  exact v_ret (fun _ => rfl)
noncomputable def f_Lw_restore (a : Nat) (s : vS) : Option (Unit × vS) := (v_let (v_w1 s a 1 (s.1 a 9)) (fun s1 => (v_let (v_w1 s1 a 2 (s1.1 a 10)) (fun s2 => (v_let (v_w1 s2 a 3 (s2.1 a 11)) (fun s3 => (some ((), s3))))))))
set_option maxRecDepth 20000 in
set_option maxHeartbeats 4000000 in
theorem t_Lw_restore {L : Nat} {xs : Nat → Int32} {a : Nat} (ha : v_kd a = 4) {D : Nat} {r : Unit} {s s' : vS} (h : f_Lw_restore a s = some (r, s')) (hD : 0 ≤ D) : s_Ek (s_rows 3 L xs) D s_e66.1 0 (lv_args 0 [.ref a]) [] (v_mk s) (v_Q none s') := by
  unfold f_Lw_restore at h
  show s_Ek (s_rows 3 L xs) D s_e66.1 0 [(0, .ref a)] [] (v_mk s) _
  refine s_ek_bk 2 (P := 2) (ls' := [(0, .ref a)]) (st' := [.ref a, .ref a]) (M' := v_mk s) rfl ?_
  refine v_gf rfl (v_gi ha (v_tK (j := 9) v_is4 (by decide) ha) ⟨rfl, rfl, by decide⟩) ?_
  obtain ⟨s1, es1, h⟩ := v_ld h
  refine v_pf (M' := v_mk s1) rfl (by rw [es1]; exact v_pi ha (v_tK (j := 1) v_is4 (by decide) ha) ⟨rfl, rfl, by decide⟩ rfl) ?_
  refine s_ek_bk 2 (P := 10) (ls' := [(0, .ref a)]) (st' := [.ref a, .ref a]) (M' := v_mk s1) rfl ?_
  refine v_gf rfl (v_gi ha (v_tK (j := 10) v_is4 (by decide) ha) ⟨rfl, rfl, by decide⟩) ?_
  obtain ⟨s2, es2, h⟩ := v_ld h
  refine v_pf (M' := v_mk s2) rfl (by rw [es2]; exact v_pi ha (v_tK (j := 2) v_is4 (by decide) ha) ⟨rfl, rfl, by decide⟩ rfl) ?_
  refine s_ek_bk 2 (P := 18) (ls' := [(0, .ref a)]) (st' := [.ref a, .ref a]) (M' := v_mk s2) rfl ?_
  refine v_gf rfl (v_gi ha (v_tK (j := 11) v_is4 (by decide) ha) ⟨rfl, rfl, by decide⟩) ?_
  obtain ⟨s3, es3, h⟩ := v_ld h
  refine v_pf (M' := v_mk s3) rfl (by rw [es3]; exact v_pi ha (v_tK (j := 3) v_is4 (by decide) ha) ⟨rfl, rfl, by decide⟩ rfl) ?_
  obtain ⟨rfl, rfl⟩ := v_so h
  exact v_ret (fun _ => rfl)
noncomputable def f_Rd_letterHere (s : vS) : Option (Int32 × vS) := (if (s.1 3 3).toInt < 0 then (some ((-1), s)) else (if (s.1 3 2).toInt ≤ (s.1 3 3).toInt then (some ((-1), s)) else (if 60 ≤ (s.1 3 3).toInt then (some ((-1), s)) else (if v_in (s.1 3 3) 60 then (some ((s.1 7 (Int32.toNatClampNeg (s.1 3 3))), s)) else none))))
set_option maxRecDepth 20000 in
set_option maxHeartbeats 4000000 in
theorem t_Rd_letterHere {L : Nat} {xs : Nat → Int32} {D : Nat} {r : Int32} {s s' : vS} (h : f_Rd_letterHere s = some (r, s')) (hD : 0 ≤ D) : s_Ek (s_rows 3 L xs) D s_e70.1 0 (lv_args 0 [.ref 3]) [] (v_mk s) (v_Q (some (.int r)) s') := by
  unfold f_Rd_letterHere at h
  show s_Ek (s_rows 3 L xs) D s_e70.1 0 [(0, .ref 3)] [] (v_mk s) _
  refine s_ek_bk 1 (P := 1) (ls' := [(0, .ref 3)]) (st' := [.ref 3]) (M' := v_mk s) rfl ?_
  refine v_gf rfl (v_gi (rfl : v_kd 3 = 5) rfl ⟨rfl, rfl, by decide⟩) ?_
  rcases v_if h with ⟨c1, h⟩ | ⟨c1, h⟩
  · refine v_i1t (T := 42) rfl rfl c1 ?_
    refine s_ek_bk 1 (P := 43) (ls' := [(0, .ref 3)]) (st' := [.int (-1)]) (M' := v_mk s) rfl ?_
    obtain ⟨rfl, rfl⟩ := v_so h
    exact v_ret (fun _ => rfl)
  · refine v_i1f (T := 42) rfl rfl c1 ?_
    refine s_ek_bk 1 (P := 8) (ls' := [(0, .ref 3)]) (st' := [.ref 3]) (M' := v_mk s) rfl ?_
    refine v_gf rfl (v_gi (rfl : v_kd 3 = 5) rfl ⟨rfl, rfl, by decide⟩) ?_
    refine s_ek_bk 1 (P := 12) (ls' := [(0, .ref 3)]) (st' := [.ref 3, .int (s.1 3 3)]) (M' := v_mk s) rfl ?_
    refine v_gf rfl (v_gi (rfl : v_kd 3 = 5) rfl ⟨rfl, rfl, by decide⟩) ?_
    rcases v_if h with ⟨c2, h⟩ | ⟨c2, h⟩
    · refine v_i2t (T := 42) rfl rfl c2 ?_
      refine s_ek_bk 1 (P := 43) (ls' := [(0, .ref 3)]) (st' := [.int (-1)]) (M' := v_mk s) rfl ?_
      obtain ⟨rfl, rfl⟩ := v_so h
      exact v_ret (fun _ => rfl)
    · refine v_i2f (T := 42) rfl rfl c2 ?_
      refine s_ek_bk 1 (P := 19) (ls' := [(0, .ref 3)]) (st' := [.ref 3]) (M' := v_mk s) rfl ?_
      refine v_gf rfl (v_gi (rfl : v_kd 3 = 5) rfl ⟨rfl, rfl, by decide⟩) ?_
      refine s_ek_bk 1 (P := 23) (ls' := [(0, .ref 3)]) (st' := [.ref 3, .int (s.1 3 3)]) (M' := v_mk s) rfl ?_
      refine v_gf rfl (v_gr (rfl : v_kd 3 = 5) (rfl : v_sl 3 1 = .ref 7) ⟨rfl, rfl, by decide⟩) ?_
      refine v_alen (x := 60) rfl (by rw [v_len (rfl : v_kd 7 = 13) (by decide), (rfl : v_ln 7 = 60)]; rfl) ?_
      rcases v_if h with ⟨c3, h⟩ | ⟨c3, h⟩
      · refine v_i2t (T := 42) rfl rfl c3 ?_
        refine s_ek_bk 1 (P := 43) (ls' := [(0, .ref 3)]) (st' := [.int (-1)]) (M' := v_mk s) rfl ?_
        obtain ⟨rfl, rfl⟩ := v_so h
        exact v_ret (fun _ => rfl)
      · refine v_i2f (T := 42) rfl rfl c3 ?_
        refine s_ek_bk 1 (P := 31) (ls' := [(0, .ref 3)]) (st' := [.ref 3]) (M' := v_mk s) rfl ?_
        refine v_gf rfl (v_gr (rfl : v_kd 3 = 5) (rfl : v_sl 3 1 = .ref 7) ⟨rfl, rfl, by decide⟩) ?_
        refine s_ek_bk 1 (P := 35) (ls' := [(0, .ref 3)]) (st' := [.ref 3, .ref 7]) (M' := v_mk s) rfl ?_
        refine v_gf rfl (v_gi (rfl : v_kd 3 = 5) rfl ⟨rfl, rfl, by decide⟩) ?_
        obtain ⟨c4, h⟩ := v_ck h
        refine v_ia (i := (s.1 3 3)) rfl (v_ai (rfl : v_kd 7 = 13) rfl (by decide) v_all13 (v_cn (rfl : v_ln 7 = 60) c4)) ?_
        refine s_ek_bk 1 (P := 43) (ls' := [(0, .ref 3)]) (st' := [.int (s.1 7 (Int32.toNatClampNeg (s.1 3 3)))]) (M' := v_mk s) rfl ?_
        obtain ⟨rfl, rfl⟩ := v_so h
        exact v_ret (fun _ => rfl)
noncomputable def f_Rd_comes (b : Int32) (s : vS) : Option (Int32 × vS) := (v_bi (f_Rd_letterHere s) (fun r1 s1 => (if r1.toInt = b.toInt then (v_let (v_w1 s1 3 3 ((s1.1 3 3) + (1 : Int32))) (fun s3 => (some (1, s3)))) else (some (0, s1)))))
set_option maxRecDepth 20000 in
set_option maxHeartbeats 4000000 in
theorem t_Rd_comes {L : Nat} {xs : Nat → Int32} {b : Int32} {D : Nat} {r : Int32} {s s' : vS} (h : f_Rd_comes b s = some (r, s')) (hD : 1 ≤ D) : s_Ek (s_rows 3 L xs) D s_e69.1 0 (lv_args 0 [.ref 3, .int b]) [] (v_mk s) (v_Q (some (.int r)) s') := by
  unfold f_Rd_comes at h
  show s_Ek (s_rows 3 L xs) D s_e69.1 0 [(0, .ref 3), (1, .int b)] [] (v_mk s) _
  refine s_ek_bk 1 (P := 1) (ls' := [(0, .ref 3), (1, .int b)]) (st' := [.ref 3]) (M' := v_mk s) rfl ?_
  obtain ⟨r1, s1, e1, h⟩ := v_bd h
  refine v_cV (ν := s_e70.1) (w := 560) (a := 3) (as' := []) (r := []) (o := some (.int r1)) (by omega) rfl rfl rfl (v_mk_kd (k := 5) (rfl : v_kd 3 = 5) (by decide)) rfl (t_Rd_letterHere e1 (by omega)) ?_
  show s_Ek (s_rows 3 L xs) D s_e69.1 4 [(0, .ref 3), (1, .int b)] [.int r1] (v_mk s1) _
  refine s_ek_bk 1 (P := 5) (ls' := [(0, .ref 3), (1, .int b)]) (st' := [.int b, .int r1]) (M' := v_mk s1) rfl ?_
  rcases v_if h with ⟨c2, h⟩ | ⟨c2, h⟩
  · refine v_i2t (T := 10) rfl rfl c2 ?_
    refine s_ek_bk 2 (P := 12) (ls' := [(0, .ref 3), (1, .int b)]) (st' := [.ref 3, .ref 3]) (M' := v_mk s1) rfl ?_
    refine v_gf rfl (v_gi (rfl : v_kd 3 = 5) rfl ⟨rfl, rfl, by decide⟩) ?_
    refine s_ek_bk 2 (P := 17) (ls' := [(0, .ref 3), (1, .int b)]) (st' := [.int ((s1.1 3 3) + (1 : Int32)), .ref 3]) (M' := v_mk s1) rfl ?_
    obtain ⟨s3, es3, h⟩ := v_ld h
    refine v_pf (M' := v_mk s3) rfl (by rw [es3]; exact v_pi (rfl : v_kd 3 = 5) rfl ⟨rfl, rfl, by decide⟩ rfl) ?_
    refine s_ek_bk 1 (P := 21) (ls' := [(0, .ref 3), (1, .int b)]) (st' := [.int 1]) (M' := v_mk s3) rfl ?_
    obtain ⟨rfl, rfl⟩ := v_so h
    exact v_ret (fun _ => rfl)
  · refine v_i2f (T := 10) rfl rfl c2 ?_
    refine s_ek_bk 1 (P := 9) (ls' := [(0, .ref 3), (1, .int b)]) (st' := [.int 0]) (M' := v_mk s1) rfl ?_
    obtain ⟨rfl, rfl⟩ := v_so h
    exact v_ret (fun _ => rfl)
noncomputable def f_Tx_add (a : Nat) (b : Int32) (s : vS) : Option (Unit × vS) := (if (s.1 a 2).toInt < 0 then (some ((), s)) else (if 61 ≤ (s.1 a 2).toInt then (some ((), s)) else (if v_in (s.1 a 2) 61 then (v_let (v_w1 s (a + 1) (Int32.toNatClampNeg (s.1 a 2)) b) (fun s4 => (v_let (v_w1 s4 a 2 ((s4.1 a 2) + (1 : Int32))) (fun s5 => (some ((), s5)))))) else none)))
set_option maxRecDepth 20000 in
set_option maxHeartbeats 4000000 in
theorem t_Tx_add {L : Nat} {xs : Nat → Int32} {a : Nat} {b : Int32} (ha : v_kd a = 7) {D : Nat} {r : Unit} {s s' : vS} (h : f_Tx_add a b s = some (r, s')) (hD : 0 ≤ D) : s_Ek (s_rows 3 L xs) D s_e102.1 0 (lv_args 0 [.ref a, .int b]) [] (v_mk s) (v_Q none s') := by
  unfold f_Tx_add at h
  show s_Ek (s_rows 3 L xs) D s_e102.1 0 [(0, .ref a), (1, .int b)] [] (v_mk s) _
  refine s_ek_bk 1 (P := 1) (ls' := [(0, .ref a), (1, .int b)]) (st' := [.ref a]) (M' := v_mk s) rfl ?_
  refine v_gf rfl (v_gi ha (v_tK (j := 2) v_is7 (by decide) ha) ⟨rfl, rfl, by decide⟩) ?_
  rcases v_if h with ⟨c1, h⟩ | ⟨c1, h⟩
  · refine v_i1t (T := 39) rfl rfl c1 ?_
    obtain ⟨rfl, rfl⟩ := v_so h
    exact v_ret (fun _ => rfl)
  · refine v_i1f (T := 39) rfl rfl c1 ?_
    refine s_ek_bk 1 (P := 8) (ls' := [(0, .ref a), (1, .int b)]) (st' := [.ref a]) (M' := v_mk s) rfl ?_
    refine v_gf rfl (v_gi ha (v_tK (j := 2) v_is7 (by decide) ha) ⟨rfl, rfl, by decide⟩) ?_
    refine s_ek_bk 1 (P := 12) (ls' := [(0, .ref a), (1, .int b)]) (st' := [.ref a, .int (s.1 a 2)]) (M' := v_mk s) rfl ?_
    refine v_gf rfl (v_gr ha (v_rK v_r7_0 (by decide) ha).1 ⟨rfl, rfl, by decide⟩) ?_
    refine v_alen (x := 61) rfl (by rw [v_len (v_rK v_r7_0 (by decide) ha).2.1 (by decide), (v_rK v_r7_0 (by decide) ha).2.2]; rfl) ?_
    rcases v_if h with ⟨c2, h⟩ | ⟨c2, h⟩
    · refine v_i2t (T := 39) rfl rfl c2 ?_
      obtain ⟨rfl, rfl⟩ := v_so h
      exact v_ret (fun _ => rfl)
    · refine v_i2f (T := 39) rfl rfl c2 ?_
      refine s_ek_bk 1 (P := 20) (ls' := [(0, .ref a), (1, .int b)]) (st' := [.ref a]) (M' := v_mk s) rfl ?_
      refine v_gf rfl (v_gr ha (v_rK v_r7_0 (by decide) ha).1 ⟨rfl, rfl, by decide⟩) ?_
      refine s_ek_bk 1 (P := 24) (ls' := [(0, .ref a), (1, .int b)]) (st' := [.ref a, .ref (a + 1)]) (M' := v_mk s) rfl ?_
      refine v_gf rfl (v_gi ha (v_tK (j := 2) v_is7 (by decide) ha) ⟨rfl, rfl, by decide⟩) ?_
      refine s_ek_bk 1 (P := 28) (ls' := [(0, .ref a), (1, .int b)]) (st' := [.int b, .int (s.1 a 2), .ref (a + 1)]) (M' := v_mk s) rfl ?_
      obtain ⟨c3, h⟩ := v_ck h
      obtain ⟨s4, es4, h⟩ := v_ld h
      refine v_ist (M' := v_mk s4) (i := (s.1 a 2)) rfl (by rw [es4]; exact v_pai (v_rK v_r7_0 (by decide) ha).2.1 rfl (by decide) v_all13 (v_cn (v_rK v_r7_0 (by decide) ha).2.2 c3)) ?_
      refine s_ek_bk 2 (P := 31) (ls' := [(0, .ref a), (1, .int b)]) (st' := [.ref a, .ref a]) (M' := v_mk s4) rfl ?_
      refine v_gf rfl (v_gi ha (v_tK (j := 2) v_is7 (by decide) ha) ⟨rfl, rfl, by decide⟩) ?_
      refine s_ek_bk 2 (P := 36) (ls' := [(0, .ref a), (1, .int b)]) (st' := [.int ((s4.1 a 2) + (1 : Int32)), .ref a]) (M' := v_mk s4) rfl ?_
      obtain ⟨s5, es5, h⟩ := v_ld h
      refine v_pf (M' := v_mk s5) rfl (by rw [es5]; exact v_pi ha (v_tK (j := 2) v_is7 (by decide) ha) ⟨rfl, rfl, by decide⟩ rfl) ?_
      obtain ⟨rfl, rfl⟩ := v_so h
      exact v_ret (fun _ => rfl)
noncomputable def f_Rd_product_L8b (rec : Int32 → vS → Option (Int32 × vS)) (p1 : Int32) (k82 : Int32 → vS → Option (Int32 × vS)) (again : Int32 → Int32 → vS → Option (Int32 × vS)) (v2 : Int32) (v3 : Int32) (s : vS) : Option (Int32 × vS) := (if 60 ≤ v3.toInt then (k82 v2 s) else (if v2.toInt = 0 then (k82 v2 s) else (v_bi (f_Rd_letterHere s) (fun r104 s104 => (if r104.toInt = 42 then (v_let (v_w1 s104 3 3 ((s104.1 3 3) + (1 : Int32))) (fun s106 => (v_bi (rec p1 s106) (fun r107 s107 => (v_bi (f_Tx_add 4 ((20000 : Int32) + r104) s107) (fun _ s108 => (again r107 (v3 + 1) s108))))))) else (if r104.toInt = 47 then (v_let (v_w1 s104 3 3 ((s104.1 3 3) + (1 : Int32))) (fun s110 => (v_bi (rec p1 s110) (fun r111 s111 => (v_bi (f_Tx_add 4 ((20000 : Int32) + r104) s111) (fun _ s112 => (again r111 (v3 + 1) s112))))))) else (if r104.toInt = 37 then (v_let (v_w1 s104 3 3 ((s104.1 3 3) + (1 : Int32))) (fun s114 => (v_bi (rec p1 s114) (fun r115 s115 => (v_bi (f_Tx_add 4 ((20000 : Int32) + r104) s115) (fun _ s116 => (again r115 (v3 + 1) s116))))))) else (some (1, s104)))))))))
noncomputable def f_Rd_product_L8 (rec : Int32 → vS → Option (Int32 × vS)) (p1 : Int32) (k82 : Int32 → vS → Option (Int32 × vS)) (n : Nat) : Int32 → Int32 → vS → Option (Int32 × vS) := Nat.rec (motive := fun _ => Int32 → Int32 → vS → Option (Int32 × vS)) (fun _ _ _ => none) (fun _ again => f_Rd_product_L8b rec p1 k82 again) n
noncomputable def f_Rd_product (rec : Int32 → vS → Option (Int32 × vS)) (b : Int32) (s : vS) : Option (Int32 × vS) := (v_bi (rec b s) (fun r1 s1 => (f_Rd_product_L8 rec b (fun w2 s3 => (if w2 = 0 ∨ w2 = 1 then some (w2, s3) else none)) 4096 r1 0 s1)))
set_option maxRecDepth 20000 in
set_option maxHeartbeats 4000000 in
theorem t_Rd_product_L8 {L : Nat} {xs : Nat → Int32} {H : Nat} {rec : Int32 → vS → Option (Int32 × vS)} (hrec : ∀ {D : Nat} {b : Int32} {r : Int32} {s s' : vS}, H ≤ D → rec b s = some (r, s') → s_Ek (s_rows 3 L xs) D s_e78.1 0 (lv_args 0 [.ref 3, .int b]) [] (v_mk s) (v_Q (some (.int r)) s')) {p1 : Int32} {k82 : Int32 → vS → Option (Int32 × vS)} {D : Nat} (hD : H + 1 ≤ D) {r : Int32} {s' : vS} (hk82 : ∀ (v2 : Int32) (s : vS), k82 v2 s = some (r, s') → s_Ek (s_rows 3 L xs) D s_e77.1 82 [(2, .int v2)] [] (v_mk s) (v_Q (some (.int r)) s')) : ∀ (n : Nat) (v2 : Int32) (v3 : Int32) (s : vS), f_Rd_product_L8 rec p1 k82 n v2 v3 s = some (r, s') → s_Ek (s_rows 3 L xs) D s_e77.1 8 [(0, .ref 3), (1, .int p1), (2, .int v2), (3, .int v3)] [] (v_mk s) (v_Q (some (.int r)) s') := by
  intro n
  induction n with
  | zero => intro v2 v3 s h; exact nomatch (show (none : Option (Int32 × vS)) = some (r, s') from h)
  | succ n ih =>
    intro v2 v3 s h
    replace h : f_Rd_product_L8b rec p1 k82 (f_Rd_product_L8 rec p1 k82 n) v2 v3 s = some (r, s') := h
    unfold f_Rd_product_L8b at h
    refine s_ek_bk 2 (P := 11) (ls' := [(0, .ref 3), (1, .int p1), (2, .int v2), (3, .int v3)]) (st' := [.int 60, .int v3]) (M' := v_mk s) rfl ?_
    rcases v_if h with ⟨c102, h⟩ | ⟨c102, h⟩
    · refine v_i2t (T := 82) rfl rfl c102 ?_
      refine v_ls (ls' := [(2, .int v2)]) ⟨rfl, trivial⟩ (show ([2] : List Nat).Nodup from by decide) ?_
      exact hk82 _ _ h
    · refine v_i2f (T := 82) rfl rfl c102 ?_
      refine s_ek_bk 1 (P := 15) (ls' := [(0, .ref 3), (1, .int p1), (2, .int v2), (3, .int v3)]) (st' := [.int v2]) (M' := v_mk s) rfl ?_
      rcases v_if h with ⟨c103, h⟩ | ⟨c103, h⟩
      · refine v_i1t (T := 82) rfl rfl c103 ?_
        refine v_ls (ls' := [(2, .int v2)]) ⟨rfl, trivial⟩ (show ([2] : List Nat).Nodup from by decide) ?_
        exact hk82 _ _ h
      · refine v_i1f (T := 82) rfl rfl c103 ?_
        refine s_ek_bk 1 (P := 19) (ls' := [(0, .ref 3), (1, .int p1), (2, .int v2), (3, .int v3)]) (st' := [.ref 3]) (M' := v_mk s) rfl ?_
        obtain ⟨r104, s104, e104, h⟩ := v_bd h
        refine v_cV (ν := s_e70.1) (w := 560) (a := 3) (as' := []) (r := []) (o := some (.int r104)) (by omega) rfl rfl rfl (v_mk_kd (k := 5) (rfl : v_kd 3 = 5) (by decide)) rfl (t_Rd_letterHere e104 (by omega)) ?_
        show s_Ek (s_rows 3 L xs) D s_e77.1 22 [(0, .ref 3), (1, .int p1), (2, .int v2), (3, .int v3)] [.int r104] (v_mk s104) _
        refine s_ek_bk 3 (P := 28) (ls' := [(4, .int r104), (0, .ref 3), (1, .int p1), (2, .int v2), (3, .int v3)]) (st' := [.int 42, .int r104]) (M' := v_mk s104) rfl ?_
        rcases v_if h with ⟨c105, h⟩ | ⟨c105, h⟩
        · refine v_i2t (T := 47) rfl rfl c105 ?_
          refine s_ek_bk 2 (P := 49) (ls' := [(4, .int r104), (0, .ref 3), (1, .int p1), (2, .int v2), (3, .int v3)]) (st' := [.ref 3, .ref 3]) (M' := v_mk s104) rfl ?_
          refine v_gf rfl (v_gi (rfl : v_kd 3 = 5) rfl ⟨rfl, rfl, by decide⟩) ?_
          refine s_ek_bk 2 (P := 54) (ls' := [(4, .int r104), (0, .ref 3), (1, .int p1), (2, .int v2), (3, .int v3)]) (st' := [.int ((s104.1 3 3) + (1 : Int32)), .ref 3]) (M' := v_mk s104) rfl ?_
          obtain ⟨s106, es106, h⟩ := v_ld h
          refine v_pf (M' := v_mk s106) rfl (by rw [es106]; exact v_pi (rfl : v_kd 3 = 5) rfl ⟨rfl, rfl, by decide⟩ rfl) ?_
          refine s_ek_bk 2 (P := 59) (ls' := [(4, .int r104), (0, .ref 3), (1, .int p1), (2, .int v2), (3, .int v3)]) (st' := [.int p1, .ref 3]) (M' := v_mk s106) rfl ?_
          obtain ⟨r107, s107, e107, h⟩ := v_bd h
          refine v_cV (ν := s_e78.1) (w := 625) (a := 3) (as' := [.int p1]) (r := []) (o := some (.int r107)) (by omega) rfl rfl rfl (v_mk_kd (k := 5) (rfl : v_kd 3 = 5) (by decide)) rfl (hrec (by omega) e107) ?_
          show s_Ek (s_rows 3 L xs) D s_e77.1 62 [(4, .int r104), (0, .ref 3), (1, .int p1), (2, .int v2), (3, .int v3)] [.int r107] (v_mk s107) _
          refine s_ek_bk 2 (P := 64) (ls' := [(2, .int r107), (4, .int r104), (0, .ref 3), (1, .int p1), (3, .int v3)]) (st' := [.ref 3]) (M' := v_mk s107) rfl ?_
          refine v_gf rfl (v_gr (rfl : v_kd 3 = 5) (rfl : v_sl 3 0 = .ref 4) ⟨rfl, rfl, by decide⟩) ?_
          refine s_ek_bk 3 (P := 73) (ls' := [(2, .int r107), (4, .int r104), (0, .ref 3), (1, .int p1), (3, .int v3)]) (st' := [.int ((20000 : Int32) + r104), .ref 4]) (M' := v_mk s107) rfl ?_
          obtain ⟨r108, s108, e108, h⟩ := v_bd h
          refine v_cV (ν := s_e102.1) (w := 817) (a := 4) (as' := [.int ((20000 : Int32) + r104)]) (r := []) (o := none) (by omega) rfl rfl rfl (v_mk_kd (k := 7) (rfl : v_kd 4 = 7) (by decide)) rfl (t_Tx_add (rfl : v_kd 4 = 7) e108 (by omega)) ?_
          show s_Ek (s_rows 3 L xs) D s_e77.1 76 [(2, .int r107), (4, .int r104), (0, .ref 3), (1, .int p1), (3, .int v3)] [] (v_mk s108) _
          refine s_ek_bk 2 (P := 8) (ls' := [(3, .int (v3 + 1)), (2, .int r107), (4, .int r104), (0, .ref 3), (1, .int p1)]) (st' := []) (M' := v_mk s108) rfl ?_
          refine v_ls (ls' := [(0, .ref 3), (1, .int p1), (2, .int r107), (3, .int (v3 + 1))]) ⟨rfl, rfl, rfl, rfl, trivial⟩ (show ([0, 1, 2, 3] : List Nat).Nodup from by decide) ?_
          exact ih _ _ _ h
        · refine v_i2f (T := 47) rfl rfl c105 ?_
          refine s_ek_bk 2 (P := 35) (ls' := [(4, .int r104), (0, .ref 3), (1, .int p1), (2, .int v2), (3, .int v3)]) (st' := [.int 47, .int r104]) (M' := v_mk s104) rfl ?_
          rcases v_if h with ⟨c109, h⟩ | ⟨c109, h⟩
          · refine v_i2t (T := 47) rfl rfl c109 ?_
            refine s_ek_bk 2 (P := 49) (ls' := [(4, .int r104), (0, .ref 3), (1, .int p1), (2, .int v2), (3, .int v3)]) (st' := [.ref 3, .ref 3]) (M' := v_mk s104) rfl ?_
            refine v_gf rfl (v_gi (rfl : v_kd 3 = 5) rfl ⟨rfl, rfl, by decide⟩) ?_
            refine s_ek_bk 2 (P := 54) (ls' := [(4, .int r104), (0, .ref 3), (1, .int p1), (2, .int v2), (3, .int v3)]) (st' := [.int ((s104.1 3 3) + (1 : Int32)), .ref 3]) (M' := v_mk s104) rfl ?_
            obtain ⟨s110, es110, h⟩ := v_ld h
            refine v_pf (M' := v_mk s110) rfl (by rw [es110]; exact v_pi (rfl : v_kd 3 = 5) rfl ⟨rfl, rfl, by decide⟩ rfl) ?_
            refine s_ek_bk 2 (P := 59) (ls' := [(4, .int r104), (0, .ref 3), (1, .int p1), (2, .int v2), (3, .int v3)]) (st' := [.int p1, .ref 3]) (M' := v_mk s110) rfl ?_
            obtain ⟨r111, s111, e111, h⟩ := v_bd h
            refine v_cV (ν := s_e78.1) (w := 625) (a := 3) (as' := [.int p1]) (r := []) (o := some (.int r111)) (by omega) rfl rfl rfl (v_mk_kd (k := 5) (rfl : v_kd 3 = 5) (by decide)) rfl (hrec (by omega) e111) ?_
            show s_Ek (s_rows 3 L xs) D s_e77.1 62 [(4, .int r104), (0, .ref 3), (1, .int p1), (2, .int v2), (3, .int v3)] [.int r111] (v_mk s111) _
            refine s_ek_bk 2 (P := 64) (ls' := [(2, .int r111), (4, .int r104), (0, .ref 3), (1, .int p1), (3, .int v3)]) (st' := [.ref 3]) (M' := v_mk s111) rfl ?_
            refine v_gf rfl (v_gr (rfl : v_kd 3 = 5) (rfl : v_sl 3 0 = .ref 4) ⟨rfl, rfl, by decide⟩) ?_
            refine s_ek_bk 3 (P := 73) (ls' := [(2, .int r111), (4, .int r104), (0, .ref 3), (1, .int p1), (3, .int v3)]) (st' := [.int ((20000 : Int32) + r104), .ref 4]) (M' := v_mk s111) rfl ?_
            obtain ⟨r112, s112, e112, h⟩ := v_bd h
            refine v_cV (ν := s_e102.1) (w := 817) (a := 4) (as' := [.int ((20000 : Int32) + r104)]) (r := []) (o := none) (by omega) rfl rfl rfl (v_mk_kd (k := 7) (rfl : v_kd 4 = 7) (by decide)) rfl (t_Tx_add (rfl : v_kd 4 = 7) e112 (by omega)) ?_
            show s_Ek (s_rows 3 L xs) D s_e77.1 76 [(2, .int r111), (4, .int r104), (0, .ref 3), (1, .int p1), (3, .int v3)] [] (v_mk s112) _
            refine s_ek_bk 2 (P := 8) (ls' := [(3, .int (v3 + 1)), (2, .int r111), (4, .int r104), (0, .ref 3), (1, .int p1)]) (st' := []) (M' := v_mk s112) rfl ?_
            refine v_ls (ls' := [(0, .ref 3), (1, .int p1), (2, .int r111), (3, .int (v3 + 1))]) ⟨rfl, rfl, rfl, rfl, trivial⟩ (show ([0, 1, 2, 3] : List Nat).Nodup from by decide) ?_
            exact ih _ _ _ h
          · refine v_i2f (T := 47) rfl rfl c109 ?_
            refine s_ek_bk 2 (P := 42) (ls' := [(4, .int r104), (0, .ref 3), (1, .int p1), (2, .int v2), (3, .int v3)]) (st' := [.int 37, .int r104]) (M' := v_mk s104) rfl ?_
            rcases v_if h with ⟨c113, h⟩ | ⟨c113, h⟩
            · refine v_i2t (T := 47) rfl rfl c113 ?_
              refine s_ek_bk 2 (P := 49) (ls' := [(4, .int r104), (0, .ref 3), (1, .int p1), (2, .int v2), (3, .int v3)]) (st' := [.ref 3, .ref 3]) (M' := v_mk s104) rfl ?_
              refine v_gf rfl (v_gi (rfl : v_kd 3 = 5) rfl ⟨rfl, rfl, by decide⟩) ?_
              refine s_ek_bk 2 (P := 54) (ls' := [(4, .int r104), (0, .ref 3), (1, .int p1), (2, .int v2), (3, .int v3)]) (st' := [.int ((s104.1 3 3) + (1 : Int32)), .ref 3]) (M' := v_mk s104) rfl ?_
              obtain ⟨s114, es114, h⟩ := v_ld h
              refine v_pf (M' := v_mk s114) rfl (by rw [es114]; exact v_pi (rfl : v_kd 3 = 5) rfl ⟨rfl, rfl, by decide⟩ rfl) ?_
              refine s_ek_bk 2 (P := 59) (ls' := [(4, .int r104), (0, .ref 3), (1, .int p1), (2, .int v2), (3, .int v3)]) (st' := [.int p1, .ref 3]) (M' := v_mk s114) rfl ?_
              obtain ⟨r115, s115, e115, h⟩ := v_bd h
              refine v_cV (ν := s_e78.1) (w := 625) (a := 3) (as' := [.int p1]) (r := []) (o := some (.int r115)) (by omega) rfl rfl rfl (v_mk_kd (k := 5) (rfl : v_kd 3 = 5) (by decide)) rfl (hrec (by omega) e115) ?_
              show s_Ek (s_rows 3 L xs) D s_e77.1 62 [(4, .int r104), (0, .ref 3), (1, .int p1), (2, .int v2), (3, .int v3)] [.int r115] (v_mk s115) _
              refine s_ek_bk 2 (P := 64) (ls' := [(2, .int r115), (4, .int r104), (0, .ref 3), (1, .int p1), (3, .int v3)]) (st' := [.ref 3]) (M' := v_mk s115) rfl ?_
              refine v_gf rfl (v_gr (rfl : v_kd 3 = 5) (rfl : v_sl 3 0 = .ref 4) ⟨rfl, rfl, by decide⟩) ?_
              refine s_ek_bk 3 (P := 73) (ls' := [(2, .int r115), (4, .int r104), (0, .ref 3), (1, .int p1), (3, .int v3)]) (st' := [.int ((20000 : Int32) + r104), .ref 4]) (M' := v_mk s115) rfl ?_
              obtain ⟨r116, s116, e116, h⟩ := v_bd h
              refine v_cV (ν := s_e102.1) (w := 817) (a := 4) (as' := [.int ((20000 : Int32) + r104)]) (r := []) (o := none) (by omega) rfl rfl rfl (v_mk_kd (k := 7) (rfl : v_kd 4 = 7) (by decide)) rfl (t_Tx_add (rfl : v_kd 4 = 7) e116 (by omega)) ?_
              show s_Ek (s_rows 3 L xs) D s_e77.1 76 [(2, .int r115), (4, .int r104), (0, .ref 3), (1, .int p1), (3, .int v3)] [] (v_mk s116) _
              refine s_ek_bk 2 (P := 8) (ls' := [(3, .int (v3 + 1)), (2, .int r115), (4, .int r104), (0, .ref 3), (1, .int p1)]) (st' := []) (M' := v_mk s116) rfl ?_
              refine v_ls (ls' := [(0, .ref 3), (1, .int p1), (2, .int r115), (3, .int (v3 + 1))]) ⟨rfl, rfl, rfl, rfl, trivial⟩ (show ([0, 1, 2, 3] : List Nat).Nodup from by decide) ?_
              exact ih _ _ _ h
            · refine v_i2f (T := 47) rfl rfl c113 ?_
              refine s_ek_bk 1 (P := 46) (ls' := [(4, .int r104), (0, .ref 3), (1, .int p1), (2, .int v2), (3, .int v3)]) (st' := [.int 1]) (M' := v_mk s104) rfl ?_
              obtain ⟨rfl, rfl⟩ := v_so h
              exact v_ret (fun _ => rfl)
set_option maxRecDepth 20000 in
set_option maxHeartbeats 4000000 in
theorem t_Rd_product {L : Nat} {xs : Nat → Int32} {H : Nat} {rec : Int32 → vS → Option (Int32 × vS)} (hrec : ∀ {D : Nat} {b : Int32} {r : Int32} {s s' : vS}, H ≤ D → rec b s = some (r, s') → s_Ek (s_rows 3 L xs) D s_e78.1 0 (lv_args 0 [.ref 3, .int b]) [] (v_mk s) (v_Q (some (.int r)) s')) {b : Int32} {D : Nat} {r : Int32} {s s' : vS} (h : f_Rd_product rec b s = some (r, s')) (hD : H + 1 ≤ D) : s_Ek (s_rows 3 L xs) D s_e77.1 0 (lv_args 0 [.ref 3, .int b]) [] (v_mk s) (v_Q (some (.int r)) s') := by
  unfold f_Rd_product at h
  show s_Ek (s_rows 3 L xs) D s_e77.1 0 [(0, .ref 3), (1, .int b)] [] (v_mk s) _
  refine s_ek_bk 2 (P := 2) (ls' := [(0, .ref 3), (1, .int b)]) (st' := [.int b, .ref 3]) (M' := v_mk s) rfl ?_
  obtain ⟨r1, s1, e1, h⟩ := v_bd h
  refine v_cV (ν := s_e78.1) (w := 625) (a := 3) (as' := [.int b]) (r := []) (o := some (.int r1)) (by omega) rfl rfl rfl (v_mk_kd (k := 5) (rfl : v_kd 3 = 5) (by decide)) rfl (hrec (by omega) e1) ?_
  show s_Ek (s_rows 3 L xs) D s_e77.1 5 [(0, .ref 3), (1, .int b)] [.int r1] (v_mk s1) _
  refine s_ek_bk 3 (P := 8) (ls' := [(3, .int 0), (2, .int r1), (0, .ref 3), (1, .int b)]) (st' := []) (M' := v_mk s1) rfl ?_
  refine v_ls (ls' := [(0, .ref 3), (1, .int b), (2, .int r1), (3, .int 0)]) ⟨rfl, rfl, rfl, rfl, trivial⟩ (show ([0, 1, 2, 3] : List Nat).Nodup from by decide) ?_
  refine t_Rd_product_L8 hrec (by omega) (fun w2 s3 h => ?_) 4096 _ _ _ h
  show s_Ek (s_rows 3 L xs) D s_e77.1 82 [(2, .int w2)] [] (v_mk s3) _
  refine s_ek_bk 1 (P := 83) (ls' := [(2, .int w2)]) (st' := [.int w2]) (M' := v_mk s3) rfl ?_
  obtain ⟨c4, h⟩ := v_ck h
  obtain ⟨rfl, rfl⟩ := v_so h
  exact v_zret rfl rfl c4
noncomputable def f_Rd_sum_L8b (rec : Int32 → vS → Option (Int32 × vS)) (p1 : Int32) (k75 : Int32 → vS → Option (Int32 × vS)) (again : Int32 → Int32 → vS → Option (Int32 × vS)) (v2 : Int32) (v3 : Int32) (s : vS) : Option (Int32 × vS) := (if 60 ≤ v3.toInt then (k75 v2 s) else (if v2.toInt = 0 then (k75 v2 s) else (v_bi (f_Rd_letterHere s) (fun r104 s104 => (if r104.toInt = 43 then (v_let (v_w1 s104 3 3 ((s104.1 3 3) + (1 : Int32))) (fun s106 => (v_bi (f_Rd_product rec p1 s106) (fun r107 s107 => (v_bi (f_Tx_add 4 ((20000 : Int32) + r104) s107) (fun _ s108 => (again r107 (v3 + 1) s108))))))) else (if r104.toInt = 45 then (v_let (v_w1 s104 3 3 ((s104.1 3 3) + (1 : Int32))) (fun s110 => (v_bi (f_Rd_product rec p1 s110) (fun r111 s111 => (v_bi (f_Tx_add 4 ((20000 : Int32) + r104) s111) (fun _ s112 => (again r111 (v3 + 1) s112))))))) else (some (1, s104))))))))
noncomputable def f_Rd_sum_L8 (rec : Int32 → vS → Option (Int32 × vS)) (p1 : Int32) (k75 : Int32 → vS → Option (Int32 × vS)) (n : Nat) : Int32 → Int32 → vS → Option (Int32 × vS) := Nat.rec (motive := fun _ => Int32 → Int32 → vS → Option (Int32 × vS)) (fun _ _ _ => none) (fun _ again => f_Rd_sum_L8b rec p1 k75 again) n
noncomputable def f_Rd_sum (rec : Int32 → vS → Option (Int32 × vS)) (b : Int32) (s : vS) : Option (Int32 × vS) := (v_bi (f_Rd_product rec b s) (fun r1 s1 => (f_Rd_sum_L8 rec b (fun w2 s3 => (if w2 = 0 ∨ w2 = 1 then some (w2, s3) else none)) 4096 r1 0 s1)))
set_option maxRecDepth 20000 in
set_option maxHeartbeats 4000000 in
theorem t_Rd_sum_L8 {L : Nat} {xs : Nat → Int32} {H : Nat} {rec : Int32 → vS → Option (Int32 × vS)} (hrec : ∀ {D : Nat} {b : Int32} {r : Int32} {s s' : vS}, H ≤ D → rec b s = some (r, s') → s_Ek (s_rows 3 L xs) D s_e78.1 0 (lv_args 0 [.ref 3, .int b]) [] (v_mk s) (v_Q (some (.int r)) s')) {p1 : Int32} {k75 : Int32 → vS → Option (Int32 × vS)} {D : Nat} (hD : H + 2 ≤ D) {r : Int32} {s' : vS} (hk75 : ∀ (v2 : Int32) (s : vS), k75 v2 s = some (r, s') → s_Ek (s_rows 3 L xs) D s_e76.1 75 [(2, .int v2)] [] (v_mk s) (v_Q (some (.int r)) s')) : ∀ (n : Nat) (v2 : Int32) (v3 : Int32) (s : vS), f_Rd_sum_L8 rec p1 k75 n v2 v3 s = some (r, s') → s_Ek (s_rows 3 L xs) D s_e76.1 8 [(0, .ref 3), (1, .int p1), (2, .int v2), (3, .int v3)] [] (v_mk s) (v_Q (some (.int r)) s') := by
  intro n
  induction n with
  | zero => intro v2 v3 s h; exact nomatch (show (none : Option (Int32 × vS)) = some (r, s') from h)
  | succ n ih =>
    intro v2 v3 s h
    replace h : f_Rd_sum_L8b rec p1 k75 (f_Rd_sum_L8 rec p1 k75 n) v2 v3 s = some (r, s') := h
    unfold f_Rd_sum_L8b at h
    refine s_ek_bk 2 (P := 11) (ls' := [(0, .ref 3), (1, .int p1), (2, .int v2), (3, .int v3)]) (st' := [.int 60, .int v3]) (M' := v_mk s) rfl ?_
    rcases v_if h with ⟨c102, h⟩ | ⟨c102, h⟩
    · refine v_i2t (T := 75) rfl rfl c102 ?_
      refine v_ls (ls' := [(2, .int v2)]) ⟨rfl, trivial⟩ (show ([2] : List Nat).Nodup from by decide) ?_
      exact hk75 _ _ h
    · refine v_i2f (T := 75) rfl rfl c102 ?_
      refine s_ek_bk 1 (P := 15) (ls' := [(0, .ref 3), (1, .int p1), (2, .int v2), (3, .int v3)]) (st' := [.int v2]) (M' := v_mk s) rfl ?_
      rcases v_if h with ⟨c103, h⟩ | ⟨c103, h⟩
      · refine v_i1t (T := 75) rfl rfl c103 ?_
        refine v_ls (ls' := [(2, .int v2)]) ⟨rfl, trivial⟩ (show ([2] : List Nat).Nodup from by decide) ?_
        exact hk75 _ _ h
      · refine v_i1f (T := 75) rfl rfl c103 ?_
        refine s_ek_bk 1 (P := 19) (ls' := [(0, .ref 3), (1, .int p1), (2, .int v2), (3, .int v3)]) (st' := [.ref 3]) (M' := v_mk s) rfl ?_
        obtain ⟨r104, s104, e104, h⟩ := v_bd h
        refine v_cV (ν := s_e70.1) (w := 560) (a := 3) (as' := []) (r := []) (o := some (.int r104)) (by omega) rfl rfl rfl (v_mk_kd (k := 5) (rfl : v_kd 3 = 5) (by decide)) rfl (t_Rd_letterHere e104 (by omega)) ?_
        show s_Ek (s_rows 3 L xs) D s_e76.1 22 [(0, .ref 3), (1, .int p1), (2, .int v2), (3, .int v3)] [.int r104] (v_mk s104) _
        refine s_ek_bk 3 (P := 28) (ls' := [(4, .int r104), (0, .ref 3), (1, .int p1), (2, .int v2), (3, .int v3)]) (st' := [.int 43, .int r104]) (M' := v_mk s104) rfl ?_
        rcases v_if h with ⟨c105, h⟩ | ⟨c105, h⟩
        · refine v_i2t (T := 40) rfl rfl c105 ?_
          refine s_ek_bk 2 (P := 42) (ls' := [(4, .int r104), (0, .ref 3), (1, .int p1), (2, .int v2), (3, .int v3)]) (st' := [.ref 3, .ref 3]) (M' := v_mk s104) rfl ?_
          refine v_gf rfl (v_gi (rfl : v_kd 3 = 5) rfl ⟨rfl, rfl, by decide⟩) ?_
          refine s_ek_bk 2 (P := 47) (ls' := [(4, .int r104), (0, .ref 3), (1, .int p1), (2, .int v2), (3, .int v3)]) (st' := [.int ((s104.1 3 3) + (1 : Int32)), .ref 3]) (M' := v_mk s104) rfl ?_
          obtain ⟨s106, es106, h⟩ := v_ld h
          refine v_pf (M' := v_mk s106) rfl (by rw [es106]; exact v_pi (rfl : v_kd 3 = 5) rfl ⟨rfl, rfl, by decide⟩ rfl) ?_
          refine s_ek_bk 2 (P := 52) (ls' := [(4, .int r104), (0, .ref 3), (1, .int p1), (2, .int v2), (3, .int v3)]) (st' := [.int p1, .ref 3]) (M' := v_mk s106) rfl ?_
          obtain ⟨r107, s107, e107, h⟩ := v_bd h
          refine v_cV (ν := s_e77.1) (w := 617) (a := 3) (as' := [.int p1]) (r := []) (o := some (.int r107)) (by omega) rfl rfl rfl (v_mk_kd (k := 5) (rfl : v_kd 3 = 5) (by decide)) rfl (t_Rd_product hrec e107 (by omega)) ?_
          show s_Ek (s_rows 3 L xs) D s_e76.1 55 [(4, .int r104), (0, .ref 3), (1, .int p1), (2, .int v2), (3, .int v3)] [.int r107] (v_mk s107) _
          refine s_ek_bk 2 (P := 57) (ls' := [(2, .int r107), (4, .int r104), (0, .ref 3), (1, .int p1), (3, .int v3)]) (st' := [.ref 3]) (M' := v_mk s107) rfl ?_
          refine v_gf rfl (v_gr (rfl : v_kd 3 = 5) (rfl : v_sl 3 0 = .ref 4) ⟨rfl, rfl, by decide⟩) ?_
          refine s_ek_bk 3 (P := 66) (ls' := [(2, .int r107), (4, .int r104), (0, .ref 3), (1, .int p1), (3, .int v3)]) (st' := [.int ((20000 : Int32) + r104), .ref 4]) (M' := v_mk s107) rfl ?_
          obtain ⟨r108, s108, e108, h⟩ := v_bd h
          refine v_cV (ν := s_e102.1) (w := 817) (a := 4) (as' := [.int ((20000 : Int32) + r104)]) (r := []) (o := none) (by omega) rfl rfl rfl (v_mk_kd (k := 7) (rfl : v_kd 4 = 7) (by decide)) rfl (t_Tx_add (rfl : v_kd 4 = 7) e108 (by omega)) ?_
          show s_Ek (s_rows 3 L xs) D s_e76.1 69 [(2, .int r107), (4, .int r104), (0, .ref 3), (1, .int p1), (3, .int v3)] [] (v_mk s108) _
          refine s_ek_bk 2 (P := 8) (ls' := [(3, .int (v3 + 1)), (2, .int r107), (4, .int r104), (0, .ref 3), (1, .int p1)]) (st' := []) (M' := v_mk s108) rfl ?_
          refine v_ls (ls' := [(0, .ref 3), (1, .int p1), (2, .int r107), (3, .int (v3 + 1))]) ⟨rfl, rfl, rfl, rfl, trivial⟩ (show ([0, 1, 2, 3] : List Nat).Nodup from by decide) ?_
          exact ih _ _ _ h
        · refine v_i2f (T := 40) rfl rfl c105 ?_
          refine s_ek_bk 2 (P := 35) (ls' := [(4, .int r104), (0, .ref 3), (1, .int p1), (2, .int v2), (3, .int v3)]) (st' := [.int 45, .int r104]) (M' := v_mk s104) rfl ?_
          rcases v_if h with ⟨c109, h⟩ | ⟨c109, h⟩
          · refine v_i2t (T := 40) rfl rfl c109 ?_
            refine s_ek_bk 2 (P := 42) (ls' := [(4, .int r104), (0, .ref 3), (1, .int p1), (2, .int v2), (3, .int v3)]) (st' := [.ref 3, .ref 3]) (M' := v_mk s104) rfl ?_
            refine v_gf rfl (v_gi (rfl : v_kd 3 = 5) rfl ⟨rfl, rfl, by decide⟩) ?_
            refine s_ek_bk 2 (P := 47) (ls' := [(4, .int r104), (0, .ref 3), (1, .int p1), (2, .int v2), (3, .int v3)]) (st' := [.int ((s104.1 3 3) + (1 : Int32)), .ref 3]) (M' := v_mk s104) rfl ?_
            obtain ⟨s110, es110, h⟩ := v_ld h
            refine v_pf (M' := v_mk s110) rfl (by rw [es110]; exact v_pi (rfl : v_kd 3 = 5) rfl ⟨rfl, rfl, by decide⟩ rfl) ?_
            refine s_ek_bk 2 (P := 52) (ls' := [(4, .int r104), (0, .ref 3), (1, .int p1), (2, .int v2), (3, .int v3)]) (st' := [.int p1, .ref 3]) (M' := v_mk s110) rfl ?_
            obtain ⟨r111, s111, e111, h⟩ := v_bd h
            refine v_cV (ν := s_e77.1) (w := 617) (a := 3) (as' := [.int p1]) (r := []) (o := some (.int r111)) (by omega) rfl rfl rfl (v_mk_kd (k := 5) (rfl : v_kd 3 = 5) (by decide)) rfl (t_Rd_product hrec e111 (by omega)) ?_
            show s_Ek (s_rows 3 L xs) D s_e76.1 55 [(4, .int r104), (0, .ref 3), (1, .int p1), (2, .int v2), (3, .int v3)] [.int r111] (v_mk s111) _
            refine s_ek_bk 2 (P := 57) (ls' := [(2, .int r111), (4, .int r104), (0, .ref 3), (1, .int p1), (3, .int v3)]) (st' := [.ref 3]) (M' := v_mk s111) rfl ?_
            refine v_gf rfl (v_gr (rfl : v_kd 3 = 5) (rfl : v_sl 3 0 = .ref 4) ⟨rfl, rfl, by decide⟩) ?_
            refine s_ek_bk 3 (P := 66) (ls' := [(2, .int r111), (4, .int r104), (0, .ref 3), (1, .int p1), (3, .int v3)]) (st' := [.int ((20000 : Int32) + r104), .ref 4]) (M' := v_mk s111) rfl ?_
            obtain ⟨r112, s112, e112, h⟩ := v_bd h
            refine v_cV (ν := s_e102.1) (w := 817) (a := 4) (as' := [.int ((20000 : Int32) + r104)]) (r := []) (o := none) (by omega) rfl rfl rfl (v_mk_kd (k := 7) (rfl : v_kd 4 = 7) (by decide)) rfl (t_Tx_add (rfl : v_kd 4 = 7) e112 (by omega)) ?_
            show s_Ek (s_rows 3 L xs) D s_e76.1 69 [(2, .int r111), (4, .int r104), (0, .ref 3), (1, .int p1), (3, .int v3)] [] (v_mk s112) _
            refine s_ek_bk 2 (P := 8) (ls' := [(3, .int (v3 + 1)), (2, .int r111), (4, .int r104), (0, .ref 3), (1, .int p1)]) (st' := []) (M' := v_mk s112) rfl ?_
            refine v_ls (ls' := [(0, .ref 3), (1, .int p1), (2, .int r111), (3, .int (v3 + 1))]) ⟨rfl, rfl, rfl, rfl, trivial⟩ (show ([0, 1, 2, 3] : List Nat).Nodup from by decide) ?_
            exact ih _ _ _ h
          · refine v_i2f (T := 40) rfl rfl c109 ?_
            refine s_ek_bk 1 (P := 39) (ls' := [(4, .int r104), (0, .ref 3), (1, .int p1), (2, .int v2), (3, .int v3)]) (st' := [.int 1]) (M' := v_mk s104) rfl ?_
            obtain ⟨rfl, rfl⟩ := v_so h
            exact v_ret (fun _ => rfl)
set_option maxRecDepth 20000 in
set_option maxHeartbeats 4000000 in
theorem t_Rd_sum {L : Nat} {xs : Nat → Int32} {H : Nat} {rec : Int32 → vS → Option (Int32 × vS)} (hrec : ∀ {D : Nat} {b : Int32} {r : Int32} {s s' : vS}, H ≤ D → rec b s = some (r, s') → s_Ek (s_rows 3 L xs) D s_e78.1 0 (lv_args 0 [.ref 3, .int b]) [] (v_mk s) (v_Q (some (.int r)) s')) {b : Int32} {D : Nat} {r : Int32} {s s' : vS} (h : f_Rd_sum rec b s = some (r, s')) (hD : H + 2 ≤ D) : s_Ek (s_rows 3 L xs) D s_e76.1 0 (lv_args 0 [.ref 3, .int b]) [] (v_mk s) (v_Q (some (.int r)) s') := by
  unfold f_Rd_sum at h
  show s_Ek (s_rows 3 L xs) D s_e76.1 0 [(0, .ref 3), (1, .int b)] [] (v_mk s) _
  refine s_ek_bk 2 (P := 2) (ls' := [(0, .ref 3), (1, .int b)]) (st' := [.int b, .ref 3]) (M' := v_mk s) rfl ?_
  obtain ⟨r1, s1, e1, h⟩ := v_bd h
  refine v_cV (ν := s_e77.1) (w := 617) (a := 3) (as' := [.int b]) (r := []) (o := some (.int r1)) (by omega) rfl rfl rfl (v_mk_kd (k := 5) (rfl : v_kd 3 = 5) (by decide)) rfl (t_Rd_product hrec e1 (by omega)) ?_
  show s_Ek (s_rows 3 L xs) D s_e76.1 5 [(0, .ref 3), (1, .int b)] [.int r1] (v_mk s1) _
  refine s_ek_bk 3 (P := 8) (ls' := [(3, .int 0), (2, .int r1), (0, .ref 3), (1, .int b)]) (st' := []) (M' := v_mk s1) rfl ?_
  refine v_ls (ls' := [(0, .ref 3), (1, .int b), (2, .int r1), (3, .int 0)]) ⟨rfl, rfl, rfl, rfl, trivial⟩ (show ([0, 1, 2, 3] : List Nat).Nodup from by decide) ?_
  refine t_Rd_sum_L8 hrec (by omega) (fun w2 s3 h => ?_) 4096 _ _ _ h
  show s_Ek (s_rows 3 L xs) D s_e76.1 75 [(2, .int w2)] [] (v_mk s3) _
  refine s_ek_bk 1 (P := 76) (ls' := [(2, .int w2)]) (st' := [.int w2]) (M' := v_mk s3) rfl ?_
  obtain ⟨c4, h⟩ := v_ck h
  obtain ⟨rfl, rfl⟩ := v_so h
  exact v_zret rfl rfl c4
noncomputable def f_Rd_compared (rec : Int32 → vS → Option (Int32 × vS)) (b : Int32) (s : vS) : Option (Int32 × vS) := (v_bi (f_Rd_sum rec b s) (fun r1 s1 => (if r1.toInt = 0 then (some (0, s1)) else (v_bi (f_Rd_letterHere s1) (fun r3 s3 => (if r3.toInt = 60 then (v_let (v_w1 s3 3 3 ((s3.1 3 3) + (1 : Int32))) (fun s5 => (v_bi (f_Rd_sum rec b s5) (fun r6 s6 => (v_bi (f_Tx_add 4 ((20000 : Int32) + r3) s6) (fun _ s7 => (if r6 = 0 ∨ r6 = 1 then some (r6, s7) else none))))))) else (if r3.toInt = 61 then (v_let (v_w1 s3 3 3 ((s3.1 3 3) + (1 : Int32))) (fun s10 => (v_bi (f_Rd_sum rec b s10) (fun r11 s11 => (v_bi (f_Tx_add 4 ((20000 : Int32) + r3) s11) (fun _ s12 => (if r11 = 0 ∨ r11 = 1 then some (r11, s12) else none))))))) else (if r3.toInt = 62 then (v_let (v_w1 s3 3 3 ((s3.1 3 3) + (1 : Int32))) (fun s15 => (v_bi (f_Rd_sum rec b s15) (fun r16 s16 => (v_bi (f_Tx_add 4 ((20000 : Int32) + r3) s16) (fun _ s17 => (if r16 = 0 ∨ r16 = 1 then some (r16, s17) else none))))))) else (some (1, s3))))))))))
set_option maxRecDepth 20000 in
set_option maxHeartbeats 4000000 in
theorem t_Rd_compared {L : Nat} {xs : Nat → Int32} {H : Nat} {rec : Int32 → vS → Option (Int32 × vS)} (hrec : ∀ {D : Nat} {b : Int32} {r : Int32} {s s' : vS}, H ≤ D → rec b s = some (r, s') → s_Ek (s_rows 3 L xs) D s_e78.1 0 (lv_args 0 [.ref 3, .int b]) [] (v_mk s) (v_Q (some (.int r)) s')) {b : Int32} {D : Nat} {r : Int32} {s s' : vS} (h : f_Rd_compared rec b s = some (r, s')) (hD : H + 3 ≤ D) : s_Ek (s_rows 3 L xs) D s_e75.1 0 (lv_args 0 [.ref 3, .int b]) [] (v_mk s) (v_Q (some (.int r)) s') := by
  unfold f_Rd_compared at h
  show s_Ek (s_rows 3 L xs) D s_e75.1 0 [(0, .ref 3), (1, .int b)] [] (v_mk s) _
  refine s_ek_bk 2 (P := 2) (ls' := [(0, .ref 3), (1, .int b)]) (st' := [.int b, .ref 3]) (M' := v_mk s) rfl ?_
  obtain ⟨r1, s1, e1, h⟩ := v_bd h
  refine v_cV (ν := s_e76.1) (w := 609) (a := 3) (as' := [.int b]) (r := []) (o := some (.int r1)) (by omega) rfl rfl rfl (v_mk_kd (k := 5) (rfl : v_kd 3 = 5) (by decide)) rfl (t_Rd_sum hrec e1 (by omega)) ?_
  show s_Ek (s_rows 3 L xs) D s_e75.1 5 [(0, .ref 3), (1, .int b)] [.int r1] (v_mk s1) _
  rcases v_if h with ⟨c2, h⟩ | ⟨c2, h⟩
  · refine v_i1f (T := 10) rfl rfl (fun q => q c2) ?_
    refine s_ek_bk 1 (P := 9) (ls' := [(0, .ref 3), (1, .int b)]) (st' := [.int 0]) (M' := v_mk s1) rfl ?_
    obtain ⟨rfl, rfl⟩ := v_so h
    exact v_ret (fun _ => rfl)
  · refine v_i1t (T := 10) rfl rfl c2 ?_
    refine s_ek_bk 1 (P := 11) (ls' := [(0, .ref 3), (1, .int b)]) (st' := [.ref 3]) (M' := v_mk s1) rfl ?_
    obtain ⟨r3, s3, e3, h⟩ := v_bd h
    refine v_cV (ν := s_e70.1) (w := 560) (a := 3) (as' := []) (r := []) (o := some (.int r3)) (by omega) rfl rfl rfl (v_mk_kd (k := 5) (rfl : v_kd 3 = 5) (by decide)) rfl (t_Rd_letterHere e3 (by omega)) ?_
    show s_Ek (s_rows 3 L xs) D s_e75.1 14 [(0, .ref 3), (1, .int b)] [.int r3] (v_mk s3) _
    refine s_ek_bk 3 (P := 18) (ls' := [(2, .int r3), (0, .ref 3), (1, .int b)]) (st' := [.int 60, .int r3]) (M' := v_mk s3) rfl ?_
    rcases v_if h with ⟨c4, h⟩ | ⟨c4, h⟩
    · refine v_i2t (T := 35) rfl rfl c4 ?_
      refine s_ek_bk 2 (P := 37) (ls' := [(2, .int r3), (0, .ref 3), (1, .int b)]) (st' := [.ref 3, .ref 3]) (M' := v_mk s3) rfl ?_
      refine v_gf rfl (v_gi (rfl : v_kd 3 = 5) rfl ⟨rfl, rfl, by decide⟩) ?_
      refine s_ek_bk 2 (P := 42) (ls' := [(2, .int r3), (0, .ref 3), (1, .int b)]) (st' := [.int ((s3.1 3 3) + (1 : Int32)), .ref 3]) (M' := v_mk s3) rfl ?_
      obtain ⟨s5, es5, h⟩ := v_ld h
      refine v_pf (M' := v_mk s5) rfl (by rw [es5]; exact v_pi (rfl : v_kd 3 = 5) rfl ⟨rfl, rfl, by decide⟩ rfl) ?_
      refine s_ek_bk 2 (P := 47) (ls' := [(2, .int r3), (0, .ref 3), (1, .int b)]) (st' := [.int b, .ref 3]) (M' := v_mk s5) rfl ?_
      obtain ⟨r6, s6, e6, h⟩ := v_bd h
      refine v_cV (ν := s_e76.1) (w := 609) (a := 3) (as' := [.int b]) (r := []) (o := some (.int r6)) (by omega) rfl rfl rfl (v_mk_kd (k := 5) (rfl : v_kd 3 = 5) (by decide)) rfl (t_Rd_sum hrec e6 (by omega)) ?_
      show s_Ek (s_rows 3 L xs) D s_e75.1 50 [(2, .int r3), (0, .ref 3), (1, .int b)] [.int r6] (v_mk s6) _
      refine s_ek_bk 2 (P := 52) (ls' := [(3, .int r6), (2, .int r3), (0, .ref 3), (1, .int b)]) (st' := [.ref 3]) (M' := v_mk s6) rfl ?_
      refine v_gf rfl (v_gr (rfl : v_kd 3 = 5) (rfl : v_sl 3 0 = .ref 4) ⟨rfl, rfl, by decide⟩) ?_
      refine s_ek_bk 3 (P := 60) (ls' := [(3, .int r6), (2, .int r3), (0, .ref 3), (1, .int b)]) (st' := [.int ((20000 : Int32) + r3), .ref 4]) (M' := v_mk s6) rfl ?_
      obtain ⟨r7, s7, e7, h⟩ := v_bd h
      refine v_cV (ν := s_e102.1) (w := 817) (a := 4) (as' := [.int ((20000 : Int32) + r3)]) (r := []) (o := none) (by omega) rfl rfl rfl (v_mk_kd (k := 7) (rfl : v_kd 4 = 7) (by decide)) rfl (t_Tx_add (rfl : v_kd 4 = 7) e7 (by omega)) ?_
      show s_Ek (s_rows 3 L xs) D s_e75.1 63 [(3, .int r6), (2, .int r3), (0, .ref 3), (1, .int b)] [] (v_mk s7) _
      refine s_ek_bk 1 (P := 64) (ls' := [(3, .int r6), (2, .int r3), (0, .ref 3), (1, .int b)]) (st' := [.int r6]) (M' := v_mk s7) rfl ?_
      obtain ⟨c8, h⟩ := v_ck h
      obtain ⟨rfl, rfl⟩ := v_so h
      exact v_zret rfl rfl c8
    · refine v_i2f (T := 35) rfl rfl c4 ?_
      refine s_ek_bk 2 (P := 24) (ls' := [(2, .int r3), (0, .ref 3), (1, .int b)]) (st' := [.int 61, .int r3]) (M' := v_mk s3) rfl ?_
      rcases v_if h with ⟨c9, h⟩ | ⟨c9, h⟩
      · refine v_i2t (T := 35) rfl rfl c9 ?_
        refine s_ek_bk 2 (P := 37) (ls' := [(2, .int r3), (0, .ref 3), (1, .int b)]) (st' := [.ref 3, .ref 3]) (M' := v_mk s3) rfl ?_
        refine v_gf rfl (v_gi (rfl : v_kd 3 = 5) rfl ⟨rfl, rfl, by decide⟩) ?_
        refine s_ek_bk 2 (P := 42) (ls' := [(2, .int r3), (0, .ref 3), (1, .int b)]) (st' := [.int ((s3.1 3 3) + (1 : Int32)), .ref 3]) (M' := v_mk s3) rfl ?_
        obtain ⟨s10, es10, h⟩ := v_ld h
        refine v_pf (M' := v_mk s10) rfl (by rw [es10]; exact v_pi (rfl : v_kd 3 = 5) rfl ⟨rfl, rfl, by decide⟩ rfl) ?_
        refine s_ek_bk 2 (P := 47) (ls' := [(2, .int r3), (0, .ref 3), (1, .int b)]) (st' := [.int b, .ref 3]) (M' := v_mk s10) rfl ?_
        obtain ⟨r11, s11, e11, h⟩ := v_bd h
        refine v_cV (ν := s_e76.1) (w := 609) (a := 3) (as' := [.int b]) (r := []) (o := some (.int r11)) (by omega) rfl rfl rfl (v_mk_kd (k := 5) (rfl : v_kd 3 = 5) (by decide)) rfl (t_Rd_sum hrec e11 (by omega)) ?_
        show s_Ek (s_rows 3 L xs) D s_e75.1 50 [(2, .int r3), (0, .ref 3), (1, .int b)] [.int r11] (v_mk s11) _
        refine s_ek_bk 2 (P := 52) (ls' := [(3, .int r11), (2, .int r3), (0, .ref 3), (1, .int b)]) (st' := [.ref 3]) (M' := v_mk s11) rfl ?_
        refine v_gf rfl (v_gr (rfl : v_kd 3 = 5) (rfl : v_sl 3 0 = .ref 4) ⟨rfl, rfl, by decide⟩) ?_
        refine s_ek_bk 3 (P := 60) (ls' := [(3, .int r11), (2, .int r3), (0, .ref 3), (1, .int b)]) (st' := [.int ((20000 : Int32) + r3), .ref 4]) (M' := v_mk s11) rfl ?_
        obtain ⟨r12, s12, e12, h⟩ := v_bd h
        refine v_cV (ν := s_e102.1) (w := 817) (a := 4) (as' := [.int ((20000 : Int32) + r3)]) (r := []) (o := none) (by omega) rfl rfl rfl (v_mk_kd (k := 7) (rfl : v_kd 4 = 7) (by decide)) rfl (t_Tx_add (rfl : v_kd 4 = 7) e12 (by omega)) ?_
        show s_Ek (s_rows 3 L xs) D s_e75.1 63 [(3, .int r11), (2, .int r3), (0, .ref 3), (1, .int b)] [] (v_mk s12) _
        refine s_ek_bk 1 (P := 64) (ls' := [(3, .int r11), (2, .int r3), (0, .ref 3), (1, .int b)]) (st' := [.int r11]) (M' := v_mk s12) rfl ?_
        obtain ⟨c13, h⟩ := v_ck h
        obtain ⟨rfl, rfl⟩ := v_so h
        exact v_zret rfl rfl c13
      · refine v_i2f (T := 35) rfl rfl c9 ?_
        refine s_ek_bk 2 (P := 30) (ls' := [(2, .int r3), (0, .ref 3), (1, .int b)]) (st' := [.int 62, .int r3]) (M' := v_mk s3) rfl ?_
        rcases v_if h with ⟨c14, h⟩ | ⟨c14, h⟩
        · refine v_i2t (T := 35) rfl rfl c14 ?_
          refine s_ek_bk 2 (P := 37) (ls' := [(2, .int r3), (0, .ref 3), (1, .int b)]) (st' := [.ref 3, .ref 3]) (M' := v_mk s3) rfl ?_
          refine v_gf rfl (v_gi (rfl : v_kd 3 = 5) rfl ⟨rfl, rfl, by decide⟩) ?_
          refine s_ek_bk 2 (P := 42) (ls' := [(2, .int r3), (0, .ref 3), (1, .int b)]) (st' := [.int ((s3.1 3 3) + (1 : Int32)), .ref 3]) (M' := v_mk s3) rfl ?_
          obtain ⟨s15, es15, h⟩ := v_ld h
          refine v_pf (M' := v_mk s15) rfl (by rw [es15]; exact v_pi (rfl : v_kd 3 = 5) rfl ⟨rfl, rfl, by decide⟩ rfl) ?_
          refine s_ek_bk 2 (P := 47) (ls' := [(2, .int r3), (0, .ref 3), (1, .int b)]) (st' := [.int b, .ref 3]) (M' := v_mk s15) rfl ?_
          obtain ⟨r16, s16, e16, h⟩ := v_bd h
          refine v_cV (ν := s_e76.1) (w := 609) (a := 3) (as' := [.int b]) (r := []) (o := some (.int r16)) (by omega) rfl rfl rfl (v_mk_kd (k := 5) (rfl : v_kd 3 = 5) (by decide)) rfl (t_Rd_sum hrec e16 (by omega)) ?_
          show s_Ek (s_rows 3 L xs) D s_e75.1 50 [(2, .int r3), (0, .ref 3), (1, .int b)] [.int r16] (v_mk s16) _
          refine s_ek_bk 2 (P := 52) (ls' := [(3, .int r16), (2, .int r3), (0, .ref 3), (1, .int b)]) (st' := [.ref 3]) (M' := v_mk s16) rfl ?_
          refine v_gf rfl (v_gr (rfl : v_kd 3 = 5) (rfl : v_sl 3 0 = .ref 4) ⟨rfl, rfl, by decide⟩) ?_
          refine s_ek_bk 3 (P := 60) (ls' := [(3, .int r16), (2, .int r3), (0, .ref 3), (1, .int b)]) (st' := [.int ((20000 : Int32) + r3), .ref 4]) (M' := v_mk s16) rfl ?_
          obtain ⟨r17, s17, e17, h⟩ := v_bd h
          refine v_cV (ν := s_e102.1) (w := 817) (a := 4) (as' := [.int ((20000 : Int32) + r3)]) (r := []) (o := none) (by omega) rfl rfl rfl (v_mk_kd (k := 7) (rfl : v_kd 4 = 7) (by decide)) rfl (t_Tx_add (rfl : v_kd 4 = 7) e17 (by omega)) ?_
          show s_Ek (s_rows 3 L xs) D s_e75.1 63 [(3, .int r16), (2, .int r3), (0, .ref 3), (1, .int b)] [] (v_mk s17) _
          refine s_ek_bk 1 (P := 64) (ls' := [(3, .int r16), (2, .int r3), (0, .ref 3), (1, .int b)]) (st' := [.int r16]) (M' := v_mk s17) rfl ?_
          obtain ⟨c18, h⟩ := v_ck h
          obtain ⟨rfl, rfl⟩ := v_so h
          exact v_zret rfl rfl c18
        · refine v_i2f (T := 35) rfl rfl c14 ?_
          refine s_ek_bk 1 (P := 34) (ls' := [(2, .int r3), (0, .ref 3), (1, .int b)]) (st' := [.int 1]) (M' := v_mk s3) rfl ?_
          obtain ⟨rfl, rfl⟩ := v_so h
          exact v_ret (fun _ => rfl)
