/-! functions over the store, and the runs that they stand for: Rd_both Rd_either Rd_isDigit Rd_number Rd_nameOf Rd_operand Tx_length Tx_aim Rd_line Rd_lines Tx_clear Rd_read Sh_isSort Sh_isBare Sh_isRow Sh_bare Sh_takeBody Sh_takeRow Sh_hasPlaces Sh_cut Sh_set Sh_copyFrom Sh_isAllTwos Wd_compares Wd_metBy -/
noncomputable def f_Rd_both_L8b (rec : Int32 → vS → Option (Int32 × vS)) (p1 : Int32) (k49 : Int32 → vS → Option (Int32 × vS)) (again : Int32 → Int32 → vS → Option (Int32 × vS)) (v2 : Int32) (v3 : Int32) (s : vS) : Option (Int32 × vS) := (if 60 ≤ v3.toInt then (k49 v2 s) else (if v2.toInt = 0 then (k49 v2 s) else (v_bi (f_Rd_comes 38 s) (fun r104 s104 => (if r104.toInt = 0 then (k49 v2 s104) else (v_bi (f_Rd_compared rec p1 s104) (fun r106 s106 => (v_bi (f_Tx_add 4 20038 s106) (fun _ s107 => (again r106 (v3 + 1) s107))))))))))
noncomputable def f_Rd_both_L8 (rec : Int32 → vS → Option (Int32 × vS)) (p1 : Int32) (k49 : Int32 → vS → Option (Int32 × vS)) (n : Nat) : Int32 → Int32 → vS → Option (Int32 × vS) := Nat.rec (motive := fun _ => Int32 → Int32 → vS → Option (Int32 × vS)) (fun _ _ _ => none) (fun _ again => f_Rd_both_L8b rec p1 k49 again) n
noncomputable def f_Rd_both (rec : Int32 → vS → Option (Int32 × vS)) (b : Int32) (s : vS) : Option (Int32 × vS) := (v_bi (f_Rd_compared rec b s) (fun r1 s1 => (f_Rd_both_L8 rec b (fun w2 s3 => (if w2 = 0 ∨ w2 = 1 then some (w2, s3) else none)) 4096 r1 0 s1)))
set_option maxRecDepth 20000 in
set_option maxHeartbeats 4000000 in
theorem t_Rd_both_L8 {L : Nat} {xs : Nat → Int32} {H : Nat} {rec : Int32 → vS → Option (Int32 × vS)} (hrec : ∀ {D : Nat} {b : Int32} {r : Int32} {s s' : vS}, H ≤ D → rec b s = some (r, s') → s_Ek (s_rows 3 L xs) D s_e78.1 0 (lv_args 0 [.ref 3, .int b]) [] (v_mk s) (v_Q (some (.int r)) s')) {p1 : Int32} {k49 : Int32 → vS → Option (Int32 × vS)} {D : Nat} (hD : H + 4 ≤ D) {r : Int32} {s' : vS} (hk49 : ∀ (v2 : Int32) (s : vS), k49 v2 s = some (r, s') → s_Ek (s_rows 3 L xs) D s_e74.1 49 [(2, .int v2)] [] (v_mk s) (v_Q (some (.int r)) s')) : ∀ (n : Nat) (v2 : Int32) (v3 : Int32) (s : vS), f_Rd_both_L8 rec p1 k49 n v2 v3 s = some (r, s') → s_Ek (s_rows 3 L xs) D s_e74.1 8 [(0, .ref 3), (1, .int p1), (2, .int v2), (3, .int v3)] [] (v_mk s) (v_Q (some (.int r)) s') := by
  intro n
  induction n with
  | zero => intro v2 v3 s h; exact nomatch (show (none : Option (Int32 × vS)) = some (r, s') from h)
  | succ n ih =>
    intro v2 v3 s h
    replace h : f_Rd_both_L8b rec p1 k49 (f_Rd_both_L8 rec p1 k49 n) v2 v3 s = some (r, s') := h
    unfold f_Rd_both_L8b at h
    refine s_ek_bk 2 (P := 11) (ls' := [(0, .ref 3), (1, .int p1), (2, .int v2), (3, .int v3)]) (st' := [.int 60, .int v3]) (M' := v_mk s) rfl ?_
    rcases v_if h with ⟨c102, h⟩ | ⟨c102, h⟩
    · refine v_i2t (T := 49) rfl rfl c102 ?_
      refine v_ls (ls' := [(2, .int v2)]) ⟨rfl, trivial⟩ (show ([2] : List Nat).Nodup from by decide) ?_
      exact hk49 _ _ h
    · refine v_i2f (T := 49) rfl rfl c102 ?_
      refine s_ek_bk 1 (P := 15) (ls' := [(0, .ref 3), (1, .int p1), (2, .int v2), (3, .int v3)]) (st' := [.int v2]) (M' := v_mk s) rfl ?_
      rcases v_if h with ⟨c103, h⟩ | ⟨c103, h⟩
      · refine v_i1t (T := 49) rfl rfl c103 ?_
        refine v_ls (ls' := [(2, .int v2)]) ⟨rfl, trivial⟩ (show ([2] : List Nat).Nodup from by decide) ?_
        exact hk49 _ _ h
      · refine v_i1f (T := 49) rfl rfl c103 ?_
        refine s_ek_bk 2 (P := 21) (ls' := [(0, .ref 3), (1, .int p1), (2, .int v2), (3, .int v3)]) (st' := [.int 38, .ref 3]) (M' := v_mk s) rfl ?_
        obtain ⟨r104, s104, e104, h⟩ := v_bd h
        refine v_cV (ν := s_e69.1) (w := 553) (a := 3) (as' := [.int 38]) (r := []) (o := some (.int r104)) (by omega) rfl rfl rfl (v_mk_kd (k := 5) (rfl : v_kd 3 = 5) (by decide)) rfl (t_Rd_comes e104 (by omega)) ?_
        show s_Ek (s_rows 3 L xs) D s_e74.1 24 [(0, .ref 3), (1, .int p1), (2, .int v2), (3, .int v3)] [.int r104] (v_mk s104) _
        rcases v_if h with ⟨c105, h⟩ | ⟨c105, h⟩
        · refine v_i1t (T := 49) rfl rfl c105 ?_
          refine v_ls (ls' := [(2, .int v2)]) ⟨rfl, trivial⟩ (show ([2] : List Nat).Nodup from by decide) ?_
          exact hk49 _ _ h
        · refine v_i1f (T := 49) rfl rfl c105 ?_
          refine s_ek_bk 2 (P := 29) (ls' := [(0, .ref 3), (1, .int p1), (2, .int v2), (3, .int v3)]) (st' := [.int p1, .ref 3]) (M' := v_mk s104) rfl ?_
          obtain ⟨r106, s106, e106, h⟩ := v_bd h
          refine v_cV (ν := s_e75.1) (w := 601) (a := 3) (as' := [.int p1]) (r := []) (o := some (.int r106)) (by omega) rfl rfl rfl (v_mk_kd (k := 5) (rfl : v_kd 3 = 5) (by decide)) rfl (t_Rd_compared hrec e106 (by omega)) ?_
          show s_Ek (s_rows 3 L xs) D s_e74.1 32 [(0, .ref 3), (1, .int p1), (2, .int v2), (3, .int v3)] [.int r106] (v_mk s106) _
          refine s_ek_bk 2 (P := 34) (ls' := [(2, .int r106), (0, .ref 3), (1, .int p1), (3, .int v3)]) (st' := [.ref 3]) (M' := v_mk s106) rfl ?_
          refine v_gf rfl (v_gr (rfl : v_kd 3 = 5) (rfl : v_sl 3 0 = .ref 4) ⟨rfl, rfl, by decide⟩) ?_
          refine s_ek_bk 1 (P := 40) (ls' := [(2, .int r106), (0, .ref 3), (1, .int p1), (3, .int v3)]) (st' := [.int 20038, .ref 4]) (M' := v_mk s106) rfl ?_
          obtain ⟨r107, s107, e107, h⟩ := v_bd h
          refine v_cV (ν := s_e102.1) (w := 817) (a := 4) (as' := [.int 20038]) (r := []) (o := none) (by omega) rfl rfl rfl (v_mk_kd (k := 7) (rfl : v_kd 4 = 7) (by decide)) rfl (t_Tx_add (rfl : v_kd 4 = 7) e107 (by omega)) ?_
          show s_Ek (s_rows 3 L xs) D s_e74.1 43 [(2, .int r106), (0, .ref 3), (1, .int p1), (3, .int v3)] [] (v_mk s107) _
          refine s_ek_bk 2 (P := 8) (ls' := [(3, .int (v3 + 1)), (2, .int r106), (0, .ref 3), (1, .int p1)]) (st' := []) (M' := v_mk s107) rfl ?_
          refine v_ls (ls' := [(0, .ref 3), (1, .int p1), (2, .int r106), (3, .int (v3 + 1))]) ⟨rfl, rfl, rfl, rfl, trivial⟩ (show ([0, 1, 2, 3] : List Nat).Nodup from by decide) ?_
          exact ih _ _ _ h
set_option maxRecDepth 20000 in
set_option maxHeartbeats 4000000 in
theorem t_Rd_both {L : Nat} {xs : Nat → Int32} {H : Nat} {rec : Int32 → vS → Option (Int32 × vS)} (hrec : ∀ {D : Nat} {b : Int32} {r : Int32} {s s' : vS}, H ≤ D → rec b s = some (r, s') → s_Ek (s_rows 3 L xs) D s_e78.1 0 (lv_args 0 [.ref 3, .int b]) [] (v_mk s) (v_Q (some (.int r)) s')) {b : Int32} {D : Nat} {r : Int32} {s s' : vS} (h : f_Rd_both rec b s = some (r, s')) (hD : H + 4 ≤ D) : s_Ek (s_rows 3 L xs) D s_e74.1 0 (lv_args 0 [.ref 3, .int b]) [] (v_mk s) (v_Q (some (.int r)) s') := by
  unfold f_Rd_both at h
  show s_Ek (s_rows 3 L xs) D s_e74.1 0 [(0, .ref 3), (1, .int b)] [] (v_mk s) _
  refine s_ek_bk 2 (P := 2) (ls' := [(0, .ref 3), (1, .int b)]) (st' := [.int b, .ref 3]) (M' := v_mk s) rfl ?_
  obtain ⟨r1, s1, e1, h⟩ := v_bd h
  refine v_cV (ν := s_e75.1) (w := 601) (a := 3) (as' := [.int b]) (r := []) (o := some (.int r1)) (by omega) rfl rfl rfl (v_mk_kd (k := 5) (rfl : v_kd 3 = 5) (by decide)) rfl (t_Rd_compared hrec e1 (by omega)) ?_
  show s_Ek (s_rows 3 L xs) D s_e74.1 5 [(0, .ref 3), (1, .int b)] [.int r1] (v_mk s1) _
  refine s_ek_bk 3 (P := 8) (ls' := [(3, .int 0), (2, .int r1), (0, .ref 3), (1, .int b)]) (st' := []) (M' := v_mk s1) rfl ?_
  refine v_ls (ls' := [(0, .ref 3), (1, .int b), (2, .int r1), (3, .int 0)]) ⟨rfl, rfl, rfl, rfl, trivial⟩ (show ([0, 1, 2, 3] : List Nat).Nodup from by decide) ?_
  refine t_Rd_both_L8 hrec (by omega) (fun w2 s3 h => ?_) 4096 _ _ _ h
  show s_Ek (s_rows 3 L xs) D s_e74.1 49 [(2, .int w2)] [] (v_mk s3) _
  refine s_ek_bk 1 (P := 50) (ls' := [(2, .int w2)]) (st' := [.int w2]) (M' := v_mk s3) rfl ?_
  obtain ⟨c4, h⟩ := v_ck h
  obtain ⟨rfl, rfl⟩ := v_so h
  exact v_zret rfl rfl c4
noncomputable def f_Rd_either_L8b (rec : Int32 → vS → Option (Int32 × vS)) (p1 : Int32) (k49 : Int32 → vS → Option (Int32 × vS)) (again : Int32 → Int32 → vS → Option (Int32 × vS)) (v2 : Int32) (v3 : Int32) (s : vS) : Option (Int32 × vS) := (if 60 ≤ v3.toInt then (k49 v2 s) else (if v2.toInt = 0 then (k49 v2 s) else (v_bi (f_Rd_comes 124 s) (fun r104 s104 => (if r104.toInt = 0 then (k49 v2 s104) else (v_bi (f_Rd_both rec p1 s104) (fun r106 s106 => (v_bi (f_Tx_add 4 20124 s106) (fun _ s107 => (again r106 (v3 + 1) s107))))))))))
noncomputable def f_Rd_either_L8 (rec : Int32 → vS → Option (Int32 × vS)) (p1 : Int32) (k49 : Int32 → vS → Option (Int32 × vS)) (n : Nat) : Int32 → Int32 → vS → Option (Int32 × vS) := Nat.rec (motive := fun _ => Int32 → Int32 → vS → Option (Int32 × vS)) (fun _ _ _ => none) (fun _ again => f_Rd_either_L8b rec p1 k49 again) n
noncomputable def f_Rd_either (rec : Int32 → vS → Option (Int32 × vS)) (b : Int32) (s : vS) : Option (Int32 × vS) := (v_bi (f_Rd_both rec b s) (fun r1 s1 => (f_Rd_either_L8 rec b (fun w2 s3 => (if w2 = 0 ∨ w2 = 1 then some (w2, s3) else none)) 4096 r1 0 s1)))
set_option maxRecDepth 20000 in
set_option maxHeartbeats 4000000 in
theorem t_Rd_either_L8 {L : Nat} {xs : Nat → Int32} {H : Nat} {rec : Int32 → vS → Option (Int32 × vS)} (hrec : ∀ {D : Nat} {b : Int32} {r : Int32} {s s' : vS}, H ≤ D → rec b s = some (r, s') → s_Ek (s_rows 3 L xs) D s_e78.1 0 (lv_args 0 [.ref 3, .int b]) [] (v_mk s) (v_Q (some (.int r)) s')) {p1 : Int32} {k49 : Int32 → vS → Option (Int32 × vS)} {D : Nat} (hD : H + 5 ≤ D) {r : Int32} {s' : vS} (hk49 : ∀ (v2 : Int32) (s : vS), k49 v2 s = some (r, s') → s_Ek (s_rows 3 L xs) D s_e73.1 49 [(2, .int v2)] [] (v_mk s) (v_Q (some (.int r)) s')) : ∀ (n : Nat) (v2 : Int32) (v3 : Int32) (s : vS), f_Rd_either_L8 rec p1 k49 n v2 v3 s = some (r, s') → s_Ek (s_rows 3 L xs) D s_e73.1 8 [(0, .ref 3), (1, .int p1), (2, .int v2), (3, .int v3)] [] (v_mk s) (v_Q (some (.int r)) s') := by
  intro n
  induction n with
  | zero => intro v2 v3 s h; exact nomatch (show (none : Option (Int32 × vS)) = some (r, s') from h)
  | succ n ih =>
    intro v2 v3 s h
    replace h : f_Rd_either_L8b rec p1 k49 (f_Rd_either_L8 rec p1 k49 n) v2 v3 s = some (r, s') := h
    unfold f_Rd_either_L8b at h
    refine s_ek_bk 2 (P := 11) (ls' := [(0, .ref 3), (1, .int p1), (2, .int v2), (3, .int v3)]) (st' := [.int 60, .int v3]) (M' := v_mk s) rfl ?_
    rcases v_if h with ⟨c102, h⟩ | ⟨c102, h⟩
    · refine v_i2t (T := 49) rfl rfl c102 ?_
      refine v_ls (ls' := [(2, .int v2)]) ⟨rfl, trivial⟩ (show ([2] : List Nat).Nodup from by decide) ?_
      exact hk49 _ _ h
    · refine v_i2f (T := 49) rfl rfl c102 ?_
      refine s_ek_bk 1 (P := 15) (ls' := [(0, .ref 3), (1, .int p1), (2, .int v2), (3, .int v3)]) (st' := [.int v2]) (M' := v_mk s) rfl ?_
      rcases v_if h with ⟨c103, h⟩ | ⟨c103, h⟩
      · refine v_i1t (T := 49) rfl rfl c103 ?_
        refine v_ls (ls' := [(2, .int v2)]) ⟨rfl, trivial⟩ (show ([2] : List Nat).Nodup from by decide) ?_
        exact hk49 _ _ h
      · refine v_i1f (T := 49) rfl rfl c103 ?_
        refine s_ek_bk 2 (P := 21) (ls' := [(0, .ref 3), (1, .int p1), (2, .int v2), (3, .int v3)]) (st' := [.int 124, .ref 3]) (M' := v_mk s) rfl ?_
        obtain ⟨r104, s104, e104, h⟩ := v_bd h
        refine v_cV (ν := s_e69.1) (w := 553) (a := 3) (as' := [.int 124]) (r := []) (o := some (.int r104)) (by omega) rfl rfl rfl (v_mk_kd (k := 5) (rfl : v_kd 3 = 5) (by decide)) rfl (t_Rd_comes e104 (by omega)) ?_
        show s_Ek (s_rows 3 L xs) D s_e73.1 24 [(0, .ref 3), (1, .int p1), (2, .int v2), (3, .int v3)] [.int r104] (v_mk s104) _
        rcases v_if h with ⟨c105, h⟩ | ⟨c105, h⟩
        · refine v_i1t (T := 49) rfl rfl c105 ?_
          refine v_ls (ls' := [(2, .int v2)]) ⟨rfl, trivial⟩ (show ([2] : List Nat).Nodup from by decide) ?_
          exact hk49 _ _ h
        · refine v_i1f (T := 49) rfl rfl c105 ?_
          refine s_ek_bk 2 (P := 29) (ls' := [(0, .ref 3), (1, .int p1), (2, .int v2), (3, .int v3)]) (st' := [.int p1, .ref 3]) (M' := v_mk s104) rfl ?_
          obtain ⟨r106, s106, e106, h⟩ := v_bd h
          refine v_cV (ν := s_e74.1) (w := 593) (a := 3) (as' := [.int p1]) (r := []) (o := some (.int r106)) (by omega) rfl rfl rfl (v_mk_kd (k := 5) (rfl : v_kd 3 = 5) (by decide)) rfl (t_Rd_both hrec e106 (by omega)) ?_
          show s_Ek (s_rows 3 L xs) D s_e73.1 32 [(0, .ref 3), (1, .int p1), (2, .int v2), (3, .int v3)] [.int r106] (v_mk s106) _
          refine s_ek_bk 2 (P := 34) (ls' := [(2, .int r106), (0, .ref 3), (1, .int p1), (3, .int v3)]) (st' := [.ref 3]) (M' := v_mk s106) rfl ?_
          refine v_gf rfl (v_gr (rfl : v_kd 3 = 5) (rfl : v_sl 3 0 = .ref 4) ⟨rfl, rfl, by decide⟩) ?_
          refine s_ek_bk 1 (P := 40) (ls' := [(2, .int r106), (0, .ref 3), (1, .int p1), (3, .int v3)]) (st' := [.int 20124, .ref 4]) (M' := v_mk s106) rfl ?_
          obtain ⟨r107, s107, e107, h⟩ := v_bd h
          refine v_cV (ν := s_e102.1) (w := 817) (a := 4) (as' := [.int 20124]) (r := []) (o := none) (by omega) rfl rfl rfl (v_mk_kd (k := 7) (rfl : v_kd 4 = 7) (by decide)) rfl (t_Tx_add (rfl : v_kd 4 = 7) e107 (by omega)) ?_
          show s_Ek (s_rows 3 L xs) D s_e73.1 43 [(2, .int r106), (0, .ref 3), (1, .int p1), (3, .int v3)] [] (v_mk s107) _
          refine s_ek_bk 2 (P := 8) (ls' := [(3, .int (v3 + 1)), (2, .int r106), (0, .ref 3), (1, .int p1)]) (st' := []) (M' := v_mk s107) rfl ?_
          refine v_ls (ls' := [(0, .ref 3), (1, .int p1), (2, .int r106), (3, .int (v3 + 1))]) ⟨rfl, rfl, rfl, rfl, trivial⟩ (show ([0, 1, 2, 3] : List Nat).Nodup from by decide) ?_
          exact ih _ _ _ h
set_option maxRecDepth 20000 in
set_option maxHeartbeats 4000000 in
theorem t_Rd_either {L : Nat} {xs : Nat → Int32} {H : Nat} {rec : Int32 → vS → Option (Int32 × vS)} (hrec : ∀ {D : Nat} {b : Int32} {r : Int32} {s s' : vS}, H ≤ D → rec b s = some (r, s') → s_Ek (s_rows 3 L xs) D s_e78.1 0 (lv_args 0 [.ref 3, .int b]) [] (v_mk s) (v_Q (some (.int r)) s')) {b : Int32} {D : Nat} {r : Int32} {s s' : vS} (h : f_Rd_either rec b s = some (r, s')) (hD : H + 5 ≤ D) : s_Ek (s_rows 3 L xs) D s_e73.1 0 (lv_args 0 [.ref 3, .int b]) [] (v_mk s) (v_Q (some (.int r)) s') := by
  unfold f_Rd_either at h
  show s_Ek (s_rows 3 L xs) D s_e73.1 0 [(0, .ref 3), (1, .int b)] [] (v_mk s) _
  refine s_ek_bk 2 (P := 2) (ls' := [(0, .ref 3), (1, .int b)]) (st' := [.int b, .ref 3]) (M' := v_mk s) rfl ?_
  obtain ⟨r1, s1, e1, h⟩ := v_bd h
  refine v_cV (ν := s_e74.1) (w := 593) (a := 3) (as' := [.int b]) (r := []) (o := some (.int r1)) (by omega) rfl rfl rfl (v_mk_kd (k := 5) (rfl : v_kd 3 = 5) (by decide)) rfl (t_Rd_both hrec e1 (by omega)) ?_
  show s_Ek (s_rows 3 L xs) D s_e73.1 5 [(0, .ref 3), (1, .int b)] [.int r1] (v_mk s1) _
  refine s_ek_bk 3 (P := 8) (ls' := [(3, .int 0), (2, .int r1), (0, .ref 3), (1, .int b)]) (st' := []) (M' := v_mk s1) rfl ?_
  refine v_ls (ls' := [(0, .ref 3), (1, .int b), (2, .int r1), (3, .int 0)]) ⟨rfl, rfl, rfl, rfl, trivial⟩ (show ([0, 1, 2, 3] : List Nat).Nodup from by decide) ?_
  refine t_Rd_either_L8 hrec (by omega) (fun w2 s3 h => ?_) 4096 _ _ _ h
  show s_Ek (s_rows 3 L xs) D s_e73.1 49 [(2, .int w2)] [] (v_mk s3) _
  refine s_ek_bk 1 (P := 50) (ls' := [(2, .int w2)]) (st' := [.int w2]) (M' := v_mk s3) rfl ?_
  obtain ⟨c4, h⟩ := v_ck h
  obtain ⟨rfl, rfl⟩ := v_so h
  exact v_zret rfl rfl c4
noncomputable def f_Rd_isDigit (b : Int32) (s : vS) : Option (Int32 × vS) := (if b.toInt < 48 then (some (0, s)) else (if 57 < b.toInt then (some (0, s)) else (some (1, s))))
set_option maxRecDepth 20000 in
set_option maxHeartbeats 4000000 in
theorem t_Rd_isDigit {L : Nat} {xs : Nat → Int32} {b : Int32} {D : Nat} {r : Int32} {s s' : vS} (h : f_Rd_isDigit b s = some (r, s')) (hD : 0 ≤ D) : s_Ek (s_rows 3 L xs) D s_e80.1 0 (lv_args 0 [.int b]) [] (v_mk s) (v_Q (some (.int r)) s') := by
  unfold f_Rd_isDigit at h
  show s_Ek (s_rows 3 L xs) D s_e80.1 0 [(0, .int b)] [] (v_mk s) _
  refine s_ek_bk 2 (P := 3) (ls' := [(0, .int b)]) (st' := [.int 48, .int b]) (M' := v_mk s) rfl ?_
  rcases v_if h with ⟨c1, h⟩ | ⟨c1, h⟩
  · refine v_i2t (T := 16) rfl rfl c1 ?_
    refine s_ek_bk 1 (P := 17) (ls' := [(0, .int b)]) (st' := [.int 0]) (M' := v_mk s) rfl ?_
    obtain ⟨rfl, rfl⟩ := v_so h
    exact v_ret (fun _ => rfl)
  · refine v_i2f (T := 16) rfl rfl c1 ?_
    refine s_ek_bk 2 (P := 9) (ls' := [(0, .int b)]) (st' := [.int 57, .int b]) (M' := v_mk s) rfl ?_
    rcases v_if h with ⟨c2, h⟩ | ⟨c2, h⟩
    · refine v_i2t (T := 16) rfl rfl c2 ?_
      refine s_ek_bk 1 (P := 17) (ls' := [(0, .int b)]) (st' := [.int 0]) (M' := v_mk s) rfl ?_
      obtain ⟨rfl, rfl⟩ := v_so h
      exact v_ret (fun _ => rfl)
    · refine v_i2f (T := 16) rfl rfl c2 ?_
      refine s_ek_bk 2 (P := 17) (ls' := [(0, .int b)]) (st' := [.int 1]) (M' := v_mk s) rfl ?_
      obtain ⟨rfl, rfl⟩ := v_so h
      exact v_ret (fun _ => rfl)
noncomputable def f_Rd_number_L4b (k48 : Int32 → vS → Option (Unit × vS)) (again : Int32 → Int32 → vS → Option (Unit × vS)) (v1 : Int32) (v2 : Int32) (s : vS) : Option (Unit × vS) := (if 4 ≤ v2.toInt then (k48 v1 s) else (v_bi (f_Rd_letterHere s) (fun r102 s102 => (v_bi (f_Rd_isDigit r102 s102) (fun r103 s103 => (if r103.toInt = 0 then (k48 v1 s103) else (v_bi (f_Rd_letterHere s103) (fun r105 s105 => (v_let (v_w1 s105 3 3 ((s105.1 3 3) + (1 : Int32))) (fun s106 => (again (((v1 * (10 : Int32)) + r105) - (48 : Int32)) (v2 + 1) s106)))))))))))
noncomputable def f_Rd_number_L4 (k48 : Int32 → vS → Option (Unit × vS)) (n : Nat) : Int32 → Int32 → vS → Option (Unit × vS) := Nat.rec (motive := fun _ => Int32 → Int32 → vS → Option (Unit × vS)) (fun _ _ _ => none) (fun _ again => f_Rd_number_L4b k48 again) n
noncomputable def f_Rd_number (s : vS) : Option (Unit × vS) := (f_Rd_number_L4 (fun w1 s2 => (v_bi (f_Tx_add 4 w1 s2) (fun _ s3 => (some ((), s3))))) 4096 0 0 s)
set_option maxRecDepth 20000 in
set_option maxHeartbeats 4000000 in
theorem t_Rd_number_L4 {L : Nat} {xs : Nat → Int32} {k48 : Int32 → vS → Option (Unit × vS)} {D : Nat} (hD : 1 ≤ D) {r : Unit} {s' : vS} (hk48 : ∀ (v1 : Int32) (s : vS), k48 v1 s = some (r, s') → s_Ek (s_rows 3 L xs) D s_e79.1 48 [(0, .ref 3), (1, .int v1)] [] (v_mk s) (v_Q none s')) : ∀ (n : Nat) (v1 : Int32) (v2 : Int32) (s : vS), f_Rd_number_L4 k48 n v1 v2 s = some (r, s') → s_Ek (s_rows 3 L xs) D s_e79.1 4 [(0, .ref 3), (1, .int v1), (2, .int v2)] [] (v_mk s) (v_Q none s') := by
  intro n
  induction n with
  | zero => intro v1 v2 s h; exact nomatch (show (none : Option (Unit × vS)) = some (r, s') from h)
  | succ n ih =>
    intro v1 v2 s h
    replace h : f_Rd_number_L4b k48 (f_Rd_number_L4 k48 n) v1 v2 s = some (r, s') := h
    unfold f_Rd_number_L4b at h
    refine s_ek_bk 2 (P := 6) (ls' := [(0, .ref 3), (1, .int v1), (2, .int v2)]) (st' := [.int 4, .int v2]) (M' := v_mk s) rfl ?_
    rcases v_if h with ⟨c101, h⟩ | ⟨c101, h⟩
    · refine v_i2t (T := 48) rfl rfl c101 ?_
      refine v_ls (ls' := [(0, .ref 3), (1, .int v1)]) ⟨rfl, rfl, trivial⟩ (show ([0, 1] : List Nat).Nodup from by decide) ?_
      exact hk48 _ _ h
    · refine v_i2f (T := 48) rfl rfl c101 ?_
      refine s_ek_bk 1 (P := 10) (ls' := [(0, .ref 3), (1, .int v1), (2, .int v2)]) (st' := [.ref 3]) (M' := v_mk s) rfl ?_
      obtain ⟨r102, s102, e102, h⟩ := v_bd h
      refine v_cV (ν := s_e70.1) (w := 560) (a := 3) (as' := []) (r := []) (o := some (.int r102)) (by omega) rfl rfl rfl (v_mk_kd (k := 5) (rfl : v_kd 3 = 5) (by decide)) rfl (t_Rd_letterHere e102 (by omega)) ?_
      show s_Ek (s_rows 3 L xs) D s_e79.1 13 [(0, .ref 3), (1, .int v1), (2, .int v2)] [.int r102] (v_mk s102) _
      obtain ⟨r103, s103, e103, h⟩ := v_bd h
      refine v_cS (ν := s_e80.1) (w := 641) (as := [.int r102]) (r := []) (o := some (.int r103)) (by omega) rfl rfl rfl rfl (t_Rd_isDigit e103 (by omega)) ?_
      show s_Ek (s_rows 3 L xs) D s_e79.1 16 [(0, .ref 3), (1, .int v1), (2, .int v2)] [.int r103] (v_mk s103) _
      rcases v_if h with ⟨c104, h⟩ | ⟨c104, h⟩
      · refine v_i1t (T := 48) rfl rfl c104 ?_
        refine v_ls (ls' := [(0, .ref 3), (1, .int v1)]) ⟨rfl, rfl, trivial⟩ (show ([0, 1] : List Nat).Nodup from by decide) ?_
        exact hk48 _ _ h
      · refine v_i1f (T := 48) rfl rfl c104 ?_
        refine s_ek_bk 4 (P := 24) (ls' := [(0, .ref 3), (1, .int v1), (2, .int v2)]) (st' := [.ref 3, .int (v1 * (10 : Int32))]) (M' := v_mk s103) rfl ?_
        obtain ⟨r105, s105, e105, h⟩ := v_bd h
        refine v_cV (ν := s_e70.1) (w := 560) (a := 3) (as' := []) (r := [.int (v1 * (10 : Int32))]) (o := some (.int r105)) (by omega) rfl rfl rfl (v_mk_kd (k := 5) (rfl : v_kd 3 = 5) (by decide)) rfl (t_Rd_letterHere e105 (by omega)) ?_
        show s_Ek (s_rows 3 L xs) D s_e79.1 27 [(0, .ref 3), (1, .int v1), (2, .int v2)] [.int r105, .int (v1 * (10 : Int32))] (v_mk s105) _
        refine s_ek_bk 6 (P := 34) (ls' := [(1, .int (((v1 * (10 : Int32)) + r105) - (48 : Int32))), (0, .ref 3), (2, .int v2)]) (st' := [.ref 3, .ref 3]) (M' := v_mk s105) rfl ?_
        refine v_gf rfl (v_gi (rfl : v_kd 3 = 5) rfl ⟨rfl, rfl, by decide⟩) ?_
        refine s_ek_bk 2 (P := 39) (ls' := [(1, .int (((v1 * (10 : Int32)) + r105) - (48 : Int32))), (0, .ref 3), (2, .int v2)]) (st' := [.int ((s105.1 3 3) + (1 : Int32)), .ref 3]) (M' := v_mk s105) rfl ?_
        obtain ⟨s106, es106, h⟩ := v_ld h
        refine v_pf (M' := v_mk s106) rfl (by rw [es106]; exact v_pi (rfl : v_kd 3 = 5) rfl ⟨rfl, rfl, by decide⟩ rfl) ?_
        refine s_ek_bk 2 (P := 4) (ls' := [(2, .int (v2 + 1)), (1, .int (((v1 * (10 : Int32)) + r105) - (48 : Int32))), (0, .ref 3)]) (st' := []) (M' := v_mk s106) rfl ?_
        refine v_ls (ls' := [(0, .ref 3), (1, .int (((v1 * (10 : Int32)) + r105) - (48 : Int32))), (2, .int (v2 + 1))]) ⟨rfl, rfl, rfl, trivial⟩ (show ([0, 1, 2] : List Nat).Nodup from by decide) ?_
        exact ih _ _ _ h
set_option maxRecDepth 20000 in
set_option maxHeartbeats 4000000 in
theorem t_Rd_number {L : Nat} {xs : Nat → Int32} {D : Nat} {r : Unit} {s s' : vS} (h : f_Rd_number s = some (r, s')) (hD : 1 ≤ D) : s_Ek (s_rows 3 L xs) D s_e79.1 0 (lv_args 0 [.ref 3]) [] (v_mk s) (v_Q none s') := by
  unfold f_Rd_number at h
  show s_Ek (s_rows 3 L xs) D s_e79.1 0 [(0, .ref 3)] [] (v_mk s) _
  refine s_ek_bk 4 (P := 4) (ls' := [(2, .int 0), (1, .int 0), (0, .ref 3)]) (st' := []) (M' := v_mk s) rfl ?_
  refine v_ls (ls' := [(0, .ref 3), (1, .int 0), (2, .int 0)]) ⟨rfl, rfl, rfl, trivial⟩ (show ([0, 1, 2] : List Nat).Nodup from by decide) ?_
  refine t_Rd_number_L4 (by omega) (fun w1 s2 h => ?_) 4096 _ _ _ h
  show s_Ek (s_rows 3 L xs) D s_e79.1 48 [(0, .ref 3), (1, .int w1)] [] (v_mk s2) _
  refine s_ek_bk 1 (P := 49) (ls' := [(0, .ref 3), (1, .int w1)]) (st' := [.ref 3]) (M' := v_mk s2) rfl ?_
  refine v_gf rfl (v_gr (rfl : v_kd 3 = 5) (rfl : v_sl 3 0 = .ref 4) ⟨rfl, rfl, by decide⟩) ?_
  refine s_ek_bk 1 (P := 53) (ls' := [(0, .ref 3), (1, .int w1)]) (st' := [.int w1, .ref 4]) (M' := v_mk s2) rfl ?_
  obtain ⟨r3, s3, e3, h⟩ := v_bd h
  refine v_cV (ν := s_e102.1) (w := 817) (a := 4) (as' := [.int w1]) (r := []) (o := none) (by omega) rfl rfl rfl (v_mk_kd (k := 7) (rfl : v_kd 4 = 7) (by decide)) rfl (t_Tx_add (rfl : v_kd 4 = 7) e3 (by omega)) ?_
  show s_Ek (s_rows 3 L xs) D s_e79.1 56 [(0, .ref 3), (1, .int w1)] [] (v_mk s3) _
  obtain ⟨rfl, rfl⟩ := v_so h
  exact v_ret (fun _ => rfl)
noncomputable def f_Rd_nameOf (b : Int32) (s : vS) : Option (Int32 × vS) := (if b.toInt = 100 then (some (3, s)) else (if b.toInt = 110 then (some (5, s)) else (if b.toInt = 116 then (some (4, s)) else (if b.toInt = 120 then (some (0, s)) else (if b.toInt = 121 then (some (1, s)) else (if b.toInt = 122 then (some (2, s)) else (some ((-1), s))))))))
set_option maxRecDepth 20000 in
set_option maxHeartbeats 4000000 in
theorem t_Rd_nameOf {L : Nat} {xs : Nat → Int32} {b : Int32} {D : Nat} {r : Int32} {s s' : vS} (h : f_Rd_nameOf b s = some (r, s')) (hD : 0 ≤ D) : s_Ek (s_rows 3 L xs) D s_e81.1 0 (lv_args 0 [.int b]) [] (v_mk s) (v_Q (some (.int r)) s') := by
  unfold f_Rd_nameOf at h
  show s_Ek (s_rows 3 L xs) D s_e81.1 0 [(0, .int b)] [] (v_mk s) _
  refine s_ek_bk 1 (P := 1) (ls' := [(0, .int b)]) (st' := [.int b]) (M' := v_mk s) rfl ?_
  rcases v_if h with ⟨c1, h⟩ | ⟨c1, h⟩
  · refine v_lki (T := 66) (c := 100) rfl c1 rfl rfl ?_
    refine s_ek_bk 1 (P := 67) (ls' := [(0, .int b)]) (st' := [.int 3]) (M' := v_mk s) rfl ?_
    obtain ⟨rfl, rfl⟩ := v_so h
    exact v_ret (fun _ => rfl)
  · rcases v_if h with ⟨c2, h⟩ | ⟨c2, h⟩
    · refine v_lki (T := 70) (c := 110) rfl c2 rfl rfl ?_
      refine s_ek_bk 1 (P := 71) (ls' := [(0, .int b)]) (st' := [.int 5]) (M' := v_mk s) rfl ?_
      obtain ⟨rfl, rfl⟩ := v_so h
      exact v_ret (fun _ => rfl)
    · rcases v_if h with ⟨c3, h⟩ | ⟨c3, h⟩
      · refine v_lki (T := 68) (c := 116) rfl c3 rfl rfl ?_
        refine s_ek_bk 1 (P := 69) (ls' := [(0, .int b)]) (st' := [.int 4]) (M' := v_mk s) rfl ?_
        obtain ⟨rfl, rfl⟩ := v_so h
        exact v_ret (fun _ => rfl)
      · rcases v_if h with ⟨c4, h⟩ | ⟨c4, h⟩
        · refine v_lki (T := 60) (c := 120) rfl c4 rfl rfl ?_
          refine s_ek_bk 1 (P := 61) (ls' := [(0, .int b)]) (st' := [.int 0]) (M' := v_mk s) rfl ?_
          obtain ⟨rfl, rfl⟩ := v_so h
          exact v_ret (fun _ => rfl)
        · rcases v_if h with ⟨c5, h⟩ | ⟨c5, h⟩
          · refine v_lki (T := 62) (c := 121) rfl c5 rfl rfl ?_
            refine s_ek_bk 1 (P := 63) (ls' := [(0, .int b)]) (st' := [.int 1]) (M' := v_mk s) rfl ?_
            obtain ⟨rfl, rfl⟩ := v_so h
            exact v_ret (fun _ => rfl)
          · rcases v_if h with ⟨c6, h⟩ | ⟨c6, h⟩
            · refine v_lki (T := 64) (c := 122) rfl c6 rfl rfl ?_
              refine s_ek_bk 1 (P := 65) (ls' := [(0, .int b)]) (st' := [.int 2]) (M' := v_mk s) rfl ?_
              obtain ⟨rfl, rfl⟩ := v_so h
              exact v_ret (fun _ => rfl)
            · refine v_lko (T := 72) rfl ⟨c1, c2, c3, c4, c5, c6, trivial⟩ rfl rfl ?_
              refine s_ek_bk 1 (P := 73) (ls' := [(0, .int b)]) (st' := [.int (-1)]) (M' := v_mk s) rfl ?_
              obtain ⟨rfl, rfl⟩ := v_so h
              exact v_ret (fun _ => rfl)
noncomputable def f_Rd_operandb (rec : Int32 → vS → Option (Int32 × vS)) (b : Int32) (s : vS) : Option (Int32 × vS) := (v_bi (f_Rd_letterHere s) (fun r1 s1 => (v_bi (f_Rd_nameOf r1 s1) (fun r2 s2 => (if r2.toInt < 0 then (v_bi (f_Rd_isDigit r1 s2) (fun r4 s4 => (if r4.toInt = 0 then (if 6 ≤ b.toInt then (some (0, s4)) else (if r1.toInt = 40 then (v_let (v_w1 s4 3 3 ((s4.1 3 3) + (1 : Int32))) (fun s8 => (if r1.toInt = 40 then (v_bi (f_Rd_either rec (b + (1 : Int32)) s8) (fun r10 s10 => (if r10.toInt = 0 then (some (0, s10)) else (v_bi (f_Rd_comes 41 s10) (fun r12 s12 => (if r12.toInt = 0 then (some (0, s12)) else (some (1, s12)))))))) else (v_bi (rec (b + (1 : Int32)) s8) (fun r14 s14 => (if r1.toInt = 33 then (v_bi (f_Tx_add 4 20033 s14) (fun _ s16 => (if r14 = 0 ∨ r14 = 1 then some (r14, s16) else none))) else (v_bi (f_Tx_add 4 20095 s14) (fun _ s18 => (if r14 = 0 ∨ r14 = 1 then some (r14, s18) else none))))))))) else (if r1.toInt = 33 then (v_let (v_w1 s4 3 3 ((s4.1 3 3) + (1 : Int32))) (fun s21 => (if r1.toInt = 40 then (v_bi (f_Rd_either rec (b + (1 : Int32)) s21) (fun r23 s23 => (if r23.toInt = 0 then (some (0, s23)) else (v_bi (f_Rd_comes 41 s23) (fun r25 s25 => (if r25.toInt = 0 then (some (0, s25)) else (some (1, s25)))))))) else (v_bi (rec (b + (1 : Int32)) s21) (fun r27 s27 => (if r1.toInt = 33 then (v_bi (f_Tx_add 4 20033 s27) (fun _ s29 => (if r27 = 0 ∨ r27 = 1 then some (r27, s29) else none))) else (v_bi (f_Tx_add 4 20095 s27) (fun _ s31 => (if r27 = 0 ∨ r27 = 1 then some (r27, s31) else none))))))))) else (if r1.toInt = 45 then (v_let (v_w1 s4 3 3 ((s4.1 3 3) + (1 : Int32))) (fun s34 => (if r1.toInt = 40 then (v_bi (f_Rd_either rec (b + (1 : Int32)) s34) (fun r36 s36 => (if r36.toInt = 0 then (some (0, s36)) else (v_bi (f_Rd_comes 41 s36) (fun r38 s38 => (if r38.toInt = 0 then (some (0, s38)) else (some (1, s38)))))))) else (v_bi (rec (b + (1 : Int32)) s34) (fun r40 s40 => (if r1.toInt = 33 then (v_bi (f_Tx_add 4 20033 s40) (fun _ s42 => (if r40 = 0 ∨ r40 = 1 then some (r40, s42) else none))) else (v_bi (f_Tx_add 4 20095 s40) (fun _ s44 => (if r40 = 0 ∨ r40 = 1 then some (r40, s44) else none))))))))) else (some (0, s4)))))) else (v_bi (f_Rd_number s4) (fun _ s46 => (some (1, s46))))))) else (v_let (v_w1 s2 3 3 ((s2.1 3 3) + (1 : Int32))) (fun s47 => (v_bi (f_Tx_add 4 ((10000 : Int32) + r2) s47) (fun _ s48 => (some (1, s48)))))))))))
noncomputable def f_Rd_operand (n : Nat) : Int32 → vS → Option (Int32 × vS) := Nat.rec (motive := fun _ => Int32 → vS → Option (Int32 × vS)) (fun _ _ => none) (fun _ rec => f_Rd_operandb rec) n
set_option maxRecDepth 20000 in
set_option maxHeartbeats 4000000 in
theorem t_Rd_operandb {L : Nat} {xs : Nat → Int32} {H : Nat} {rec : Int32 → vS → Option (Int32 × vS)} (hrec : ∀ {D : Nat} {b : Int32} {r : Int32} {s s' : vS}, H ≤ D → rec b s = some (r, s') → s_Ek (s_rows 3 L xs) D s_e78.1 0 (lv_args 0 [.ref 3, .int b]) [] (v_mk s) (v_Q (some (.int r)) s')) {b : Int32} {D : Nat} {r : Int32} {s s' : vS} (h : f_Rd_operandb rec b s = some (r, s')) (hD : H + 6 ≤ D) : s_Ek (s_rows 3 L xs) D s_e78.1 0 (lv_args 0 [.ref 3, .int b]) [] (v_mk s) (v_Q (some (.int r)) s') := by
  unfold f_Rd_operandb at h
  show s_Ek (s_rows 3 L xs) D s_e78.1 0 [(0, .ref 3), (1, .int b)] [] (v_mk s) _
  refine s_ek_bk 1 (P := 1) (ls' := [(0, .ref 3), (1, .int b)]) (st' := [.ref 3]) (M' := v_mk s) rfl ?_
  obtain ⟨r1, s1, e1, h⟩ := v_bd h
  refine v_cV (ν := s_e70.1) (w := 560) (a := 3) (as' := []) (r := []) (o := some (.int r1)) (by omega) rfl rfl rfl (v_mk_kd (k := 5) (rfl : v_kd 3 = 5) (by decide)) rfl (t_Rd_letterHere e1 (by omega)) ?_
  show s_Ek (s_rows 3 L xs) D s_e78.1 4 [(0, .ref 3), (1, .int b)] [.int r1] (v_mk s1) _
  refine s_ek_bk 2 (P := 6) (ls' := [(2, .int r1), (0, .ref 3), (1, .int b)]) (st' := [.int r1]) (M' := v_mk s1) rfl ?_
  obtain ⟨r2, s2, e2, h⟩ := v_bd h
  refine v_cS (ν := s_e81.1) (w := 649) (as := [.int r1]) (r := []) (o := some (.int r2)) (by omega) rfl rfl rfl rfl (t_Rd_nameOf e2 (by omega)) ?_
  show s_Ek (s_rows 3 L xs) D s_e78.1 9 [(2, .int r1), (0, .ref 3), (1, .int b)] [.int r2] (v_mk s2) _
  refine s_ek_bk 2 (P := 11) (ls' := [(3, .int r2), (2, .int r1), (0, .ref 3), (1, .int b)]) (st' := [.int r2]) (M' := v_mk s2) rfl ?_
  rcases v_if h with ⟨c3, h⟩ | ⟨c3, h⟩
  · refine v_i1t (T := 38) rfl rfl c3 ?_
    refine s_ek_bk 1 (P := 39) (ls' := [(3, .int r2), (2, .int r1), (0, .ref 3), (1, .int b)]) (st' := [.int r1]) (M' := v_mk s2) rfl ?_
    obtain ⟨r4, s4, e4, h⟩ := v_bd h
    refine v_cS (ν := s_e80.1) (w := 641) (as := [.int r1]) (r := []) (o := some (.int r4)) (by omega) rfl rfl rfl rfl (t_Rd_isDigit e4 (by omega)) ?_
    show s_Ek (s_rows 3 L xs) D s_e78.1 42 [(3, .int r2), (2, .int r1), (0, .ref 3), (1, .int b)] [.int r4] (v_mk s4) _
    rcases v_if h with ⟨c5, h⟩ | ⟨c5, h⟩
    · refine v_i1t (T := 51) rfl rfl c5 ?_
      refine s_ek_bk 2 (P := 54) (ls' := [(3, .int r2), (2, .int r1), (0, .ref 3), (1, .int b)]) (st' := [.int 6, .int b]) (M' := v_mk s4) rfl ?_
      rcases v_if h with ⟨c6, h⟩ | ⟨c6, h⟩
      · refine v_i2t (T := 75) rfl rfl c6 ?_
        refine s_ek_bk 1 (P := 76) (ls' := [(3, .int r2), (2, .int r1), (0, .ref 3), (1, .int b)]) (st' := [.int 0]) (M' := v_mk s4) rfl ?_
        obtain ⟨rfl, rfl⟩ := v_so h
        exact v_ret (fun _ => rfl)
      · refine v_i2f (T := 75) rfl rfl c6 ?_
        refine s_ek_bk 2 (P := 60) (ls' := [(3, .int r2), (2, .int r1), (0, .ref 3), (1, .int b)]) (st' := [.int 40, .int r1]) (M' := v_mk s4) rfl ?_
        rcases v_if h with ⟨c7, h⟩ | ⟨c7, h⟩
        · refine v_i2t (T := 77) rfl rfl c7 ?_
          refine s_ek_bk 2 (P := 79) (ls' := [(3, .int r2), (2, .int r1), (0, .ref 3), (1, .int b)]) (st' := [.ref 3, .ref 3]) (M' := v_mk s4) rfl ?_
          refine v_gf rfl (v_gi (rfl : v_kd 3 = 5) rfl ⟨rfl, rfl, by decide⟩) ?_
          refine s_ek_bk 2 (P := 84) (ls' := [(3, .int r2), (2, .int r1), (0, .ref 3), (1, .int b)]) (st' := [.int ((s4.1 3 3) + (1 : Int32)), .ref 3]) (M' := v_mk s4) rfl ?_
          obtain ⟨s8, es8, h⟩ := v_ld h
          refine v_pf (M' := v_mk s8) rfl (by rw [es8]; exact v_pi (rfl : v_kd 3 = 5) rfl ⟨rfl, rfl, by decide⟩ rfl) ?_
          refine s_ek_bk 2 (P := 90) (ls' := [(3, .int r2), (2, .int r1), (0, .ref 3), (1, .int b)]) (st' := [.int 40, .int r1]) (M' := v_mk s8) rfl ?_
          rcases v_if h with ⟨c9, h⟩ | ⟨c9, h⟩
          · refine v_i2f (T := 118) rfl rfl (fun q => q c9) ?_
            refine s_ek_bk 4 (P := 97) (ls' := [(3, .int r2), (2, .int r1), (0, .ref 3), (1, .int b)]) (st' := [.int (b + (1 : Int32)), .ref 3]) (M' := v_mk s8) rfl ?_
            obtain ⟨r10, s10, e10, h⟩ := v_bd h
            refine v_cV (ν := s_e73.1) (w := 585) (a := 3) (as' := [.int (b + (1 : Int32))]) (r := []) (o := some (.int r10)) (by omega) rfl rfl rfl (v_mk_kd (k := 5) (rfl : v_kd 3 = 5) (by decide)) rfl (t_Rd_either hrec e10 (by omega)) ?_
            show s_Ek (s_rows 3 L xs) D s_e78.1 100 [(3, .int r2), (2, .int r1), (0, .ref 3), (1, .int b)] [.int r10] (v_mk s10) _
            rcases v_if h with ⟨c11, h⟩ | ⟨c11, h⟩
            · refine v_i1t (T := 116) rfl rfl c11 ?_
              refine s_ek_bk 1 (P := 117) (ls' := [(3, .int r2), (2, .int r1), (0, .ref 3), (1, .int b)]) (st' := [.int 0]) (M' := v_mk s10) rfl ?_
              obtain ⟨rfl, rfl⟩ := v_so h
              exact v_ret (fun _ => rfl)
            · refine v_i1f (T := 116) rfl rfl c11 ?_
              refine s_ek_bk 2 (P := 106) (ls' := [(3, .int r2), (2, .int r1), (0, .ref 3), (1, .int b)]) (st' := [.int 41, .ref 3]) (M' := v_mk s10) rfl ?_
              obtain ⟨r12, s12, e12, h⟩ := v_bd h
              refine v_cV (ν := s_e69.1) (w := 553) (a := 3) (as' := [.int 41]) (r := []) (o := some (.int r12)) (by omega) rfl rfl rfl (v_mk_kd (k := 5) (rfl : v_kd 3 = 5) (by decide)) rfl (t_Rd_comes e12 (by omega)) ?_
              show s_Ek (s_rows 3 L xs) D s_e78.1 109 [(3, .int r2), (2, .int r1), (0, .ref 3), (1, .int b)] [.int r12] (v_mk s12) _
              rcases v_if h with ⟨c13, h⟩ | ⟨c13, h⟩
              · refine v_i1t (T := 116) rfl rfl c13 ?_
                refine s_ek_bk 1 (P := 117) (ls' := [(3, .int r2), (2, .int r1), (0, .ref 3), (1, .int b)]) (st' := [.int 0]) (M' := v_mk s12) rfl ?_
                obtain ⟨rfl, rfl⟩ := v_so h
                exact v_ret (fun _ => rfl)
              · refine v_i1f (T := 116) rfl rfl c13 ?_
                refine s_ek_bk 2 (P := 117) (ls' := [(3, .int r2), (2, .int r1), (0, .ref 3), (1, .int b)]) (st' := [.int 1]) (M' := v_mk s12) rfl ?_
                obtain ⟨rfl, rfl⟩ := v_so h
                exact v_ret (fun _ => rfl)
          · refine v_i2t (T := 118) rfl rfl c9 ?_
            refine s_ek_bk 4 (P := 122) (ls' := [(3, .int r2), (2, .int r1), (0, .ref 3), (1, .int b)]) (st' := [.int (b + (1 : Int32)), .ref 3]) (M' := v_mk s8) rfl ?_
            obtain ⟨r14, s14, e14, h⟩ := v_bd h
            refine v_cV (ν := s_e78.1) (w := 625) (a := 3) (as' := [.int (b + (1 : Int32))]) (r := []) (o := some (.int r14)) (by omega) rfl rfl rfl (v_mk_kd (k := 5) (rfl : v_kd 3 = 5) (by decide)) rfl (hrec (by omega) e14) ?_
            show s_Ek (s_rows 3 L xs) D s_e78.1 125 [(3, .int r2), (2, .int r1), (0, .ref 3), (1, .int b)] [.int r14] (v_mk s14) _
            refine s_ek_bk 2 (P := 128) (ls' := [(4, .int r14), (3, .int r2), (2, .int r1), (0, .ref 3), (1, .int b)]) (st' := [.ref 3]) (M' := v_mk s14) rfl ?_
            refine v_gf rfl (v_gr (rfl : v_kd 3 = 5) (rfl : v_sl 3 0 = .ref 4) ⟨rfl, rfl, by decide⟩) ?_
            refine s_ek_bk 3 (P := 137) (ls' := [(4, .int r14), (3, .int r2), (2, .int r1), (0, .ref 3), (1, .int b)]) (st' := [.int 33, .int r1, .int 20000, .ref 4]) (M' := v_mk s14) rfl ?_
            rcases v_if h with ⟨c15, h⟩ | ⟨c15, h⟩
            · refine v_i2f (T := 145) rfl rfl (fun q => q c15) ?_
              refine s_ek_bk 3 (P := 148) (ls' := [(4, .int r14), (3, .int r2), (2, .int r1), (0, .ref 3), (1, .int b)]) (st' := [.int 20033, .ref 4]) (M' := v_mk s14) rfl ?_
              obtain ⟨r16, s16, e16, h⟩ := v_bd h
              refine v_cV (ν := s_e102.1) (w := 817) (a := 4) (as' := [.int 20033]) (r := []) (o := none) (by omega) rfl rfl rfl (v_mk_kd (k := 7) (rfl : v_kd 4 = 7) (by decide)) rfl (t_Tx_add (rfl : v_kd 4 = 7) e16 (by omega)) ?_
              show s_Ek (s_rows 3 L xs) D s_e78.1 151 [(4, .int r14), (3, .int r2), (2, .int r1), (0, .ref 3), (1, .int b)] [] (v_mk s16) _
              refine s_ek_bk 1 (P := 153) (ls' := [(4, .int r14), (3, .int r2), (2, .int r1), (0, .ref 3), (1, .int b)]) (st' := [.int r14]) (M' := v_mk s16) rfl ?_
              obtain ⟨c17, h⟩ := v_ck h
              obtain ⟨rfl, rfl⟩ := v_so h
              exact v_zret rfl rfl c17
            · refine v_i2t (T := 145) rfl rfl c15 ?_
              refine s_ek_bk 2 (P := 148) (ls' := [(4, .int r14), (3, .int r2), (2, .int r1), (0, .ref 3), (1, .int b)]) (st' := [.int 20095, .ref 4]) (M' := v_mk s14) rfl ?_
              obtain ⟨r18, s18, e18, h⟩ := v_bd h
              refine v_cV (ν := s_e102.1) (w := 817) (a := 4) (as' := [.int 20095]) (r := []) (o := none) (by omega) rfl rfl rfl (v_mk_kd (k := 7) (rfl : v_kd 4 = 7) (by decide)) rfl (t_Tx_add (rfl : v_kd 4 = 7) e18 (by omega)) ?_
              show s_Ek (s_rows 3 L xs) D s_e78.1 151 [(4, .int r14), (3, .int r2), (2, .int r1), (0, .ref 3), (1, .int b)] [] (v_mk s18) _
              refine s_ek_bk 1 (P := 153) (ls' := [(4, .int r14), (3, .int r2), (2, .int r1), (0, .ref 3), (1, .int b)]) (st' := [.int r14]) (M' := v_mk s18) rfl ?_
              obtain ⟨c19, h⟩ := v_ck h
              obtain ⟨rfl, rfl⟩ := v_so h
              exact v_zret rfl rfl c19
        · refine v_i2f (T := 77) rfl rfl c7 ?_
          refine s_ek_bk 2 (P := 66) (ls' := [(3, .int r2), (2, .int r1), (0, .ref 3), (1, .int b)]) (st' := [.int 33, .int r1]) (M' := v_mk s4) rfl ?_
          rcases v_if h with ⟨c20, h⟩ | ⟨c20, h⟩
          · refine v_i2t (T := 77) rfl rfl c20 ?_
            refine s_ek_bk 2 (P := 79) (ls' := [(3, .int r2), (2, .int r1), (0, .ref 3), (1, .int b)]) (st' := [.ref 3, .ref 3]) (M' := v_mk s4) rfl ?_
            refine v_gf rfl (v_gi (rfl : v_kd 3 = 5) rfl ⟨rfl, rfl, by decide⟩) ?_
            refine s_ek_bk 2 (P := 84) (ls' := [(3, .int r2), (2, .int r1), (0, .ref 3), (1, .int b)]) (st' := [.int ((s4.1 3 3) + (1 : Int32)), .ref 3]) (M' := v_mk s4) rfl ?_
            obtain ⟨s21, es21, h⟩ := v_ld h
            refine v_pf (M' := v_mk s21) rfl (by rw [es21]; exact v_pi (rfl : v_kd 3 = 5) rfl ⟨rfl, rfl, by decide⟩ rfl) ?_
            refine s_ek_bk 2 (P := 90) (ls' := [(3, .int r2), (2, .int r1), (0, .ref 3), (1, .int b)]) (st' := [.int 40, .int r1]) (M' := v_mk s21) rfl ?_
            rcases v_if h with ⟨c22, h⟩ | ⟨c22, h⟩
            · refine v_i2f (T := 118) rfl rfl (fun q => q c22) ?_
              refine s_ek_bk 4 (P := 97) (ls' := [(3, .int r2), (2, .int r1), (0, .ref 3), (1, .int b)]) (st' := [.int (b + (1 : Int32)), .ref 3]) (M' := v_mk s21) rfl ?_
              obtain ⟨r23, s23, e23, h⟩ := v_bd h
              refine v_cV (ν := s_e73.1) (w := 585) (a := 3) (as' := [.int (b + (1 : Int32))]) (r := []) (o := some (.int r23)) (by omega) rfl rfl rfl (v_mk_kd (k := 5) (rfl : v_kd 3 = 5) (by decide)) rfl (t_Rd_either hrec e23 (by omega)) ?_
              show s_Ek (s_rows 3 L xs) D s_e78.1 100 [(3, .int r2), (2, .int r1), (0, .ref 3), (1, .int b)] [.int r23] (v_mk s23) _
              rcases v_if h with ⟨c24, h⟩ | ⟨c24, h⟩
              · refine v_i1t (T := 116) rfl rfl c24 ?_
                refine s_ek_bk 1 (P := 117) (ls' := [(3, .int r2), (2, .int r1), (0, .ref 3), (1, .int b)]) (st' := [.int 0]) (M' := v_mk s23) rfl ?_
                obtain ⟨rfl, rfl⟩ := v_so h
                exact v_ret (fun _ => rfl)
              · refine v_i1f (T := 116) rfl rfl c24 ?_
                refine s_ek_bk 2 (P := 106) (ls' := [(3, .int r2), (2, .int r1), (0, .ref 3), (1, .int b)]) (st' := [.int 41, .ref 3]) (M' := v_mk s23) rfl ?_
                obtain ⟨r25, s25, e25, h⟩ := v_bd h
                refine v_cV (ν := s_e69.1) (w := 553) (a := 3) (as' := [.int 41]) (r := []) (o := some (.int r25)) (by omega) rfl rfl rfl (v_mk_kd (k := 5) (rfl : v_kd 3 = 5) (by decide)) rfl (t_Rd_comes e25 (by omega)) ?_
                show s_Ek (s_rows 3 L xs) D s_e78.1 109 [(3, .int r2), (2, .int r1), (0, .ref 3), (1, .int b)] [.int r25] (v_mk s25) _
                rcases v_if h with ⟨c26, h⟩ | ⟨c26, h⟩
                · refine v_i1t (T := 116) rfl rfl c26 ?_
                  refine s_ek_bk 1 (P := 117) (ls' := [(3, .int r2), (2, .int r1), (0, .ref 3), (1, .int b)]) (st' := [.int 0]) (M' := v_mk s25) rfl ?_
                  obtain ⟨rfl, rfl⟩ := v_so h
                  exact v_ret (fun _ => rfl)
                · refine v_i1f (T := 116) rfl rfl c26 ?_
                  refine s_ek_bk 2 (P := 117) (ls' := [(3, .int r2), (2, .int r1), (0, .ref 3), (1, .int b)]) (st' := [.int 1]) (M' := v_mk s25) rfl ?_
                  obtain ⟨rfl, rfl⟩ := v_so h
                  exact v_ret (fun _ => rfl)
            · refine v_i2t (T := 118) rfl rfl c22 ?_
              refine s_ek_bk 4 (P := 122) (ls' := [(3, .int r2), (2, .int r1), (0, .ref 3), (1, .int b)]) (st' := [.int (b + (1 : Int32)), .ref 3]) (M' := v_mk s21) rfl ?_
              obtain ⟨r27, s27, e27, h⟩ := v_bd h
              refine v_cV (ν := s_e78.1) (w := 625) (a := 3) (as' := [.int (b + (1 : Int32))]) (r := []) (o := some (.int r27)) (by omega) rfl rfl rfl (v_mk_kd (k := 5) (rfl : v_kd 3 = 5) (by decide)) rfl (hrec (by omega) e27) ?_
              show s_Ek (s_rows 3 L xs) D s_e78.1 125 [(3, .int r2), (2, .int r1), (0, .ref 3), (1, .int b)] [.int r27] (v_mk s27) _
              refine s_ek_bk 2 (P := 128) (ls' := [(4, .int r27), (3, .int r2), (2, .int r1), (0, .ref 3), (1, .int b)]) (st' := [.ref 3]) (M' := v_mk s27) rfl ?_
              refine v_gf rfl (v_gr (rfl : v_kd 3 = 5) (rfl : v_sl 3 0 = .ref 4) ⟨rfl, rfl, by decide⟩) ?_
              refine s_ek_bk 3 (P := 137) (ls' := [(4, .int r27), (3, .int r2), (2, .int r1), (0, .ref 3), (1, .int b)]) (st' := [.int 33, .int r1, .int 20000, .ref 4]) (M' := v_mk s27) rfl ?_
              rcases v_if h with ⟨c28, h⟩ | ⟨c28, h⟩
              · refine v_i2f (T := 145) rfl rfl (fun q => q c28) ?_
                refine s_ek_bk 3 (P := 148) (ls' := [(4, .int r27), (3, .int r2), (2, .int r1), (0, .ref 3), (1, .int b)]) (st' := [.int 20033, .ref 4]) (M' := v_mk s27) rfl ?_
                obtain ⟨r29, s29, e29, h⟩ := v_bd h
                refine v_cV (ν := s_e102.1) (w := 817) (a := 4) (as' := [.int 20033]) (r := []) (o := none) (by omega) rfl rfl rfl (v_mk_kd (k := 7) (rfl : v_kd 4 = 7) (by decide)) rfl (t_Tx_add (rfl : v_kd 4 = 7) e29 (by omega)) ?_
                show s_Ek (s_rows 3 L xs) D s_e78.1 151 [(4, .int r27), (3, .int r2), (2, .int r1), (0, .ref 3), (1, .int b)] [] (v_mk s29) _
                refine s_ek_bk 1 (P := 153) (ls' := [(4, .int r27), (3, .int r2), (2, .int r1), (0, .ref 3), (1, .int b)]) (st' := [.int r27]) (M' := v_mk s29) rfl ?_
                obtain ⟨c30, h⟩ := v_ck h
                obtain ⟨rfl, rfl⟩ := v_so h
                exact v_zret rfl rfl c30
              · refine v_i2t (T := 145) rfl rfl c28 ?_
                refine s_ek_bk 2 (P := 148) (ls' := [(4, .int r27), (3, .int r2), (2, .int r1), (0, .ref 3), (1, .int b)]) (st' := [.int 20095, .ref 4]) (M' := v_mk s27) rfl ?_
                obtain ⟨r31, s31, e31, h⟩ := v_bd h
                refine v_cV (ν := s_e102.1) (w := 817) (a := 4) (as' := [.int 20095]) (r := []) (o := none) (by omega) rfl rfl rfl (v_mk_kd (k := 7) (rfl : v_kd 4 = 7) (by decide)) rfl (t_Tx_add (rfl : v_kd 4 = 7) e31 (by omega)) ?_
                show s_Ek (s_rows 3 L xs) D s_e78.1 151 [(4, .int r27), (3, .int r2), (2, .int r1), (0, .ref 3), (1, .int b)] [] (v_mk s31) _
                refine s_ek_bk 1 (P := 153) (ls' := [(4, .int r27), (3, .int r2), (2, .int r1), (0, .ref 3), (1, .int b)]) (st' := [.int r27]) (M' := v_mk s31) rfl ?_
                obtain ⟨c32, h⟩ := v_ck h
                obtain ⟨rfl, rfl⟩ := v_so h
                exact v_zret rfl rfl c32
          · refine v_i2f (T := 77) rfl rfl c20 ?_
            refine s_ek_bk 2 (P := 72) (ls' := [(3, .int r2), (2, .int r1), (0, .ref 3), (1, .int b)]) (st' := [.int 45, .int r1]) (M' := v_mk s4) rfl ?_
            rcases v_if h with ⟨c33, h⟩ | ⟨c33, h⟩
            · refine v_i2t (T := 77) rfl rfl c33 ?_
              refine s_ek_bk 2 (P := 79) (ls' := [(3, .int r2), (2, .int r1), (0, .ref 3), (1, .int b)]) (st' := [.ref 3, .ref 3]) (M' := v_mk s4) rfl ?_
              refine v_gf rfl (v_gi (rfl : v_kd 3 = 5) rfl ⟨rfl, rfl, by decide⟩) ?_
              refine s_ek_bk 2 (P := 84) (ls' := [(3, .int r2), (2, .int r1), (0, .ref 3), (1, .int b)]) (st' := [.int ((s4.1 3 3) + (1 : Int32)), .ref 3]) (M' := v_mk s4) rfl ?_
              obtain ⟨s34, es34, h⟩ := v_ld h
              refine v_pf (M' := v_mk s34) rfl (by rw [es34]; exact v_pi (rfl : v_kd 3 = 5) rfl ⟨rfl, rfl, by decide⟩ rfl) ?_
              refine s_ek_bk 2 (P := 90) (ls' := [(3, .int r2), (2, .int r1), (0, .ref 3), (1, .int b)]) (st' := [.int 40, .int r1]) (M' := v_mk s34) rfl ?_
              rcases v_if h with ⟨c35, h⟩ | ⟨c35, h⟩
              · refine v_i2f (T := 118) rfl rfl (fun q => q c35) ?_
                refine s_ek_bk 4 (P := 97) (ls' := [(3, .int r2), (2, .int r1), (0, .ref 3), (1, .int b)]) (st' := [.int (b + (1 : Int32)), .ref 3]) (M' := v_mk s34) rfl ?_
                obtain ⟨r36, s36, e36, h⟩ := v_bd h
                refine v_cV (ν := s_e73.1) (w := 585) (a := 3) (as' := [.int (b + (1 : Int32))]) (r := []) (o := some (.int r36)) (by omega) rfl rfl rfl (v_mk_kd (k := 5) (rfl : v_kd 3 = 5) (by decide)) rfl (t_Rd_either hrec e36 (by omega)) ?_
                show s_Ek (s_rows 3 L xs) D s_e78.1 100 [(3, .int r2), (2, .int r1), (0, .ref 3), (1, .int b)] [.int r36] (v_mk s36) _
                rcases v_if h with ⟨c37, h⟩ | ⟨c37, h⟩
                · refine v_i1t (T := 116) rfl rfl c37 ?_
                  refine s_ek_bk 1 (P := 117) (ls' := [(3, .int r2), (2, .int r1), (0, .ref 3), (1, .int b)]) (st' := [.int 0]) (M' := v_mk s36) rfl ?_
                  obtain ⟨rfl, rfl⟩ := v_so h
                  exact v_ret (fun _ => rfl)
                · refine v_i1f (T := 116) rfl rfl c37 ?_
                  refine s_ek_bk 2 (P := 106) (ls' := [(3, .int r2), (2, .int r1), (0, .ref 3), (1, .int b)]) (st' := [.int 41, .ref 3]) (M' := v_mk s36) rfl ?_
                  obtain ⟨r38, s38, e38, h⟩ := v_bd h
                  refine v_cV (ν := s_e69.1) (w := 553) (a := 3) (as' := [.int 41]) (r := []) (o := some (.int r38)) (by omega) rfl rfl rfl (v_mk_kd (k := 5) (rfl : v_kd 3 = 5) (by decide)) rfl (t_Rd_comes e38 (by omega)) ?_
                  show s_Ek (s_rows 3 L xs) D s_e78.1 109 [(3, .int r2), (2, .int r1), (0, .ref 3), (1, .int b)] [.int r38] (v_mk s38) _
                  rcases v_if h with ⟨c39, h⟩ | ⟨c39, h⟩
                  · refine v_i1t (T := 116) rfl rfl c39 ?_
                    refine s_ek_bk 1 (P := 117) (ls' := [(3, .int r2), (2, .int r1), (0, .ref 3), (1, .int b)]) (st' := [.int 0]) (M' := v_mk s38) rfl ?_
                    obtain ⟨rfl, rfl⟩ := v_so h
                    exact v_ret (fun _ => rfl)
                  · refine v_i1f (T := 116) rfl rfl c39 ?_
                    refine s_ek_bk 2 (P := 117) (ls' := [(3, .int r2), (2, .int r1), (0, .ref 3), (1, .int b)]) (st' := [.int 1]) (M' := v_mk s38) rfl ?_
                    obtain ⟨rfl, rfl⟩ := v_so h
                    exact v_ret (fun _ => rfl)
              · refine v_i2t (T := 118) rfl rfl c35 ?_
                refine s_ek_bk 4 (P := 122) (ls' := [(3, .int r2), (2, .int r1), (0, .ref 3), (1, .int b)]) (st' := [.int (b + (1 : Int32)), .ref 3]) (M' := v_mk s34) rfl ?_
                obtain ⟨r40, s40, e40, h⟩ := v_bd h
                refine v_cV (ν := s_e78.1) (w := 625) (a := 3) (as' := [.int (b + (1 : Int32))]) (r := []) (o := some (.int r40)) (by omega) rfl rfl rfl (v_mk_kd (k := 5) (rfl : v_kd 3 = 5) (by decide)) rfl (hrec (by omega) e40) ?_
                show s_Ek (s_rows 3 L xs) D s_e78.1 125 [(3, .int r2), (2, .int r1), (0, .ref 3), (1, .int b)] [.int r40] (v_mk s40) _
                refine s_ek_bk 2 (P := 128) (ls' := [(4, .int r40), (3, .int r2), (2, .int r1), (0, .ref 3), (1, .int b)]) (st' := [.ref 3]) (M' := v_mk s40) rfl ?_
                refine v_gf rfl (v_gr (rfl : v_kd 3 = 5) (rfl : v_sl 3 0 = .ref 4) ⟨rfl, rfl, by decide⟩) ?_
                refine s_ek_bk 3 (P := 137) (ls' := [(4, .int r40), (3, .int r2), (2, .int r1), (0, .ref 3), (1, .int b)]) (st' := [.int 33, .int r1, .int 20000, .ref 4]) (M' := v_mk s40) rfl ?_
                rcases v_if h with ⟨c41, h⟩ | ⟨c41, h⟩
                · refine v_i2f (T := 145) rfl rfl (fun q => q c41) ?_
                  refine s_ek_bk 3 (P := 148) (ls' := [(4, .int r40), (3, .int r2), (2, .int r1), (0, .ref 3), (1, .int b)]) (st' := [.int 20033, .ref 4]) (M' := v_mk s40) rfl ?_
                  obtain ⟨r42, s42, e42, h⟩ := v_bd h
                  refine v_cV (ν := s_e102.1) (w := 817) (a := 4) (as' := [.int 20033]) (r := []) (o := none) (by omega) rfl rfl rfl (v_mk_kd (k := 7) (rfl : v_kd 4 = 7) (by decide)) rfl (t_Tx_add (rfl : v_kd 4 = 7) e42 (by omega)) ?_
                  show s_Ek (s_rows 3 L xs) D s_e78.1 151 [(4, .int r40), (3, .int r2), (2, .int r1), (0, .ref 3), (1, .int b)] [] (v_mk s42) _
                  refine s_ek_bk 1 (P := 153) (ls' := [(4, .int r40), (3, .int r2), (2, .int r1), (0, .ref 3), (1, .int b)]) (st' := [.int r40]) (M' := v_mk s42) rfl ?_
                  obtain ⟨c43, h⟩ := v_ck h
                  obtain ⟨rfl, rfl⟩ := v_so h
                  exact v_zret rfl rfl c43
                · refine v_i2t (T := 145) rfl rfl c41 ?_
                  refine s_ek_bk 2 (P := 148) (ls' := [(4, .int r40), (3, .int r2), (2, .int r1), (0, .ref 3), (1, .int b)]) (st' := [.int 20095, .ref 4]) (M' := v_mk s40) rfl ?_
                  obtain ⟨r44, s44, e44, h⟩ := v_bd h
                  refine v_cV (ν := s_e102.1) (w := 817) (a := 4) (as' := [.int 20095]) (r := []) (o := none) (by omega) rfl rfl rfl (v_mk_kd (k := 7) (rfl : v_kd 4 = 7) (by decide)) rfl (t_Tx_add (rfl : v_kd 4 = 7) e44 (by omega)) ?_
                  show s_Ek (s_rows 3 L xs) D s_e78.1 151 [(4, .int r40), (3, .int r2), (2, .int r1), (0, .ref 3), (1, .int b)] [] (v_mk s44) _
                  refine s_ek_bk 1 (P := 153) (ls' := [(4, .int r40), (3, .int r2), (2, .int r1), (0, .ref 3), (1, .int b)]) (st' := [.int r40]) (M' := v_mk s44) rfl ?_
                  obtain ⟨c45, h⟩ := v_ck h
                  obtain ⟨rfl, rfl⟩ := v_so h
                  exact v_zret rfl rfl c45
            · refine v_i2f (T := 77) rfl rfl c33 ?_
              refine s_ek_bk 1 (P := 76) (ls' := [(3, .int r2), (2, .int r1), (0, .ref 3), (1, .int b)]) (st' := [.int 0]) (M' := v_mk s4) rfl ?_
              obtain ⟨rfl, rfl⟩ := v_so h
              exact v_ret (fun _ => rfl)
    · refine v_i1f (T := 51) rfl rfl c5 ?_
      refine s_ek_bk 1 (P := 46) (ls' := [(3, .int r2), (2, .int r1), (0, .ref 3), (1, .int b)]) (st' := [.ref 3]) (M' := v_mk s4) rfl ?_
      obtain ⟨r46, s46, e46, h⟩ := v_bd h
      refine v_cV (ν := s_e79.1) (w := 632) (a := 3) (as' := []) (r := []) (o := none) (by omega) rfl rfl rfl (v_mk_kd (k := 5) (rfl : v_kd 3 = 5) (by decide)) rfl (t_Rd_number e46 (by omega)) ?_
      show s_Ek (s_rows 3 L xs) D s_e78.1 49 [(3, .int r2), (2, .int r1), (0, .ref 3), (1, .int b)] [] (v_mk s46) _
      refine s_ek_bk 1 (P := 50) (ls' := [(3, .int r2), (2, .int r1), (0, .ref 3), (1, .int b)]) (st' := [.int 1]) (M' := v_mk s46) rfl ?_
      obtain ⟨rfl, rfl⟩ := v_so h
      exact v_ret (fun _ => rfl)
  · refine v_i1f (T := 38) rfl rfl c3 ?_
    refine s_ek_bk 2 (P := 16) (ls' := [(3, .int r2), (2, .int r1), (0, .ref 3), (1, .int b)]) (st' := [.ref 3, .ref 3]) (M' := v_mk s2) rfl ?_
    refine v_gf rfl (v_gi (rfl : v_kd 3 = 5) rfl ⟨rfl, rfl, by decide⟩) ?_
    refine s_ek_bk 2 (P := 21) (ls' := [(3, .int r2), (2, .int r1), (0, .ref 3), (1, .int b)]) (st' := [.int ((s2.1 3 3) + (1 : Int32)), .ref 3]) (M' := v_mk s2) rfl ?_
    obtain ⟨s47, es47, h⟩ := v_ld h
    refine v_pf (M' := v_mk s47) rfl (by rw [es47]; exact v_pi (rfl : v_kd 3 = 5) rfl ⟨rfl, rfl, by decide⟩ rfl) ?_
    refine s_ek_bk 1 (P := 25) (ls' := [(3, .int r2), (2, .int r1), (0, .ref 3), (1, .int b)]) (st' := [.ref 3]) (M' := v_mk s47) rfl ?_
    refine v_gf rfl (v_gr (rfl : v_kd 3 = 5) (rfl : v_sl 3 0 = .ref 4) ⟨rfl, rfl, by decide⟩) ?_
    refine s_ek_bk 3 (P := 33) (ls' := [(3, .int r2), (2, .int r1), (0, .ref 3), (1, .int b)]) (st' := [.int ((10000 : Int32) + r2), .ref 4]) (M' := v_mk s47) rfl ?_
    obtain ⟨r48, s48, e48, h⟩ := v_bd h
    refine v_cV (ν := s_e102.1) (w := 817) (a := 4) (as' := [.int ((10000 : Int32) + r2)]) (r := []) (o := none) (by omega) rfl rfl rfl (v_mk_kd (k := 7) (rfl : v_kd 4 = 7) (by decide)) rfl (t_Tx_add (rfl : v_kd 4 = 7) e48 (by omega)) ?_
    show s_Ek (s_rows 3 L xs) D s_e78.1 36 [(3, .int r2), (2, .int r1), (0, .ref 3), (1, .int b)] [] (v_mk s48) _
    refine s_ek_bk 1 (P := 37) (ls' := [(3, .int r2), (2, .int r1), (0, .ref 3), (1, .int b)]) (st' := [.int 1]) (M' := v_mk s48) rfl ?_
    obtain ⟨rfl, rfl⟩ := v_so h
    exact v_ret (fun _ => rfl)
set_option maxRecDepth 20000 in
set_option maxHeartbeats 4000000 in
theorem t_Rd_operand {L : Nat} {xs : Nat → Int32} : ∀ (n : Nat) {D : Nat} {b : Int32} {r : Int32} {s s' : vS}, 6 * n ≤ D → f_Rd_operand n b s = some (r, s') → s_Ek (s_rows 3 L xs) D s_e78.1 0 (lv_args 0 [.ref 3, .int b]) [] (v_mk s) (v_Q (some (.int r)) s') := by
  intro n
  induction n with
  | zero => intro D b r s s' hD h; exact nomatch (show (none : Option (Int32 × vS)) = some (r, s') from h)
  | succ n ih =>
    intro D b r s s' hD h
    exact t_Rd_operandb (H := 6 * n) (rec := f_Rd_operand n) (fun hD e => ih hD e) h (by omega)
noncomputable def f_Tx_length (a : Nat) (s : vS) : Option (Int32 × vS) := (some ((s.1 a 2), s))
set_option maxRecDepth 20000 in
set_option maxHeartbeats 4000000 in
theorem t_Tx_length {L : Nat} {xs : Nat → Int32} {a : Nat} (ha : v_kd a = 7) {D : Nat} {r : Int32} {s s' : vS} (h : f_Tx_length a s = some (r, s')) (hD : 0 ≤ D) : s_Ek (s_rows 3 L xs) D s_e101.1 0 (lv_args 0 [.ref a]) [] (v_mk s) (v_Q (some (.int r)) s') := by
  unfold f_Tx_length at h
  show s_Ek (s_rows 3 L xs) D s_e101.1 0 [(0, .ref a)] [] (v_mk s) _
  refine s_ek_bk 1 (P := 1) (ls' := [(0, .ref a)]) (st' := [.ref a]) (M' := v_mk s) rfl ?_
  refine v_gf rfl (v_gi ha (v_tK (j := 2) v_is7 (by decide) ha) ⟨rfl, rfl, by decide⟩) ?_
  obtain ⟨rfl, rfl⟩ := v_so h
  exact v_ret (fun _ => rfl)
noncomputable def f_Tx_aim (a : Nat) (b : Int32) (s : vS) : Option (Unit × vS) := (if b.toInt < 0 then (some ((), s)) else (if 61 ≤ b.toInt then (some ((), s)) else (if v_in b 61 then (v_let (v_w1 s (a + 1) (Int32.toNatClampNeg b) ((30000 : Int32) + (s.1 a 2))) (fun s4 => (some ((), s4)))) else none)))
set_option maxRecDepth 20000 in
set_option maxHeartbeats 4000000 in
theorem t_Tx_aim {L : Nat} {xs : Nat → Int32} {a : Nat} {b : Int32} (ha : v_kd a = 7) {D : Nat} {r : Unit} {s s' : vS} (h : f_Tx_aim a b s = some (r, s')) (hD : 0 ≤ D) : s_Ek (s_rows 3 L xs) D s_e103.1 0 (lv_args 0 [.ref a, .int b]) [] (v_mk s) (v_Q none s') := by
  unfold f_Tx_aim at h
  show s_Ek (s_rows 3 L xs) D s_e103.1 0 [(0, .ref a), (1, .int b)] [] (v_mk s) _
  refine s_ek_bk 1 (P := 1) (ls' := [(0, .ref a), (1, .int b)]) (st' := [.int b]) (M' := v_mk s) rfl ?_
  rcases v_if h with ⟨c1, h⟩ | ⟨c1, h⟩
  · refine v_i1t (T := 27) rfl rfl c1 ?_
    obtain ⟨rfl, rfl⟩ := v_so h
    exact v_ret (fun _ => rfl)
  · refine v_i1f (T := 27) rfl rfl c1 ?_
    refine s_ek_bk 2 (P := 6) (ls' := [(0, .ref a), (1, .int b)]) (st' := [.ref a, .int b]) (M' := v_mk s) rfl ?_
    refine v_gf rfl (v_gr ha (v_rK v_r7_0 (by decide) ha).1 ⟨rfl, rfl, by decide⟩) ?_
    refine v_alen (x := 61) rfl (by rw [v_len (v_rK v_r7_0 (by decide) ha).2.1 (by decide), (v_rK v_r7_0 (by decide) ha).2.2]; rfl) ?_
    rcases v_if h with ⟨c2, h⟩ | ⟨c2, h⟩
    · refine v_i2t (T := 27) rfl rfl c2 ?_
      obtain ⟨rfl, rfl⟩ := v_so h
      exact v_ret (fun _ => rfl)
    · refine v_i2f (T := 27) rfl rfl c2 ?_
      refine s_ek_bk 1 (P := 14) (ls' := [(0, .ref a), (1, .int b)]) (st' := [.ref a]) (M' := v_mk s) rfl ?_
      refine v_gf rfl (v_gr ha (v_rK v_r7_0 (by decide) ha).1 ⟨rfl, rfl, by decide⟩) ?_
      refine s_ek_bk 3 (P := 22) (ls' := [(0, .ref a), (1, .int b)]) (st' := [.ref a, .int 30000, .int b, .ref (a + 1)]) (M' := v_mk s) rfl ?_
      refine v_gf rfl (v_gi ha (v_tK (j := 2) v_is7 (by decide) ha) ⟨rfl, rfl, by decide⟩) ?_
      refine s_ek_bk 1 (P := 26) (ls' := [(0, .ref a), (1, .int b)]) (st' := [.int ((30000 : Int32) + (s.1 a 2)), .int b, .ref (a + 1)]) (M' := v_mk s) rfl ?_
      obtain ⟨c3, h⟩ := v_ck h
      obtain ⟨s4, es4, h⟩ := v_ld h
      refine v_ist (M' := v_mk s4) (i := b) rfl (by rw [es4]; exact v_pai (v_rK v_r7_0 (by decide) ha).2.1 rfl (by decide) v_all13 (v_cn (v_rK v_r7_0 (by decide) ha).2.2 c3)) ?_
      obtain ⟨rfl, rfl⟩ := v_so h
      exact v_ret (fun _ => rfl)
noncomputable def f_Rd_line (s : vS) : Option (Int32 × vS) := (v_bi (f_Rd_either (f_Rd_operand 64) 0 s) (fun r1 s1 => (if r1.toInt = 0 then (some (0, s1)) else (v_bi (f_Rd_comes 63 s1) (fun r3 s3 => (if r3.toInt = 0 then (v_bi (f_Tx_add 4 40000 s3) (fun _ s5 => (some (1, s5)))) else (v_bi (f_Tx_length 4 s3) (fun r6 s6 => (v_bi (f_Tx_add 4 30000 s6) (fun _ s7 => (v_bi (f_Rd_either (f_Rd_operand 64) 0 s7) (fun r8 s8 => (if r8.toInt = 0 then (some (0, s8)) else (v_bi (f_Tx_add 4 40000 s8) (fun _ s10 => (v_bi (f_Tx_aim 4 r6 s10) (fun _ s11 => (some (1, s11)))))))))))))))))))
set_option maxRecDepth 20000 in
set_option maxHeartbeats 4000000 in
theorem t_Rd_line {L : Nat} {xs : Nat → Int32} {D : Nat} {r : Int32} {s s' : vS} (h : f_Rd_line s = some (r, s')) (hD : 390 ≤ D) : s_Ek (s_rows 3 L xs) D s_e72.1 0 (lv_args 0 [.ref 3]) [] (v_mk s) (v_Q (some (.int r)) s') := by
  unfold f_Rd_line at h
  show s_Ek (s_rows 3 L xs) D s_e72.1 0 [(0, .ref 3)] [] (v_mk s) _
  refine s_ek_bk 2 (P := 2) (ls' := [(0, .ref 3)]) (st' := [.int 0, .ref 3]) (M' := v_mk s) rfl ?_
  obtain ⟨r1, s1, e1, h⟩ := v_bd h
  refine v_cV (ν := s_e73.1) (w := 585) (a := 3) (as' := [.int 0]) (r := []) (o := some (.int r1)) (by omega) rfl rfl rfl (v_mk_kd (k := 5) (rfl : v_kd 3 = 5) (by decide)) rfl (t_Rd_either (H := 384) (rec := f_Rd_operand 64) (fun hD e => t_Rd_operand 64 hD e) e1 (by omega)) ?_
  show s_Ek (s_rows 3 L xs) D s_e72.1 5 [(0, .ref 3)] [.int r1] (v_mk s1) _
  rcases v_if h with ⟨c2, h⟩ | ⟨c2, h⟩
  · refine v_i1f (T := 10) rfl rfl (fun q => q c2) ?_
    refine s_ek_bk 1 (P := 9) (ls' := [(0, .ref 3)]) (st' := [.int 0]) (M' := v_mk s1) rfl ?_
    obtain ⟨rfl, rfl⟩ := v_so h
    exact v_ret (fun _ => rfl)
  · refine v_i1t (T := 10) rfl rfl c2 ?_
    refine s_ek_bk 2 (P := 13) (ls' := [(0, .ref 3)]) (st' := [.int 63, .ref 3]) (M' := v_mk s1) rfl ?_
    obtain ⟨r3, s3, e3, h⟩ := v_bd h
    refine v_cV (ν := s_e69.1) (w := 553) (a := 3) (as' := [.int 63]) (r := []) (o := some (.int r3)) (by omega) rfl rfl rfl (v_mk_kd (k := 5) (rfl : v_kd 3 = 5) (by decide)) rfl (t_Rd_comes e3 (by omega)) ?_
    show s_Ek (s_rows 3 L xs) D s_e72.1 16 [(0, .ref 3)] [.int r3] (v_mk s3) _
    rcases v_if h with ⟨c4, h⟩ | ⟨c4, h⟩
    · refine v_i1f (T := 30) rfl rfl (fun q => q c4) ?_
      refine s_ek_bk 1 (P := 20) (ls' := [(0, .ref 3)]) (st' := [.ref 3]) (M' := v_mk s3) rfl ?_
      refine v_gf rfl (v_gr (rfl : v_kd 3 = 5) (rfl : v_sl 3 0 = .ref 4) ⟨rfl, rfl, by decide⟩) ?_
      refine s_ek_bk 1 (P := 25) (ls' := [(0, .ref 3)]) (st' := [.int 40000, .ref 4]) (M' := v_mk s3) rfl ?_
      obtain ⟨r5, s5, e5, h⟩ := v_bd h
      refine v_cV (ν := s_e102.1) (w := 817) (a := 4) (as' := [.int 40000]) (r := []) (o := none) (by omega) rfl rfl rfl (v_mk_kd (k := 7) (rfl : v_kd 4 = 7) (by decide)) rfl (t_Tx_add (rfl : v_kd 4 = 7) e5 (by omega)) ?_
      show s_Ek (s_rows 3 L xs) D s_e72.1 28 [(0, .ref 3)] [] (v_mk s5) _
      refine s_ek_bk 1 (P := 29) (ls' := [(0, .ref 3)]) (st' := [.int 1]) (M' := v_mk s5) rfl ?_
      obtain ⟨rfl, rfl⟩ := v_so h
      exact v_ret (fun _ => rfl)
    · refine v_i1t (T := 30) rfl rfl c4 ?_
      refine s_ek_bk 1 (P := 31) (ls' := [(0, .ref 3)]) (st' := [.ref 3]) (M' := v_mk s3) rfl ?_
      refine v_gf rfl (v_gr (rfl : v_kd 3 = 5) (rfl : v_sl 3 0 = .ref 4) ⟨rfl, rfl, by decide⟩) ?_
      obtain ⟨r6, s6, e6, h⟩ := v_bd h
      refine v_cV (ν := s_e101.1) (w := 808) (a := 4) (as' := []) (r := []) (o := some (.int r6)) (by omega) rfl rfl rfl (v_mk_kd (k := 7) (rfl : v_kd 4 = 7) (by decide)) rfl (t_Tx_length (rfl : v_kd 4 = 7) e6 (by omega)) ?_
      show s_Ek (s_rows 3 L xs) D s_e72.1 37 [(0, .ref 3)] [.int r6] (v_mk s6) _
      refine s_ek_bk 2 (P := 39) (ls' := [(1, .int r6), (0, .ref 3)]) (st' := [.ref 3]) (M' := v_mk s6) rfl ?_
      refine v_gf rfl (v_gr (rfl : v_kd 3 = 5) (rfl : v_sl 3 0 = .ref 4) ⟨rfl, rfl, by decide⟩) ?_
      refine s_ek_bk 1 (P := 45) (ls' := [(1, .int r6), (0, .ref 3)]) (st' := [.int 30000, .ref 4]) (M' := v_mk s6) rfl ?_
      obtain ⟨r7, s7, e7, h⟩ := v_bd h
      refine v_cV (ν := s_e102.1) (w := 817) (a := 4) (as' := [.int 30000]) (r := []) (o := none) (by omega) rfl rfl rfl (v_mk_kd (k := 7) (rfl : v_kd 4 = 7) (by decide)) rfl (t_Tx_add (rfl : v_kd 4 = 7) e7 (by omega)) ?_
      show s_Ek (s_rows 3 L xs) D s_e72.1 48 [(1, .int r6), (0, .ref 3)] [] (v_mk s7) _
      refine s_ek_bk 2 (P := 50) (ls' := [(1, .int r6), (0, .ref 3)]) (st' := [.int 0, .ref 3]) (M' := v_mk s7) rfl ?_
      obtain ⟨r8, s8, e8, h⟩ := v_bd h
      refine v_cV (ν := s_e73.1) (w := 585) (a := 3) (as' := [.int 0]) (r := []) (o := some (.int r8)) (by omega) rfl rfl rfl (v_mk_kd (k := 5) (rfl : v_kd 3 = 5) (by decide)) rfl (t_Rd_either (H := 384) (rec := f_Rd_operand 64) (fun hD e => t_Rd_operand 64 hD e) e8 (by omega)) ?_
      show s_Ek (s_rows 3 L xs) D s_e72.1 53 [(1, .int r6), (0, .ref 3)] [.int r8] (v_mk s8) _
      rcases v_if h with ⟨c9, h⟩ | ⟨c9, h⟩
      · refine v_i1f (T := 58) rfl rfl (fun q => q c9) ?_
        refine s_ek_bk 1 (P := 57) (ls' := [(1, .int r6), (0, .ref 3)]) (st' := [.int 0]) (M' := v_mk s8) rfl ?_
        obtain ⟨rfl, rfl⟩ := v_so h
        exact v_ret (fun _ => rfl)
      · refine v_i1t (T := 58) rfl rfl c9 ?_
        refine s_ek_bk 1 (P := 59) (ls' := [(1, .int r6), (0, .ref 3)]) (st' := [.ref 3]) (M' := v_mk s8) rfl ?_
        refine v_gf rfl (v_gr (rfl : v_kd 3 = 5) (rfl : v_sl 3 0 = .ref 4) ⟨rfl, rfl, by decide⟩) ?_
        refine s_ek_bk 1 (P := 64) (ls' := [(1, .int r6), (0, .ref 3)]) (st' := [.int 40000, .ref 4]) (M' := v_mk s8) rfl ?_
        obtain ⟨r10, s10, e10, h⟩ := v_bd h
        refine v_cV (ν := s_e102.1) (w := 817) (a := 4) (as' := [.int 40000]) (r := []) (o := none) (by omega) rfl rfl rfl (v_mk_kd (k := 7) (rfl : v_kd 4 = 7) (by decide)) rfl (t_Tx_add (rfl : v_kd 4 = 7) e10 (by omega)) ?_
        show s_Ek (s_rows 3 L xs) D s_e72.1 67 [(1, .int r6), (0, .ref 3)] [] (v_mk s10) _
        refine s_ek_bk 1 (P := 68) (ls' := [(1, .int r6), (0, .ref 3)]) (st' := [.ref 3]) (M' := v_mk s10) rfl ?_
        refine v_gf rfl (v_gr (rfl : v_kd 3 = 5) (rfl : v_sl 3 0 = .ref 4) ⟨rfl, rfl, by decide⟩) ?_
        refine s_ek_bk 1 (P := 72) (ls' := [(1, .int r6), (0, .ref 3)]) (st' := [.int r6, .ref 4]) (M' := v_mk s10) rfl ?_
        obtain ⟨r11, s11, e11, h⟩ := v_bd h
        refine v_cV (ν := s_e103.1) (w := 825) (a := 4) (as' := [.int r6]) (r := []) (o := none) (by omega) rfl rfl rfl (v_mk_kd (k := 7) (rfl : v_kd 4 = 7) (by decide)) rfl (t_Tx_aim (rfl : v_kd 4 = 7) e11 (by omega)) ?_
        show s_Ek (s_rows 3 L xs) D s_e72.1 75 [(1, .int r6), (0, .ref 3)] [] (v_mk s11) _
        refine s_ek_bk 1 (P := 76) (ls' := [(1, .int r6), (0, .ref 3)]) (st' := [.int 1]) (M' := v_mk s11) rfl ?_
        obtain ⟨rfl, rfl⟩ := v_so h
        exact v_ret (fun _ => rfl)
noncomputable def f_Rd_lines_L2b (k47 : vS → Option (Int32 × vS)) (again : Int32 → vS → Option (Int32 × vS)) (v1 : Int32) (s : vS) : Option (Int32 × vS) := (if 60 ≤ v1.toInt then (k47 s) else (v_bi (f_Rd_line s) (fun r102 s102 => (if r102.toInt = 0 then (some (0, s102)) else (if (s102.1 3 3).toInt < (s102.1 3 2).toInt then (v_bi (f_Rd_comes 59 s102) (fun r105 s105 => (if r105.toInt = 0 then (some (0, s105)) else (again (v1 + 1) s105)))) else (some (1, s102)))))))
noncomputable def f_Rd_lines_L2 (k47 : vS → Option (Int32 × vS)) (n : Nat) : Int32 → vS → Option (Int32 × vS) := Nat.rec (motive := fun _ => Int32 → vS → Option (Int32 × vS)) (fun _ _ => none) (fun _ again => f_Rd_lines_L2b k47 again) n
noncomputable def f_Rd_lines (s : vS) : Option (Int32 × vS) := (f_Rd_lines_L2 (fun s1 => (some (0, s1))) 4096 0 s)
set_option maxRecDepth 20000 in
set_option maxHeartbeats 4000000 in
theorem t_Rd_lines_L2 {L : Nat} {xs : Nat → Int32} {k47 : vS → Option (Int32 × vS)} {D : Nat} (hD : 391 ≤ D) {r : Int32} {s' : vS} (hk47 : ∀ (s : vS), k47 s = some (r, s') → s_Ek (s_rows 3 L xs) D s_e71.1 47 [] [] (v_mk s) (v_Q (some (.int r)) s')) : ∀ (n : Nat) (v1 : Int32) (s : vS), f_Rd_lines_L2 k47 n v1 s = some (r, s') → s_Ek (s_rows 3 L xs) D s_e71.1 2 [(0, .ref 3), (1, .int v1)] [] (v_mk s) (v_Q (some (.int r)) s') := by
  intro n
  induction n with
  | zero => intro v1 s h; exact nomatch (show (none : Option (Int32 × vS)) = some (r, s') from h)
  | succ n ih =>
    intro v1 s h
    replace h : f_Rd_lines_L2b k47 (f_Rd_lines_L2 k47 n) v1 s = some (r, s') := h
    unfold f_Rd_lines_L2b at h
    refine s_ek_bk 2 (P := 5) (ls' := [(0, .ref 3), (1, .int v1)]) (st' := [.int 60, .int v1]) (M' := v_mk s) rfl ?_
    rcases v_if h with ⟨c101, h⟩ | ⟨c101, h⟩
    · refine v_i2t (T := 47) rfl rfl c101 ?_
      refine v_ls (ls' := []) trivial (show ([] : List Nat).Nodup from by decide) ?_
      exact hk47 _ h
    · refine v_i2f (T := 47) rfl rfl c101 ?_
      refine s_ek_bk 1 (P := 9) (ls' := [(0, .ref 3), (1, .int v1)]) (st' := [.ref 3]) (M' := v_mk s) rfl ?_
      obtain ⟨r102, s102, e102, h⟩ := v_bd h
      refine v_cV (ν := s_e72.1) (w := 576) (a := 3) (as' := []) (r := []) (o := some (.int r102)) (by omega) rfl rfl rfl (v_mk_kd (k := 5) (rfl : v_kd 3 = 5) (by decide)) rfl (t_Rd_line e102 (by omega)) ?_
      show s_Ek (s_rows 3 L xs) D s_e71.1 12 [(0, .ref 3), (1, .int v1)] [.int r102] (v_mk s102) _
      rcases v_if h with ⟨c103, h⟩ | ⟨c103, h⟩
      · refine v_i1f (T := 17) rfl rfl (fun q => q c103) ?_
        refine s_ek_bk 1 (P := 16) (ls' := [(0, .ref 3), (1, .int v1)]) (st' := [.int 0]) (M' := v_mk s102) rfl ?_
        obtain ⟨rfl, rfl⟩ := v_so h
        exact v_ret (fun _ => rfl)
      · refine v_i1t (T := 17) rfl rfl c103 ?_
        refine s_ek_bk 1 (P := 18) (ls' := [(0, .ref 3), (1, .int v1)]) (st' := [.ref 3]) (M' := v_mk s102) rfl ?_
        refine v_gf rfl (v_gi (rfl : v_kd 3 = 5) rfl ⟨rfl, rfl, by decide⟩) ?_
        refine s_ek_bk 1 (P := 22) (ls' := [(0, .ref 3), (1, .int v1)]) (st' := [.ref 3, .int (s102.1 3 3)]) (M' := v_mk s102) rfl ?_
        refine v_gf rfl (v_gi (rfl : v_kd 3 = 5) rfl ⟨rfl, rfl, by decide⟩) ?_
        rcases v_if h with ⟨c104, h⟩ | ⟨c104, h⟩
        · refine v_i2t (T := 30) rfl rfl c104 ?_
          refine s_ek_bk 2 (P := 33) (ls' := [(0, .ref 3), (1, .int v1)]) (st' := [.int 59, .ref 3]) (M' := v_mk s102) rfl ?_
          obtain ⟨r105, s105, e105, h⟩ := v_bd h
          refine v_cV (ν := s_e69.1) (w := 553) (a := 3) (as' := [.int 59]) (r := []) (o := some (.int r105)) (by omega) rfl rfl rfl (v_mk_kd (k := 5) (rfl : v_kd 3 = 5) (by decide)) rfl (t_Rd_comes e105 (by omega)) ?_
          show s_Ek (s_rows 3 L xs) D s_e71.1 36 [(0, .ref 3), (1, .int v1)] [.int r105] (v_mk s105) _
          rcases v_if h with ⟨c106, h⟩ | ⟨c106, h⟩
          · refine v_i1f (T := 41) rfl rfl (fun q => q c106) ?_
            refine s_ek_bk 1 (P := 40) (ls' := [(0, .ref 3), (1, .int v1)]) (st' := [.int 0]) (M' := v_mk s105) rfl ?_
            obtain ⟨rfl, rfl⟩ := v_so h
            exact v_ret (fun _ => rfl)
          · refine v_i1t (T := 41) rfl rfl c106 ?_
            refine s_ek_bk 2 (P := 2) (ls' := [(1, .int (v1 + 1)), (0, .ref 3)]) (st' := []) (M' := v_mk s105) rfl ?_
            refine v_ls (ls' := [(0, .ref 3), (1, .int (v1 + 1))]) ⟨rfl, rfl, trivial⟩ (show ([0, 1] : List Nat).Nodup from by decide) ?_
            exact ih _ _ h
        · refine v_i2f (T := 30) rfl rfl c104 ?_
          refine s_ek_bk 1 (P := 29) (ls' := [(0, .ref 3), (1, .int v1)]) (st' := [.int 1]) (M' := v_mk s102) rfl ?_
          obtain ⟨rfl, rfl⟩ := v_so h
          exact v_ret (fun _ => rfl)
set_option maxRecDepth 20000 in
set_option maxHeartbeats 4000000 in
theorem t_Rd_lines {L : Nat} {xs : Nat → Int32} {D : Nat} {r : Int32} {s s' : vS} (h : f_Rd_lines s = some (r, s')) (hD : 391 ≤ D) : s_Ek (s_rows 3 L xs) D s_e71.1 0 (lv_args 0 [.ref 3]) [] (v_mk s) (v_Q (some (.int r)) s') := by
  unfold f_Rd_lines at h
  show s_Ek (s_rows 3 L xs) D s_e71.1 0 [(0, .ref 3)] [] (v_mk s) _
  refine s_ek_bk 2 (P := 2) (ls' := [(1, .int 0), (0, .ref 3)]) (st' := []) (M' := v_mk s) rfl ?_
  refine v_ls (ls' := [(0, .ref 3), (1, .int 0)]) ⟨rfl, rfl, trivial⟩ (show ([0, 1] : List Nat).Nodup from by decide) ?_
  refine t_Rd_lines_L2 (by omega) (fun s1 h => ?_) 4096 _ _ h
  show s_Ek (s_rows 3 L xs) D s_e71.1 47 [] [] (v_mk s1) _
  refine s_ek_bk 1 (P := 48) (ls' := []) (st' := [.int 0]) (M' := v_mk s1) rfl ?_
  obtain ⟨rfl, rfl⟩ := v_so h
  exact v_ret (fun _ => rfl)
noncomputable def f_Tx_clear (a : Nat) (s : vS) : Option (Unit × vS) := (v_let (v_w1 s a 2 0) (fun s1 => (some ((), s1))))
set_option maxRecDepth 20000 in
set_option maxHeartbeats 4000000 in
theorem t_Tx_clear {L : Nat} {xs : Nat → Int32} {a : Nat} (ha : v_kd a = 7) {D : Nat} {r : Unit} {s s' : vS} (h : f_Tx_clear a s = some (r, s')) (hD : 0 ≤ D) : s_Ek (s_rows 3 L xs) D s_e100.1 0 (lv_args 0 [.ref a]) [] (v_mk s) (v_Q none s') := by
  unfold f_Tx_clear at h
  show s_Ek (s_rows 3 L xs) D s_e100.1 0 [(0, .ref a)] [] (v_mk s) _
  refine s_ek_bk 2 (P := 2) (ls' := [(0, .ref a)]) (st' := [.int 0, .ref a]) (M' := v_mk s) rfl ?_
  obtain ⟨s1, es1, h⟩ := v_ld h
  refine v_pf (M' := v_mk s1) rfl (by rw [es1]; exact v_pi ha (v_tK (j := 2) v_is7 (by decide) ha) ⟨rfl, rfl, by decide⟩ rfl) ?_
  obtain ⟨rfl, rfl⟩ := v_so h
  exact v_ret (fun _ => rfl)
noncomputable def f_Rd_read (b : Nat) (c : Int32) (s : vS) : Option (Int32 × vS) := (v_let (v_w1 s 3 2 (if (0 : Int32) < (if (if (60 : Int32) < (Int32.ofNat (v_ln b)) then 60 else (Int32.ofNat (v_ln b))) < c then (if (60 : Int32) < (Int32.ofNat (v_ln b)) then 60 else (Int32.ofNat (v_ln b))) else c) then (if (if (60 : Int32) < (Int32.ofNat (v_ln b)) then 60 else (Int32.ofNat (v_ln b))) < c then (if (60 : Int32) < (Int32.ofNat (v_ln b)) then 60 else (Int32.ofNat (v_ln b))) else c) else 0)) (fun s1 => (if v_cok (0 : Int32) (0 : Int32) (s1.1 3 2) (v_ln b) 60 then (v_let (v_cp1 s1 b 0 7 0 (Int32.toNatClampNeg (s1.1 3 2))) (fun s3 => (v_let (v_w1 s3 3 3 0) (fun s4 => (v_bi (f_Tx_clear 4 s4) (fun _ s5 => (v_bi (f_Rd_lines s5) (fun r6 s6 => (if r6.toInt = 0 then (some ((s6.1 3 3), s6)) else (some ((-1), s6))))))))))) else none)))
set_option maxRecDepth 20000 in
set_option maxHeartbeats 4000000 in
theorem t_Rd_read {L : Nat} {xs : Nat → Int32} {b : Nat} {c : Int32} (hb : v_kd b = 13) {D : Nat} {r : Int32} {s s' : vS} (h : f_Rd_read b c s = some (r, s')) (hD : 392 ≤ D) : s_Ek (s_rows 3 L xs) D s_e68.1 0 (lv_args 0 [.ref 3, .ref b, .int c]) [] (v_mk s) (v_Q (some (.int r)) s') := by
  unfold f_Rd_read at h
  show s_Ek (s_rows 3 L xs) D s_e68.1 0 [(0, .ref 3), (1, .ref b), (2, .int c)] [] (v_mk s) _
  refine s_ek_bk 4 (P := 4) (ls' := [(0, .ref 3), (1, .ref b), (2, .int c)]) (st' := [.ref b, .int c, .int 0, .ref 3]) (M' := v_mk s) rfl ?_
  refine v_alen rfl (v_len hb (by decide)) ?_
  refine s_ek_bk 1 (P := 6) (ls' := [(0, .ref 3), (1, .ref b), (2, .int c)]) (st' := [.ref 3, .int (Int32.ofNat (v_ln b)), .int c, .int 0, .ref 3]) (M' := v_mk s) rfl ?_
  refine v_gf rfl (v_gr (rfl : v_kd 3 = 5) (rfl : v_sl 3 1 = .ref 7) ⟨rfl, rfl, by decide⟩) ?_
  refine v_alen (x := 60) rfl (by rw [v_len (rfl : v_kd 7 = 13) (by decide), (rfl : v_ln 7 = 60)]; rfl) ?_
  refine v_min (by omega) rfl rfl ?_
  refine v_min (by omega) rfl rfl ?_
  refine v_max (by omega) rfl rfl ?_
  obtain ⟨s1, es1, h⟩ := v_ld h
  refine v_pf (M' := v_mk s1) rfl (by rw [es1]; exact v_pi (rfl : v_kd 3 = 5) rfl ⟨rfl, rfl, by decide⟩ rfl) ?_
  refine s_ek_bk 3 (P := 25) (ls' := [(0, .ref 3), (1, .ref b), (2, .int c)]) (st' := [.ref 3, .int 0, .ref b]) (M' := v_mk s1) rfl ?_
  refine v_gf rfl (v_gr (rfl : v_kd 3 = 5) (rfl : v_sl 3 1 = .ref 7) ⟨rfl, rfl, by decide⟩) ?_
  refine s_ek_bk 2 (P := 30) (ls' := [(0, .ref 3), (1, .ref b), (2, .int c)]) (st' := [.ref 3, .int 0, .ref 7, .int 0, .ref b]) (M' := v_mk s1) rfl ?_
  refine v_gf rfl (v_gi (rfl : v_kd 3 = 5) rfl ⟨rfl, rfl, by decide⟩) ?_
  obtain ⟨c2, h⟩ := v_ck h
  obtain ⟨s3, es3, h⟩ := v_ld h
  refine v_acp (by omega) (M2 := v_mk s3) (r := []) rfl (by rw [es3]; exact v_ac1 hb (rfl : v_kd 7 = 13) (v_ckn rfl (rfl : v_ln 7 = 60) c2) rfl) v_keep ?_
  refine s_ek_bk 2 (P := 38) (ls' := [(0, .ref 3), (1, .ref b), (2, .int c)]) (st' := [.int 0, .ref 3]) (M' := v_mk s3) rfl ?_
  obtain ⟨s4, es4, h⟩ := v_ld h
  refine v_pf (M' := v_mk s4) rfl (by rw [es4]; exact v_pi (rfl : v_kd 3 = 5) rfl ⟨rfl, rfl, by decide⟩ rfl) ?_
  refine s_ek_bk 1 (P := 42) (ls' := [(0, .ref 3), (1, .ref b), (2, .int c)]) (st' := [.ref 3]) (M' := v_mk s4) rfl ?_
  refine v_gf rfl (v_gr (rfl : v_kd 3 = 5) (rfl : v_sl 3 0 = .ref 4) ⟨rfl, rfl, by decide⟩) ?_
  obtain ⟨r5, s5, e5, h⟩ := v_bd h
  refine v_cV (ν := s_e100.1) (w := 800) (a := 4) (as' := []) (r := []) (o := none) (by omega) rfl rfl rfl (v_mk_kd (k := 7) (rfl : v_kd 4 = 7) (by decide)) rfl (t_Tx_clear (rfl : v_kd 4 = 7) e5 (by omega)) ?_
  show s_Ek (s_rows 3 L xs) D s_e68.1 48 [(0, .ref 3), (1, .ref b), (2, .int c)] [] (v_mk s5) _
  refine s_ek_bk 1 (P := 49) (ls' := [(0, .ref 3), (1, .ref b), (2, .int c)]) (st' := [.ref 3]) (M' := v_mk s5) rfl ?_
  obtain ⟨r6, s6, e6, h⟩ := v_bd h
  refine v_cV (ν := s_e71.1) (w := 568) (a := 3) (as' := []) (r := []) (o := some (.int r6)) (by omega) rfl rfl rfl (v_mk_kd (k := 5) (rfl : v_kd 3 = 5) (by decide)) rfl (t_Rd_lines e6 (by omega)) ?_
  show s_Ek (s_rows 3 L xs) D s_e68.1 52 [(0, .ref 3), (1, .ref b), (2, .int c)] [.int r6] (v_mk s6) _
  rcases v_if h with ⟨c7, h⟩ | ⟨c7, h⟩
  · refine v_i1t (T := 59) rfl rfl c7 ?_
    refine s_ek_bk 1 (P := 60) (ls' := [(0, .ref 3), (1, .ref b), (2, .int c)]) (st' := [.ref 3]) (M' := v_mk s6) rfl ?_
    refine v_gf rfl (v_gi (rfl : v_kd 3 = 5) rfl ⟨rfl, rfl, by decide⟩) ?_
    obtain ⟨rfl, rfl⟩ := v_so h
    exact v_ret (fun _ => rfl)
  · refine v_i1f (T := 59) rfl rfl c7 ?_
    refine s_ek_bk 2 (P := 63) (ls' := [(0, .ref 3), (1, .ref b), (2, .int c)]) (st' := [.int (-1)]) (M' := v_mk s6) rfl ?_
    obtain ⟨rfl, rfl⟩ := v_so h
    exact v_ret (fun _ => rfl)
noncomputable def f_Sh_isSort (b : Int32) (s : vS) : Option (Int32 × vS) := (if b.toInt < 0 then (some (0, s)) else (if 4 < b.toInt then (some (0, s)) else (some (1, s))))
set_option maxRecDepth 20000 in
set_option maxHeartbeats 4000000 in
theorem t_Sh_isSort {L : Nat} {xs : Nat → Int32} {b : Int32} {D : Nat} {r : Int32} {s s' : vS} (h : f_Sh_isSort b s = some (r, s')) (hD : 0 ≤ D) : s_Ek (s_rows 3 L xs) D s_e83.1 0 (lv_args 0 [.int b]) [] (v_mk s) (v_Q (some (.int r)) s') := by
  unfold f_Sh_isSort at h
  show s_Ek (s_rows 3 L xs) D s_e83.1 0 [(0, .int b)] [] (v_mk s) _
  refine s_ek_bk 1 (P := 1) (ls' := [(0, .int b)]) (st' := [.int b]) (M' := v_mk s) rfl ?_
  rcases v_if h with ⟨c1, h⟩ | ⟨c1, h⟩
  · refine v_i1t (T := 13) rfl rfl c1 ?_
    refine s_ek_bk 1 (P := 14) (ls' := [(0, .int b)]) (st' := [.int 0]) (M' := v_mk s) rfl ?_
    obtain ⟨rfl, rfl⟩ := v_so h
    exact v_ret (fun _ => rfl)
  · refine v_i1f (T := 13) rfl rfl c1 ?_
    refine s_ek_bk 2 (P := 6) (ls' := [(0, .int b)]) (st' := [.int 4, .int b]) (M' := v_mk s) rfl ?_
    rcases v_if h with ⟨c2, h⟩ | ⟨c2, h⟩
    · refine v_i2t (T := 13) rfl rfl c2 ?_
      refine s_ek_bk 1 (P := 14) (ls' := [(0, .int b)]) (st' := [.int 0]) (M' := v_mk s) rfl ?_
      obtain ⟨rfl, rfl⟩ := v_so h
      exact v_ret (fun _ => rfl)
    · refine v_i2f (T := 13) rfl rfl c2 ?_
      refine s_ek_bk 2 (P := 14) (ls' := [(0, .int b)]) (st' := [.int 1]) (M' := v_mk s) rfl ?_
      obtain ⟨rfl, rfl⟩ := v_so h
      exact v_ret (fun _ => rfl)
noncomputable def f_Sh_isBare (a : Nat) (s : vS) : Option (Int32 × vS) := (if (s.1 a 0).toInt = (-1) then (some (1, s)) else (some (0, s)))
set_option maxRecDepth 20000 in
set_option maxHeartbeats 4000000 in
theorem t_Sh_isBare {L : Nat} {xs : Nat → Int32} {a : Nat} (ha : v_kd a = 6) {D : Nat} {r : Int32} {s s' : vS} (h : f_Sh_isBare a s = some (r, s')) (hD : 0 ≤ D) : s_Ek (s_rows 3 L xs) D s_e84.1 0 (lv_args 0 [.ref a]) [] (v_mk s) (v_Q (some (.int r)) s') := by
  unfold f_Sh_isBare at h
  show s_Ek (s_rows 3 L xs) D s_e84.1 0 [(0, .ref a)] [] (v_mk s) _
  refine s_ek_bk 1 (P := 1) (ls' := [(0, .ref a)]) (st' := [.ref a]) (M' := v_mk s) rfl ?_
  refine v_gf rfl (v_gi ha (v_tK (j := 0) v_is6 (by decide) ha) ⟨rfl, rfl, by decide⟩) ?_
  refine s_ek_bk 1 (P := 5) (ls' := [(0, .ref a)]) (st' := [.int (-1), .int (s.1 a 0)]) (M' := v_mk s) rfl ?_
  rcases v_if h with ⟨c1, h⟩ | ⟨c1, h⟩
  · refine v_i2f (T := 12) rfl rfl (fun q => q c1) ?_
    refine s_ek_bk 2 (P := 13) (ls' := [(0, .ref a)]) (st' := [.int 1]) (M' := v_mk s) rfl ?_
    obtain ⟨rfl, rfl⟩ := v_so h
    exact v_ret (fun _ => rfl)
  · refine v_i2t (T := 12) rfl rfl c1 ?_
    refine s_ek_bk 1 (P := 13) (ls' := [(0, .ref a)]) (st' := [.int 0]) (M' := v_mk s) rfl ?_
    obtain ⟨rfl, rfl⟩ := v_so h
    exact v_ret (fun _ => rfl)
noncomputable def f_Sh_isRow (a : Nat) (s : vS) : Option (Int32 × vS) := (v_bi (f_Sh_isSort (s.1 a 0) s) (fun r1 s1 => (if r1 = 0 ∨ r1 = 1 then some (r1, s1) else none)))
set_option maxRecDepth 20000 in
set_option maxHeartbeats 4000000 in
theorem t_Sh_isRow {L : Nat} {xs : Nat → Int32} {a : Nat} (ha : v_kd a = 6) {D : Nat} {r : Int32} {s s' : vS} (h : f_Sh_isRow a s = some (r, s')) (hD : 1 ≤ D) : s_Ek (s_rows 3 L xs) D s_e85.1 0 (lv_args 0 [.ref a]) [] (v_mk s) (v_Q (some (.int r)) s') := by
  unfold f_Sh_isRow at h
  show s_Ek (s_rows 3 L xs) D s_e85.1 0 [(0, .ref a)] [] (v_mk s) _
  refine s_ek_bk 1 (P := 1) (ls' := [(0, .ref a)]) (st' := [.ref a]) (M' := v_mk s) rfl ?_
  refine v_gf rfl (v_gi ha (v_tK (j := 0) v_is6 (by decide) ha) ⟨rfl, rfl, by decide⟩) ?_
  obtain ⟨r1, s1, e1, h⟩ := v_bd h
  refine v_cS (ν := s_e83.1) (w := 665) (as := [.int (s.1 a 0)]) (r := []) (o := some (.int r1)) (by omega) rfl rfl rfl rfl (t_Sh_isSort e1 (by omega)) ?_
  show s_Ek (s_rows 3 L xs) D s_e85.1 7 [(0, .ref a)] [.int r1] (v_mk s1) _
  obtain ⟨c2, h⟩ := v_ck h
  obtain ⟨rfl, rfl⟩ := v_so h
  exact v_zret rfl rfl c2
noncomputable def f_Sh_bare (a : Nat) (s : vS) : Option (Unit × vS) := (v_let (v_w1 s a 0 (-1)) (fun s1 => (some ((), s1))))
set_option maxRecDepth 20000 in
set_option maxHeartbeats 4000000 in
theorem t_Sh_bare {L : Nat} {xs : Nat → Int32} {a : Nat} (ha : v_kd a = 6) {D : Nat} {r : Unit} {s s' : vS} (h : f_Sh_bare a s = some (r, s')) (hD : 0 ≤ D) : s_Ek (s_rows 3 L xs) D s_e86.1 0 (lv_args 0 [.ref a]) [] (v_mk s) (v_Q none s') := by
  unfold f_Sh_bare at h
  show s_Ek (s_rows 3 L xs) D s_e86.1 0 [(0, .ref a)] [] (v_mk s) _
  refine s_ek_bk 2 (P := 2) (ls' := [(0, .ref a)]) (st' := [.int (-1), .ref a]) (M' := v_mk s) rfl ?_
  obtain ⟨s1, es1, h⟩ := v_ld h
  refine v_pf (M' := v_mk s1) rfl (by rw [es1]; exact v_pi ha (v_tK (j := 0) v_is6 (by decide) ha) ⟨rfl, rfl, by decide⟩ rfl) ?_
  obtain ⟨rfl, rfl⟩ := v_so h
  exact v_ret (fun _ => rfl)
noncomputable def f_Sh_takeBody (a : Nat) (b : Int32) (s : vS) : Option (Unit × vS) := (v_let (v_w1 s a 0 5) (fun s1 => (v_let (v_w1 s1 a 1 b) (fun s2 => (some ((), s2))))))
set_option maxRecDepth 20000 in
set_option maxHeartbeats 4000000 in
theorem t_Sh_takeBody {L : Nat} {xs : Nat → Int32} {a : Nat} {b : Int32} (ha : v_kd a = 6) {D : Nat} {r : Unit} {s s' : vS} (h : f_Sh_takeBody a b s = some (r, s')) (hD : 0 ≤ D) : s_Ek (s_rows 3 L xs) D s_e87.1 0 (lv_args 0 [.ref a, .int b]) [] (v_mk s) (v_Q none s') := by
  unfold f_Sh_takeBody at h
  show s_Ek (s_rows 3 L xs) D s_e87.1 0 [(0, .ref a), (1, .int b)] [] (v_mk s) _
  refine s_ek_bk 2 (P := 2) (ls' := [(0, .ref a), (1, .int b)]) (st' := [.int 5, .ref a]) (M' := v_mk s) rfl ?_
  obtain ⟨s1, es1, h⟩ := v_ld h
  refine v_pf (M' := v_mk s1) rfl (by rw [es1]; exact v_pi ha (v_tK (j := 0) v_is6 (by decide) ha) ⟨rfl, rfl, by decide⟩ rfl) ?_
  refine s_ek_bk 2 (P := 7) (ls' := [(0, .ref a), (1, .int b)]) (st' := [.int b, .ref a]) (M' := v_mk s1) rfl ?_
  obtain ⟨s2, es2, h⟩ := v_ld h
  refine v_pf (M' := v_mk s2) rfl (by rw [es2]; exact v_pi ha (v_tK (j := 1) v_is6 (by decide) ha) ⟨rfl, rfl, by decide⟩ rfl) ?_
  obtain ⟨rfl, rfl⟩ := v_so h
  exact v_ret (fun _ => rfl)
noncomputable def f_Sh_takeRow_L12b (p0 : Nat) (k34 : vS → Option (Unit × vS)) (again : Int32 → vS → Option (Unit × vS)) (v3 : Int32) (s : vS) : Option (Unit × vS) := (if 60 ≤ v3.toInt then (k34 s) else (if v_in v3 60 then (v_let (v_w2 s (p0 + 1) (Int32.toNatClampNeg v3) 0) (fun s105 => (again (v3 + 1) s105))) else none))
noncomputable def f_Sh_takeRow_L12 (p0 : Nat) (k34 : vS → Option (Unit × vS)) (n : Nat) : Int32 → vS → Option (Unit × vS) := Nat.rec (motive := fun _ => Int32 → vS → Option (Unit × vS)) (fun _ _ => none) (fun _ again => f_Sh_takeRow_L12b p0 k34 again) n
noncomputable def f_Sh_takeRow (a : Nat) (b : Int32) (c : Int32) (s : vS) : Option (Unit × vS) := (v_let (v_w1 s a 0 b) (fun s1 => (v_let (v_w1 s1 a 2 c) (fun s2 => (f_Sh_takeRow_L12 a (fun s3 => (some ((), s3))) 4096 0 s2)))))
set_option maxRecDepth 20000 in
set_option maxHeartbeats 4000000 in
theorem t_Sh_takeRow_L12 {L : Nat} {xs : Nat → Int32} {p0 : Nat} (hp0 : v_kd p0 = 6) {k34 : vS → Option (Unit × vS)} {D : Nat} (hD : 0 ≤ D) {r : Unit} {s' : vS} (hk34 : ∀ (s : vS), k34 s = some (r, s') → s_Ek (s_rows 3 L xs) D s_e88.1 34 [] [] (v_mk s) (v_Q none s')) : ∀ (n : Nat) (v3 : Int32) (s : vS), f_Sh_takeRow_L12 p0 k34 n v3 s = some (r, s') → s_Ek (s_rows 3 L xs) D s_e88.1 12 [(0, .ref p0), (3, .int v3)] [] (v_mk s) (v_Q none s') := by
  intro n
  induction n with
  | zero => intro v3 s h; exact nomatch (show (none : Option (Unit × vS)) = some (r, s') from h)
  | succ n ih =>
    intro v3 s h
    replace h : f_Sh_takeRow_L12b p0 k34 (f_Sh_takeRow_L12 p0 k34 n) v3 s = some (r, s') := h
    unfold f_Sh_takeRow_L12b at h
    refine s_ek_bk 2 (P := 14) (ls' := [(0, .ref p0), (3, .int v3)]) (st' := [.ref p0, .int v3]) (M' := v_mk s) rfl ?_
    refine v_gf rfl (v_gr hp0 (v_rK v_r6_3 (by decide) hp0).1 ⟨rfl, rfl, by decide⟩) ?_
    refine v_alen (x := 60) rfl (by rw [v_len (v_rK v_r6_3 (by decide) hp0).2.1 (by decide), (v_rK v_r6_3 (by decide) hp0).2.2]; rfl) ?_
    rcases v_if h with ⟨c103, h⟩ | ⟨c103, h⟩
    · refine v_i2t (T := 34) rfl rfl c103 ?_
      refine v_ls (ls' := []) trivial (show ([] : List Nat).Nodup from by decide) ?_
      exact hk34 _ h
    · refine v_i2f (T := 34) rfl rfl c103 ?_
      refine s_ek_bk 1 (P := 22) (ls' := [(0, .ref p0), (3, .int v3)]) (st' := [.ref p0]) (M' := v_mk s) rfl ?_
      refine v_gf rfl (v_gr hp0 (v_rK v_r6_3 (by decide) hp0).1 ⟨rfl, rfl, by decide⟩) ?_
      refine s_ek_bk 2 (P := 27) (ls' := [(0, .ref p0), (3, .int v3)]) (st' := [.long 0, .int v3, .ref (p0 + 1)]) (M' := v_mk s) rfl ?_
      obtain ⟨c104, h⟩ := v_ck h
      obtain ⟨s105, es105, h⟩ := v_ld h
      refine v_lst (M' := v_mk s105) (i := v3) rfl (by rw [es105]; exact v_pal (v_rK v_r6_3 (by decide) hp0).2.1 rfl (by decide) v_all14 (v_cn (v_rK v_r6_3 (by decide) hp0).2.2 c104)) ?_
      refine s_ek_bk 2 (P := 12) (ls' := [(3, .int (v3 + 1)), (0, .ref p0)]) (st' := []) (M' := v_mk s105) rfl ?_
      refine v_ls (ls' := [(0, .ref p0), (3, .int (v3 + 1))]) ⟨rfl, rfl, trivial⟩ (show ([0, 3] : List Nat).Nodup from by decide) ?_
      exact ih _ _ h
set_option maxRecDepth 20000 in
set_option maxHeartbeats 4000000 in
theorem t_Sh_takeRow {L : Nat} {xs : Nat → Int32} {a : Nat} {b : Int32} {c : Int32} (ha : v_kd a = 6) {D : Nat} {r : Unit} {s s' : vS} (h : f_Sh_takeRow a b c s = some (r, s')) (hD : 0 ≤ D) : s_Ek (s_rows 3 L xs) D s_e88.1 0 (lv_args 0 [.ref a, .int b, .int c]) [] (v_mk s) (v_Q none s') := by
  unfold f_Sh_takeRow at h
  show s_Ek (s_rows 3 L xs) D s_e88.1 0 [(0, .ref a), (1, .int b), (2, .int c)] [] (v_mk s) _
  refine s_ek_bk 2 (P := 2) (ls' := [(0, .ref a), (1, .int b), (2, .int c)]) (st' := [.int b, .ref a]) (M' := v_mk s) rfl ?_
  obtain ⟨s1, es1, h⟩ := v_ld h
  refine v_pf (M' := v_mk s1) rfl (by rw [es1]; exact v_pi ha (v_tK (j := 0) v_is6 (by decide) ha) ⟨rfl, rfl, by decide⟩ rfl) ?_
  refine s_ek_bk 2 (P := 7) (ls' := [(0, .ref a), (1, .int b), (2, .int c)]) (st' := [.int c, .ref a]) (M' := v_mk s1) rfl ?_
  obtain ⟨s2, es2, h⟩ := v_ld h
  refine v_pf (M' := v_mk s2) rfl (by rw [es2]; exact v_pi ha (v_tK (j := 2) v_is6 (by decide) ha) ⟨rfl, rfl, by decide⟩ rfl) ?_
  refine s_ek_bk 2 (P := 12) (ls' := [(3, .int 0), (0, .ref a), (1, .int b), (2, .int c)]) (st' := []) (M' := v_mk s2) rfl ?_
  refine v_ls (ls' := [(0, .ref a), (3, .int 0)]) ⟨rfl, rfl, trivial⟩ (show ([0, 3] : List Nat).Nodup from by decide) ?_
  refine t_Sh_takeRow_L12 ha (by omega) (fun s3 h => ?_) 4096 _ _ h
  show s_Ek (s_rows 3 L xs) D s_e88.1 34 [] [] (v_mk s3) _
  obtain ⟨rfl, rfl⟩ := v_so h
  exact v_ret (fun _ => rfl)
noncomputable def f_Sh_hasPlaces (a : Nat) (b : Int32) (c : Int32) (s : vS) : Option (Int32 × vS) := (if b.toInt < 0 then (some (0, s)) else (if c.toInt < 0 then (some (0, s)) else (if (s.1 a 2).toInt < c.toInt then (some (0, s)) else (if ((s.1 a 2) - c).toInt < b.toInt then (some (0, s)) else (some (1, s))))))
set_option maxRecDepth 20000 in
set_option maxHeartbeats 4000000 in
theorem t_Sh_hasPlaces {L : Nat} {xs : Nat → Int32} {a : Nat} {b : Int32} {c : Int32} (ha : v_kd a = 6) {D : Nat} {r : Int32} {s s' : vS} (h : f_Sh_hasPlaces a b c s = some (r, s')) (hD : 0 ≤ D) : s_Ek (s_rows 3 L xs) D s_e89.1 0 (lv_args 0 [.ref a, .int b, .int c]) [] (v_mk s) (v_Q (some (.int r)) s') := by
  unfold f_Sh_hasPlaces at h
  show s_Ek (s_rows 3 L xs) D s_e89.1 0 [(0, .ref a), (1, .int b), (2, .int c)] [] (v_mk s) _
  refine s_ek_bk 1 (P := 1) (ls' := [(0, .ref a), (1, .int b), (2, .int c)]) (st' := [.int b]) (M' := v_mk s) rfl ?_
  rcases v_if h with ⟨c1, h⟩ | ⟨c1, h⟩
  · refine v_i1t (T := 30) rfl rfl c1 ?_
    refine s_ek_bk 1 (P := 31) (ls' := [(0, .ref a), (1, .int b), (2, .int c)]) (st' := [.int 0]) (M' := v_mk s) rfl ?_
    obtain ⟨rfl, rfl⟩ := v_so h
    exact v_ret (fun _ => rfl)
  · refine v_i1f (T := 30) rfl rfl c1 ?_
    refine s_ek_bk 1 (P := 5) (ls' := [(0, .ref a), (1, .int b), (2, .int c)]) (st' := [.int c]) (M' := v_mk s) rfl ?_
    rcases v_if h with ⟨c2, h⟩ | ⟨c2, h⟩
    · refine v_i1t (T := 30) rfl rfl c2 ?_
      refine s_ek_bk 1 (P := 31) (ls' := [(0, .ref a), (1, .int b), (2, .int c)]) (st' := [.int 0]) (M' := v_mk s) rfl ?_
      obtain ⟨rfl, rfl⟩ := v_so h
      exact v_ret (fun _ => rfl)
    · refine v_i1f (T := 30) rfl rfl c2 ?_
      refine s_ek_bk 2 (P := 10) (ls' := [(0, .ref a), (1, .int b), (2, .int c)]) (st' := [.ref a, .int c]) (M' := v_mk s) rfl ?_
      refine v_gf rfl (v_gi ha (v_tK (j := 2) v_is6 (by decide) ha) ⟨rfl, rfl, by decide⟩) ?_
      rcases v_if h with ⟨c3, h⟩ | ⟨c3, h⟩
      · refine v_i2t (T := 30) rfl rfl c3 ?_
        refine s_ek_bk 1 (P := 31) (ls' := [(0, .ref a), (1, .int b), (2, .int c)]) (st' := [.int 0]) (M' := v_mk s) rfl ?_
        obtain ⟨rfl, rfl⟩ := v_so h
        exact v_ret (fun _ => rfl)
      · refine v_i2f (T := 30) rfl rfl c3 ?_
        refine s_ek_bk 2 (P := 18) (ls' := [(0, .ref a), (1, .int b), (2, .int c)]) (st' := [.ref a, .int b]) (M' := v_mk s) rfl ?_
        refine v_gf rfl (v_gi ha (v_tK (j := 2) v_is6 (by decide) ha) ⟨rfl, rfl, by decide⟩) ?_
        refine s_ek_bk 2 (P := 23) (ls' := [(0, .ref a), (1, .int b), (2, .int c)]) (st' := [.int ((s.1 a 2) - c), .int b]) (M' := v_mk s) rfl ?_
        rcases v_if h with ⟨c4, h⟩ | ⟨c4, h⟩
        · refine v_i2t (T := 30) rfl rfl c4 ?_
          refine s_ek_bk 1 (P := 31) (ls' := [(0, .ref a), (1, .int b), (2, .int c)]) (st' := [.int 0]) (M' := v_mk s) rfl ?_
          obtain ⟨rfl, rfl⟩ := v_so h
          exact v_ret (fun _ => rfl)
        · refine v_i2f (T := 30) rfl rfl c4 ?_
          refine s_ek_bk 2 (P := 31) (ls' := [(0, .ref a), (1, .int b), (2, .int c)]) (st' := [.int 1]) (M' := v_mk s) rfl ?_
          obtain ⟨rfl, rfl⟩ := v_so h
          exact v_ret (fun _ => rfl)
noncomputable def f_Sh_cut (a : Nat) (b : Int64) (s : vS) : Option (Int64 × vS) := (if (s.1 a 0).toInt < 0 ∨ 3 < (s.1 a 0).toInt then (if (lg_cmp b (0 : Int64)).toInt = 0 then (some (0, s)) else (some (1, s))) else (if (s.1 a 0).toInt = 0 then (some ((Int32.toInt64 (Int8.toInt32 (Int32.toInt8 (Int64.toInt32 b)))), s)) else (if (s.1 a 0).toInt = 1 then (some ((Int32.toInt64 (Int16.toInt32 (Int32.toInt16 (Int64.toInt32 b)))), s)) else (if (s.1 a 0).toInt = 2 then (some ((Int32.toInt64 (Int64.toInt32 b)), s)) else (some (b, s))))))
set_option maxRecDepth 20000 in
set_option maxHeartbeats 4000000 in
theorem t_Sh_cut {L : Nat} {xs : Nat → Int32} {a : Nat} {b : Int64} (ha : v_kd a = 6) {D : Nat} {r : Int64} {s s' : vS} (h : f_Sh_cut a b s = some (r, s')) (hD : 0 ≤ D) : s_Ek (s_rows 3 L xs) D s_e92.1 0 (lv_args 0 [.ref a, .long b]) [] (v_mk s) (v_Q (some (.long r)) s') := by
  unfold f_Sh_cut at h
  show s_Ek (s_rows 3 L xs) D s_e92.1 0 [(0, .ref a), (1, .long b)] [] (v_mk s) _
  refine s_ek_bk 1 (P := 1) (ls' := [(0, .ref a), (1, .long b)]) (st' := [.ref a]) (M' := v_mk s) rfl ?_
  refine v_gf rfl (v_gi ha (v_tK (j := 0) v_is6 (by decide) ha) ⟨rfl, rfl, by decide⟩) ?_
  rcases v_if h with ⟨c1, h⟩ | ⟨c1, h⟩
  · refine v_tso (T := 52) rfl rfl c1 ?_
    refine s_ek_bk 3 (P := 55) (ls' := [(0, .ref a), (1, .long b)]) (st' := [.int (lg_cmp b (0 : Int64))]) (M' := v_mk s) rfl ?_
    rcases v_if h with ⟨c2, h⟩ | ⟨c2, h⟩
    · refine v_i1t (T := 62) rfl rfl c2 ?_
      refine s_ek_bk 1 (P := 63) (ls' := [(0, .ref a), (1, .long b)]) (st' := [.long 0]) (M' := v_mk s) rfl ?_
      obtain ⟨rfl, rfl⟩ := v_so h
      exact v_ret (fun _ => rfl)
    · refine v_i1f (T := 62) rfl rfl c2 ?_
      refine s_ek_bk 2 (P := 63) (ls' := [(0, .ref a), (1, .long b)]) (st' := [.long 1]) (M' := v_mk s) rfl ?_
      obtain ⟨rfl, rfl⟩ := v_so h
      exact v_ret (fun _ => rfl)
  · rcases v_if h with ⟨c3, h⟩ | ⟨c3, h⟩
    · refine v_tsi (T := 36) (c := 0) rfl c3 rfl ?_
      refine s_ek_bk 4 (P := 40) (ls' := [(0, .ref a), (1, .long b)]) (st' := [.long (Int32.toInt64 (Int8.toInt32 (Int32.toInt8 (Int64.toInt32 b))))]) (M' := v_mk s) rfl ?_
      obtain ⟨rfl, rfl⟩ := v_so h
      exact v_ret (fun _ => rfl)
    · rcases v_if h with ⟨c4, h⟩ | ⟨c4, h⟩
      · refine v_tsi (T := 41) (c := 1) rfl c4 rfl ?_
        refine s_ek_bk 4 (P := 45) (ls' := [(0, .ref a), (1, .long b)]) (st' := [.long (Int32.toInt64 (Int16.toInt32 (Int32.toInt16 (Int64.toInt32 b))))]) (M' := v_mk s) rfl ?_
        obtain ⟨rfl, rfl⟩ := v_so h
        exact v_ret (fun _ => rfl)
      · rcases v_if h with ⟨c5, h⟩ | ⟨c5, h⟩
        · refine v_tsi (T := 46) (c := 2) rfl c5 rfl ?_
          refine s_ek_bk 3 (P := 49) (ls' := [(0, .ref a), (1, .long b)]) (st' := [.long (Int32.toInt64 (Int64.toInt32 b))]) (M' := v_mk s) rfl ?_
          obtain ⟨rfl, rfl⟩ := v_so h
          exact v_ret (fun _ => rfl)
        · refine v_tsi (T := 50) (c := 3) rfl (by omega) rfl ?_
          refine s_ek_bk 1 (P := 51) (ls' := [(0, .ref a), (1, .long b)]) (st' := [.long b]) (M' := v_mk s) rfl ?_
          obtain ⟨rfl, rfl⟩ := v_so h
          exact v_ret (fun _ => rfl)
noncomputable def f_Sh_set (a : Nat) (b : Int32) (c : Int64) (s : vS) : Option (Unit × vS) := (if b.toInt < 0 then (some ((), s)) else (if (s.1 a 2).toInt ≤ b.toInt then (some ((), s)) else (if 60 ≤ b.toInt then (some ((), s)) else (v_bi (f_Sh_cut a c s) (fun r4 s4 => (if v_in b 60 then (v_let (v_w2 s4 (a + 1) (Int32.toNatClampNeg b) r4) (fun s6 => (some ((), s6)))) else none))))))
set_option maxRecDepth 20000 in
set_option maxHeartbeats 4000000 in
theorem t_Sh_set {L : Nat} {xs : Nat → Int32} {a : Nat} {b : Int32} {c : Int64} (ha : v_kd a = 6) {D : Nat} {r : Unit} {s s' : vS} (h : f_Sh_set a b c s = some (r, s')) (hD : 1 ≤ D) : s_Ek (s_rows 3 L xs) D s_e91.1 0 (lv_args 0 [.ref a, .int b, .long c]) [] (v_mk s) (v_Q none s') := by
  unfold f_Sh_set at h
  show s_Ek (s_rows 3 L xs) D s_e91.1 0 [(0, .ref a), (1, .int b), (2, .long c)] [] (v_mk s) _
  refine s_ek_bk 1 (P := 1) (ls' := [(0, .ref a), (1, .int b), (2, .long c)]) (st' := [.int b]) (M' := v_mk s) rfl ?_
  rcases v_if h with ⟨c1, h⟩ | ⟨c1, h⟩
  · refine v_i1t (T := 32) rfl rfl c1 ?_
    obtain ⟨rfl, rfl⟩ := v_so h
    exact v_ret (fun _ => rfl)
  · refine v_i1f (T := 32) rfl rfl c1 ?_
    refine s_ek_bk 2 (P := 6) (ls' := [(0, .ref a), (1, .int b), (2, .long c)]) (st' := [.ref a, .int b]) (M' := v_mk s) rfl ?_
    refine v_gf rfl (v_gi ha (v_tK (j := 2) v_is6 (by decide) ha) ⟨rfl, rfl, by decide⟩) ?_
    rcases v_if h with ⟨c2, h⟩ | ⟨c2, h⟩
    · refine v_i2t (T := 32) rfl rfl c2 ?_
      obtain ⟨rfl, rfl⟩ := v_so h
      exact v_ret (fun _ => rfl)
    · refine v_i2f (T := 32) rfl rfl c2 ?_
      refine s_ek_bk 2 (P := 14) (ls' := [(0, .ref a), (1, .int b), (2, .long c)]) (st' := [.ref a, .int b]) (M' := v_mk s) rfl ?_
      refine v_gf rfl (v_gr ha (v_rK v_r6_3 (by decide) ha).1 ⟨rfl, rfl, by decide⟩) ?_
      refine v_alen (x := 60) rfl (by rw [v_len (v_rK v_r6_3 (by decide) ha).2.1 (by decide), (v_rK v_r6_3 (by decide) ha).2.2]; rfl) ?_
      rcases v_if h with ⟨c3, h⟩ | ⟨c3, h⟩
      · refine v_i2t (T := 32) rfl rfl c3 ?_
        obtain ⟨rfl, rfl⟩ := v_so h
        exact v_ret (fun _ => rfl)
      · refine v_i2f (T := 32) rfl rfl c3 ?_
        refine s_ek_bk 1 (P := 22) (ls' := [(0, .ref a), (1, .int b), (2, .long c)]) (st' := [.ref a]) (M' := v_mk s) rfl ?_
        refine v_gf rfl (v_gr ha (v_rK v_r6_3 (by decide) ha).1 ⟨rfl, rfl, by decide⟩) ?_
        refine s_ek_bk 3 (P := 28) (ls' := [(0, .ref a), (1, .int b), (2, .long c)]) (st' := [.long c, .ref a, .int b, .ref (a + 1)]) (M' := v_mk s) rfl ?_
        obtain ⟨r4, s4, e4, h⟩ := v_bd h
        refine v_cV (ν := s_e92.1) (w := 737) (a := a) (as' := [.long c]) (r := [.int b, .ref (a + 1)]) (o := some (.long r4)) (by omega) rfl rfl rfl (v_mk_kd (k := 6) ha (by decide)) rfl (t_Sh_cut ha e4 (by omega)) ?_
        show s_Ek (s_rows 3 L xs) D s_e91.1 31 [(0, .ref a), (1, .int b), (2, .long c)] [.long r4, .int b, .ref (a + 1)] (v_mk s4) _
        obtain ⟨c5, h⟩ := v_ck h
        obtain ⟨s6, es6, h⟩ := v_ld h
        refine v_lst (M' := v_mk s6) (i := b) rfl (by rw [es6]; exact v_pal (v_rK v_r6_3 (by decide) ha).2.1 rfl (by decide) v_all14 (v_cn (v_rK v_r6_3 (by decide) ha).2.2 c5)) ?_
        obtain ⟨rfl, rfl⟩ := v_so h
        exact v_ret (fun _ => rfl)
noncomputable def f_Sh_copyFrom (a : Nat) (b : Nat) (c : Int32) (d : Int32) (e : Int32) (s : vS) : Option (Unit × vS) := (v_bi (f_Sh_hasPlaces b c e s) (fun r1 s1 => (if r1.toInt = 0 then (some ((), s1)) else (v_bi (f_Sh_hasPlaces a d e s1) (fun r3 s3 => (if r3.toInt = 0 then (some ((), s3)) else (if v_cok c d e 60 60 then (v_let (v_cp2 s3 (b + 1) (Int32.toNatClampNeg c) (a + 1) (Int32.toNatClampNeg d) (Int32.toNatClampNeg e)) (fun s6 => (some ((), s6)))) else none)))))))
set_option maxRecDepth 20000 in
set_option maxHeartbeats 4000000 in
theorem t_Sh_copyFrom {L : Nat} {xs : Nat → Int32} {a : Nat} {b : Nat} {c : Int32} {d : Int32} {e : Int32} (ha : v_kd a = 6) (hb : v_kd b = 6) {D : Nat} {r : Unit} {s s' : vS} (h : f_Sh_copyFrom a b c d e s = some (r, s')) (hD : 1 ≤ D) : s_Ek (s_rows 3 L xs) D s_e93.1 0 (lv_args 0 [.ref a, .ref b, .int c, .int d, .int e]) [] (v_mk s) (v_Q none s') := by
  unfold f_Sh_copyFrom at h
  show s_Ek (s_rows 3 L xs) D s_e93.1 0 [(0, .ref a), (1, .ref b), (2, .int c), (3, .int d), (4, .int e)] [] (v_mk s) _
  refine s_ek_bk 3 (P := 4) (ls' := [(0, .ref a), (1, .ref b), (2, .int c), (3, .int d), (4, .int e)]) (st' := [.int e, .int c, .ref b]) (M' := v_mk s) rfl ?_
  obtain ⟨r1, s1, e1, h⟩ := v_bd h
  refine v_cV (ν := s_e89.1) (w := 714) (a := b) (as' := [.int c, .int e]) (r := []) (o := some (.int r1)) (by omega) rfl rfl rfl (v_mk_kd (k := 6) hb (by decide)) rfl (t_Sh_hasPlaces hb e1 (by omega)) ?_
  show s_Ek (s_rows 3 L xs) D s_e93.1 7 [(0, .ref a), (1, .ref b), (2, .int c), (3, .int d), (4, .int e)] [.int r1] (v_mk s1) _
  rcases v_if h with ⟨c2, h⟩ | ⟨c2, h⟩
  · refine v_i1t (T := 35) rfl rfl c2 ?_
    obtain ⟨rfl, rfl⟩ := v_so h
    exact v_ret (fun _ => rfl)
  · refine v_i1f (T := 35) rfl rfl c2 ?_
    refine s_ek_bk 3 (P := 14) (ls' := [(0, .ref a), (1, .ref b), (2, .int c), (3, .int d), (4, .int e)]) (st' := [.int e, .int d, .ref a]) (M' := v_mk s1) rfl ?_
    obtain ⟨r3, s3, e3, h⟩ := v_bd h
    refine v_cV (ν := s_e89.1) (w := 714) (a := a) (as' := [.int d, .int e]) (r := []) (o := some (.int r3)) (by omega) rfl rfl rfl (v_mk_kd (k := 6) ha (by decide)) rfl (t_Sh_hasPlaces ha e3 (by omega)) ?_
    show s_Ek (s_rows 3 L xs) D s_e93.1 17 [(0, .ref a), (1, .ref b), (2, .int c), (3, .int d), (4, .int e)] [.int r3] (v_mk s3) _
    rcases v_if h with ⟨c4, h⟩ | ⟨c4, h⟩
    · refine v_i1t (T := 35) rfl rfl c4 ?_
      obtain ⟨rfl, rfl⟩ := v_so h
      exact v_ret (fun _ => rfl)
    · refine v_i1f (T := 35) rfl rfl c4 ?_
      refine s_ek_bk 1 (P := 21) (ls' := [(0, .ref a), (1, .ref b), (2, .int c), (3, .int d), (4, .int e)]) (st' := [.ref b]) (M' := v_mk s3) rfl ?_
      refine v_gf rfl (v_gr hb (v_rK v_r6_3 (by decide) hb).1 ⟨rfl, rfl, by decide⟩) ?_
      refine s_ek_bk 2 (P := 26) (ls' := [(0, .ref a), (1, .ref b), (2, .int c), (3, .int d), (4, .int e)]) (st' := [.ref a, .int c, .ref (b + 1)]) (M' := v_mk s3) rfl ?_
      refine v_gf rfl (v_gr ha (v_rK v_r6_3 (by decide) ha).1 ⟨rfl, rfl, by decide⟩) ?_
      refine s_ek_bk 2 (P := 32) (ls' := [(0, .ref a), (1, .ref b), (2, .int c), (3, .int d), (4, .int e)]) (st' := [.int e, .int d, .ref (a + 1), .int c, .ref (b + 1)]) (M' := v_mk s3) rfl ?_
      obtain ⟨c5, h⟩ := v_ck h
      obtain ⟨s6, es6, h⟩ := v_ld h
      refine v_acp (by omega) (M2 := v_mk s6) (r := []) rfl (by rw [es6]; exact v_ac2 (v_rK v_r6_3 (by decide) hb).2.1 (v_rK v_r6_3 (by decide) ha).2.1 (v_ckn (v_rK v_r6_3 (by decide) hb).2.2 (v_rK v_r6_3 (by decide) ha).2.2 c5) rfl) v_keep ?_
      obtain ⟨rfl, rfl⟩ := v_so h
      exact v_ret (fun _ => rfl)
noncomputable def f_Sh_isAllTwos_L2b (p0 : Nat) (k26 : vS → Option (Int32 × vS)) (again : Int32 → vS → Option (Int32 × vS)) (v1 : Int32) (s : vS) : Option (Int32 × vS) := (v_bi (f_Sh_twos p0 s) (fun r101 s101 => (if r101.toInt ≤ v1.toInt then (k26 s101) else (v_bi (f_Sh_isTwo p0 v1 s101) (fun r103 s103 => (if r103.toInt = 0 then (some (0, s103)) else (again (v1 + 1) s103)))))))
noncomputable def f_Sh_isAllTwos_L2 (p0 : Nat) (k26 : vS → Option (Int32 × vS)) (n : Nat) : Int32 → vS → Option (Int32 × vS) := Nat.rec (motive := fun _ => Int32 → vS → Option (Int32 × vS)) (fun _ _ => none) (fun _ again => f_Sh_isAllTwos_L2b p0 k26 again) n
noncomputable def f_Sh_isAllTwos (a : Nat) (s : vS) : Option (Int32 × vS) := (f_Sh_isAllTwos_L2 a (fun s1 => (some (1, s1))) 4096 0 s)
set_option maxRecDepth 20000 in
set_option maxHeartbeats 4000000 in
theorem t_Sh_isAllTwos_L2 {L : Nat} {xs : Nat → Int32} {p0 : Nat} (hp0 : v_kd p0 = 6) {k26 : vS → Option (Int32 × vS)} {D : Nat} (hD : 3 ≤ D) {r : Int32} {s' : vS} (hk26 : ∀ (s : vS), k26 s = some (r, s') → s_Ek (s_rows 3 L xs) D s_e96.1 26 [] [] (v_mk s) (v_Q (some (.int r)) s')) : ∀ (n : Nat) (v1 : Int32) (s : vS), f_Sh_isAllTwos_L2 p0 k26 n v1 s = some (r, s') → s_Ek (s_rows 3 L xs) D s_e96.1 2 [(0, .ref p0), (1, .int v1)] [] (v_mk s) (v_Q (some (.int r)) s') := by
  intro n
  induction n with
  | zero => intro v1 s h; exact nomatch (show (none : Option (Int32 × vS)) = some (r, s') from h)
  | succ n ih =>
    intro v1 s h
    replace h : f_Sh_isAllTwos_L2b p0 k26 (f_Sh_isAllTwos_L2 p0 k26 n) v1 s = some (r, s') := h
    unfold f_Sh_isAllTwos_L2b at h
    refine s_ek_bk 2 (P := 4) (ls' := [(0, .ref p0), (1, .int v1)]) (st' := [.ref p0, .int v1]) (M' := v_mk s) rfl ?_
    obtain ⟨r101, s101, e101, h⟩ := v_bd h
    refine v_cV (ν := s_e94.1) (w := 752) (a := p0) (as' := []) (r := [.int v1]) (o := some (.int r101)) (by omega) rfl rfl rfl (v_mk_kd (k := 6) hp0 (by decide)) rfl (t_Sh_twos hp0 e101 (by omega)) ?_
    show s_Ek (s_rows 3 L xs) D s_e96.1 7 [(0, .ref p0), (1, .int v1)] [.int r101, .int v1] (v_mk s101) _
    rcases v_if h with ⟨c102, h⟩ | ⟨c102, h⟩
    · refine v_i2t (T := 26) rfl rfl c102 ?_
      refine v_ls (ls' := []) trivial (show ([] : List Nat).Nodup from by decide) ?_
      exact hk26 _ h
    · refine v_i2f (T := 26) rfl rfl c102 ?_
      refine s_ek_bk 2 (P := 12) (ls' := [(0, .ref p0), (1, .int v1)]) (st' := [.int v1, .ref p0]) (M' := v_mk s101) rfl ?_
      obtain ⟨r103, s103, e103, h⟩ := v_bd h
      refine v_cV (ν := s_e95.1) (w := 761) (a := p0) (as' := [.int v1]) (r := []) (o := some (.int r103)) (by omega) rfl rfl rfl (v_mk_kd (k := 6) hp0 (by decide)) rfl (t_Sh_isTwo hp0 e103 (by omega)) ?_
      show s_Ek (s_rows 3 L xs) D s_e96.1 15 [(0, .ref p0), (1, .int v1)] [.int r103] (v_mk s103) _
      rcases v_if h with ⟨c104, h⟩ | ⟨c104, h⟩
      · refine v_i1f (T := 20) rfl rfl (fun q => q c104) ?_
        refine s_ek_bk 1 (P := 19) (ls' := [(0, .ref p0), (1, .int v1)]) (st' := [.int 0]) (M' := v_mk s103) rfl ?_
        obtain ⟨rfl, rfl⟩ := v_so h
        exact v_ret (fun _ => rfl)
      · refine v_i1t (T := 20) rfl rfl c104 ?_
        refine s_ek_bk 2 (P := 2) (ls' := [(1, .int (v1 + 1)), (0, .ref p0)]) (st' := []) (M' := v_mk s103) rfl ?_
        refine v_ls (ls' := [(0, .ref p0), (1, .int (v1 + 1))]) ⟨rfl, rfl, trivial⟩ (show ([0, 1] : List Nat).Nodup from by decide) ?_
        exact ih _ _ h
set_option maxRecDepth 20000 in
set_option maxHeartbeats 4000000 in
theorem t_Sh_isAllTwos {L : Nat} {xs : Nat → Int32} {a : Nat} (ha : v_kd a = 6) {D : Nat} {r : Int32} {s s' : vS} (h : f_Sh_isAllTwos a s = some (r, s')) (hD : 3 ≤ D) : s_Ek (s_rows 3 L xs) D s_e96.1 0 (lv_args 0 [.ref a]) [] (v_mk s) (v_Q (some (.int r)) s') := by
  unfold f_Sh_isAllTwos at h
  show s_Ek (s_rows 3 L xs) D s_e96.1 0 [(0, .ref a)] [] (v_mk s) _
  refine s_ek_bk 2 (P := 2) (ls' := [(1, .int 0), (0, .ref a)]) (st' := []) (M' := v_mk s) rfl ?_
  refine v_ls (ls' := [(0, .ref a), (1, .int 0)]) ⟨rfl, rfl, trivial⟩ (show ([0, 1] : List Nat).Nodup from by decide) ?_
  refine t_Sh_isAllTwos_L2 ha (by omega) (fun s1 h => ?_) 4096 _ _ h
  show s_Ek (s_rows 3 L xs) D s_e96.1 26 [] [] (v_mk s1) _
  refine s_ek_bk 1 (P := 27) (ls' := []) (st' := [.int 1]) (M' := v_mk s1) rfl ?_
  obtain ⟨rfl, rfl⟩ := v_so h
  exact v_ret (fun _ => rfl)
noncomputable def f_Wd_compares (b : Int32) (c : Int32) (d : Int32) (s : vS) : Option (Int32 × vS) := (if c.toInt = 0 then (if d.toInt ≤ b.toInt then (some (0, s)) else (some (1, s))) else (if c.toInt = 1 then (if b.toInt = d.toInt then (some (1, s)) else (some (0, s))) else (if b.toInt ≤ d.toInt then (some (0, s)) else (some (1, s)))))
set_option maxRecDepth 20000 in
set_option maxHeartbeats 4000000 in
theorem t_Wd_compares {L : Nat} {xs : Nat → Int32} {b : Int32} {c : Int32} {d : Int32} {D : Nat} {r : Int32} {s s' : vS} (h : f_Wd_compares b c d s = some (r, s')) (hD : 0 ≤ D) : s_Ek (s_rows 3 L xs) D s_e114.1 0 (lv_args 0 [.int b, .int c, .int d]) [] (v_mk s) (v_Q (some (.int r)) s') := by
  unfold f_Wd_compares at h
  show s_Ek (s_rows 3 L xs) D s_e114.1 0 [(0, .int b), (1, .int c), (2, .int d)] [] (v_mk s) _
  refine s_ek_bk 1 (P := 1) (ls' := [(0, .int b), (1, .int c), (2, .int d)]) (st' := [.int c]) (M' := v_mk s) rfl ?_
  rcases v_if h with ⟨c1, h⟩ | ⟨c1, h⟩
  · refine v_i1f (T := 15) rfl rfl (fun q => q c1) ?_
    refine s_ek_bk 2 (P := 6) (ls' := [(0, .int b), (1, .int c), (2, .int d)]) (st' := [.int d, .int b]) (M' := v_mk s) rfl ?_
    rcases v_if h with ⟨c2, h⟩ | ⟨c2, h⟩
    · refine v_i2t (T := 13) rfl rfl c2 ?_
      refine s_ek_bk 1 (P := 14) (ls' := [(0, .int b), (1, .int c), (2, .int d)]) (st' := [.int 0]) (M' := v_mk s) rfl ?_
      obtain ⟨rfl, rfl⟩ := v_so h
      exact v_ret (fun _ => rfl)
    · refine v_i2f (T := 13) rfl rfl c2 ?_
      refine s_ek_bk 2 (P := 14) (ls' := [(0, .int b), (1, .int c), (2, .int d)]) (st' := [.int 1]) (M' := v_mk s) rfl ?_
      obtain ⟨rfl, rfl⟩ := v_so h
      exact v_ret (fun _ => rfl)
  · refine v_i1t (T := 15) rfl rfl c1 ?_
    refine s_ek_bk 2 (P := 17) (ls' := [(0, .int b), (1, .int c), (2, .int d)]) (st' := [.int 1, .int c]) (M' := v_mk s) rfl ?_
    rcases v_if h with ⟨c3, h⟩ | ⟨c3, h⟩
    · refine v_i2f (T := 33) rfl rfl (fun q => q c3) ?_
      refine s_ek_bk 2 (P := 22) (ls' := [(0, .int b), (1, .int c), (2, .int d)]) (st' := [.int d, .int b]) (M' := v_mk s) rfl ?_
      rcases v_if h with ⟨c4, h⟩ | ⟨c4, h⟩
      · refine v_i2f (T := 29) rfl rfl (fun q => q c4) ?_
        refine s_ek_bk 2 (P := 43) (ls' := [(0, .int b), (1, .int c), (2, .int d)]) (st' := [.int 1]) (M' := v_mk s) rfl ?_
        obtain ⟨rfl, rfl⟩ := v_so h
        exact v_ret (fun _ => rfl)
      · refine v_i2t (T := 29) rfl rfl c4 ?_
        refine s_ek_bk 2 (P := 43) (ls' := [(0, .int b), (1, .int c), (2, .int d)]) (st' := [.int 0]) (M' := v_mk s) rfl ?_
        obtain ⟨rfl, rfl⟩ := v_so h
        exact v_ret (fun _ => rfl)
    · refine v_i2t (T := 33) rfl rfl c3 ?_
      refine s_ek_bk 2 (P := 35) (ls' := [(0, .int b), (1, .int c), (2, .int d)]) (st' := [.int d, .int b]) (M' := v_mk s) rfl ?_
      rcases v_if h with ⟨c5, h⟩ | ⟨c5, h⟩
      · refine v_i2t (T := 42) rfl rfl c5 ?_
        refine s_ek_bk 1 (P := 43) (ls' := [(0, .int b), (1, .int c), (2, .int d)]) (st' := [.int 0]) (M' := v_mk s) rfl ?_
        obtain ⟨rfl, rfl⟩ := v_so h
        exact v_ret (fun _ => rfl)
      · refine v_i2f (T := 42) rfl rfl c5 ?_
        refine s_ek_bk 2 (P := 43) (ls' := [(0, .int b), (1, .int c), (2, .int d)]) (st' := [.int 1]) (M' := v_mk s) rfl ?_
        obtain ⟨rfl, rfl⟩ := v_so h
        exact v_ret (fun _ => rfl)
noncomputable def f_Wd_metBy (b : Int32) (s : vS) : Option (Nat × vS) := (if b.toInt < 0 then (some (85, s)) else (if 45 ≤ b.toInt then (some (85, s)) else (if v_in b 45 then (if v_in b 45 then (some ((87 + 1 * (Int32.toNatClampNeg b)), s)) else none) else none)))
set_option maxRecDepth 20000 in
set_option maxHeartbeats 4000000 in
theorem t_Wd_metBy {L : Nat} {xs : Nat → Int32} {b : Int32} {D : Nat} {r : Nat} {s s' : vS} (h : f_Wd_metBy b s = some (r, s')) (hD : 0 ≤ D) : s_Ek (s_rows 3 L xs) D s_e115.1 0 (lv_args 0 [.ref 78, .int b]) [] (v_mk s) (v_Q (some (.ref r)) s') := by
  unfold f_Wd_metBy at h
  show s_Ek (s_rows 3 L xs) D s_e115.1 0 [(0, .ref 78), (1, .int b)] [] (v_mk s) _
  refine s_ek_bk 1 (P := 1) (ls' := [(0, .ref 78), (1, .int b)]) (st' := [.int b]) (M' := v_mk s) rfl ?_
  rcases v_if h with ⟨c1, h⟩ | ⟨c1, h⟩
  · refine v_i1t (T := 22) rfl rfl c1 ?_
    refine s_ek_bk 1 (P := 23) (ls' := [(0, .ref 78), (1, .int b)]) (st' := [.ref 78]) (M' := v_mk s) rfl ?_
    refine v_gf rfl (v_gr (rfl : v_kd 78 = 8) (rfl : v_sl 78 2 = .ref 85) ⟨rfl, rfl, by decide⟩) ?_
    obtain ⟨rfl, rfl⟩ := v_so h
    exact v_ret (fun _ => rfl)
  · refine v_i1f (T := 22) rfl rfl c1 ?_
    refine s_ek_bk 2 (P := 6) (ls' := [(0, .ref 78), (1, .int b)]) (st' := [.ref 78, .int b]) (M' := v_mk s) rfl ?_
    refine v_gf rfl (v_gr (rfl : v_kd 78 = 8) (rfl : v_sl 78 1 = .ref 84) ⟨rfl, rfl, by decide⟩) ?_
    refine v_alen (x := 45) rfl (by rw [v_len (rfl : v_kd 84 = 17) (by decide), (rfl : v_ln 84 = 45)]; rfl) ?_
    rcases v_if h with ⟨c2, h⟩ | ⟨c2, h⟩
    · refine v_i2t (T := 22) rfl rfl c2 ?_
      refine s_ek_bk 1 (P := 23) (ls' := [(0, .ref 78), (1, .int b)]) (st' := [.ref 78]) (M' := v_mk s) rfl ?_
      refine v_gf rfl (v_gr (rfl : v_kd 78 = 8) (rfl : v_sl 78 2 = .ref 85) ⟨rfl, rfl, by decide⟩) ?_
      obtain ⟨rfl, rfl⟩ := v_so h
      exact v_ret (fun _ => rfl)
    · refine v_i2f (T := 22) rfl rfl c2 ?_
      refine s_ek_bk 1 (P := 14) (ls' := [(0, .ref 78), (1, .int b)]) (st' := [.ref 78]) (M' := v_mk s) rfl ?_
      refine v_gf rfl (v_gr (rfl : v_kd 78 = 8) (rfl : v_sl 78 1 = .ref 84) ⟨rfl, rfl, by decide⟩) ?_
      refine s_ek_bk 1 (P := 18) (ls' := [(0, .ref 78), (1, .int b)]) (st' := [.int b, .ref 84]) (M' := v_mk s) rfl ?_
      obtain ⟨c3, h⟩ := v_ck h
      refine v_aa (i := b) rfl (v_ar (rfl : v_kd 84 = 17) rfl (by decide) (v_met (v_ii c3.1 c3.2)).1 c3.1) ?_
      refine s_ek_bk 2 (P := 28) (ls' := [(0, .ref 78), (1, .int b)]) (st' := [.ref 78]) (M' := v_mk s) rfl ?_
      refine v_gf rfl (v_gr (rfl : v_kd 78 = 8) (rfl : v_sl 78 1 = .ref 84) ⟨rfl, rfl, by decide⟩) ?_
      refine s_ek_bk 1 (P := 32) (ls' := [(0, .ref 78), (1, .int b)]) (st' := [.int b, .ref 84]) (M' := v_mk s) rfl ?_
      obtain ⟨c4, h⟩ := v_ck h
      refine v_aa (i := b) rfl (v_ar (rfl : v_kd 84 = 17) rfl (by decide) (v_met (v_ii c4.1 c4.2)).1 c4.1) ?_
      obtain ⟨rfl, rfl⟩ := v_so h
      exact v_ret (fun _ => rfl)
