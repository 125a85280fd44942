/-! functions over the store, and the runs that they stand for: what OldestLaw.row OldestLawModel.row need -/
noncomputable def f_Sh_isSort (b : Int32) (s : vS) : Option (Int32 × vS) := (if b.toInt < 0 then (some (0, s)) else (if 4 < b.toInt then (some (0, s)) else (some (1, s))))
set_option maxRecDepth 20000 in
set_option maxHeartbeats 4000000 in
theorem t_Sh_isSort {L : Nat} {xs : Nat → Int32} {b : Int32} {D : Nat} {r : Int32} {s s' : vS} (h : f_Sh_isSort b s = some (r, s')) (hD : 0 ≤ D) : s_Ek (s_rows 3 L xs) D s_e83.1 0 (lv_args 0 [.int b]) [] (v_mk s) (v_Q (some (.int r)) s') := by
  unfold f_Sh_isSort at h
  show s_Ek (s_rows 3 L xs) D s_e83.1 0 [(0, .int b)] [] (v_mk s) _
  refine s_ek_bk 1 (P := 1) (ls' := [(0, .int b)]) (st' := [.int b]) (M' := v_mk s) rfl ?_
  rcases v_if h with ⟨c1, h⟩ | ⟨c1, h⟩
  · refine v_i1t (T := 13) rfl rfl c1 ?_
    refine s_ek_bk 1 (P := 14) (ls' := [(0, .int b)]) (st' := [.int 0]) (M' := v_mk s) rfl ?_
    cases h
    exact v_ret (fun _ => rfl)
  · refine v_i1f (T := 13) rfl rfl c1 ?_
    refine s_ek_bk 2 (P := 6) (ls' := [(0, .int b)]) (st' := [.int 4, .int b]) (M' := v_mk s) rfl ?_
    rcases v_if h with ⟨c2, h⟩ | ⟨c2, h⟩
    · refine v_i2t (T := 13) rfl rfl c2 ?_
      refine s_ek_bk 1 (P := 14) (ls' := [(0, .int b)]) (st' := [.int 0]) (M' := v_mk s) rfl ?_
      cases h
      exact v_ret (fun _ => rfl)
    · refine v_i2f (T := 13) rfl rfl c2 ?_
      refine s_ek_bk 2 (P := 14) (ls' := [(0, .int b)]) (st' := [.int 1]) (M' := v_mk s) rfl ?_
      cases h
      exact v_ret (fun _ => rfl)
noncomputable def f_Sh_takeRow_L12b (p0 : Nat) (k34 : vS → Option (Unit × vS)) (again : Int32 → vS → Option (Unit × vS)) (v3 : Int32) (s : vS) : Option (Unit × vS) := (if 60 ≤ v3.toInt then (k34 s) else (if v_in v3 60 then (v_let (v_w2 s (p0 + 1) (Int32.toNatClampNeg v3) 0) (fun s105 => (again (v3 + 1) s105))) else none))
noncomputable def f_Sh_takeRow_L12 (p0 : Nat) (k34 : vS → Option (Unit × vS)) (n : Nat) : Int32 → vS → Option (Unit × vS) := Nat.rec (motive := fun _ => Int32 → vS → Option (Unit × vS)) (fun _ _ => none) (fun _ again => f_Sh_takeRow_L12b p0 k34 again) n
noncomputable def f_Sh_takeRow (a : Nat) (b : Int32) (c : Int32) (s : vS) : Option (Unit × vS) := (v_let (v_w1 s a 0 b) (fun s1 => (v_let (v_w1 s1 a 2 c) (fun s2 => (f_Sh_takeRow_L12 a (fun s3 => (some ((), s3))) 4096 0 s2)))))
set_option maxRecDepth 20000 in
set_option maxHeartbeats 4000000 in
theorem t_Sh_takeRow_L12 {L : Nat} {xs : Nat → Int32} {p0 : Nat} (hp0 : v_kd p0 = 6) {k34 : vS → Option (Unit × vS)} {D : Nat} (hD : 0 ≤ D) {r : Unit} {s' : vS} (hk34 : ∀ (s : vS), k34 s = some (r, s') → s_Ek (s_rows 3 L xs) D s_e88.1 34 [] [] (v_mk s) (v_Q none s')) : ∀ (n : Nat) (v3 : Int32) (s : vS), f_Sh_takeRow_L12 p0 k34 n v3 s = some (r, s') → s_Ek (s_rows 3 L xs) D s_e88.1 12 [(0, .ref p0), (3, .int v3)] [] (v_mk s) (v_Q none s') := by
  intro n
  induction n with
  | zero => intro v3 s h; exact nomatch (show (none : Option (Unit × vS)) = some (r, s') from h)
  | succ n ih =>
    intro v3 s h
    replace h : f_Sh_takeRow_L12b p0 k34 (f_Sh_takeRow_L12 p0 k34 n) v3 s = some (r, s') := h
    unfold f_Sh_takeRow_L12b at h
    refine s_ek_bk 2 (P := 14) (ls' := [(0, .ref p0), (3, .int v3)]) (st' := [.ref p0, .int v3]) (M' := v_mk s) rfl ?_
    refine v_gf rfl (v_gr hp0 (v_rK v_r6_3 (by decide) hp0).1 ⟨rfl, rfl, by decide⟩) ?_
    refine v_alen (x := 60) rfl (by rw [v_len (v_rK v_r6_3 (by decide) hp0).2.1 (by decide), (v_rK v_r6_3 (by decide) hp0).2.2]; rfl) ?_
    rcases v_if h with ⟨c103, h⟩ | ⟨c103, h⟩
    · refine v_i2t (T := 34) rfl rfl c103 ?_
      refine v_ls (ls' := []) trivial (show ([] : List Nat).Nodup from by decide) ?_
      exact hk34 _ h
    · refine v_i2f (T := 34) rfl rfl c103 ?_
      refine s_ek_bk 1 (P := 22) (ls' := [(0, .ref p0), (3, .int v3)]) (st' := [.ref p0]) (M' := v_mk s) rfl ?_
      refine v_gf rfl (v_gr hp0 (v_rK v_r6_3 (by decide) hp0).1 ⟨rfl, rfl, by decide⟩) ?_
      refine s_ek_bk 2 (P := 27) (ls' := [(0, .ref p0), (3, .int v3)]) (st' := [.long 0, .int v3, .ref (p0 + 1)]) (M' := v_mk s) rfl ?_
      obtain ⟨c104, h⟩ := v_ck h
      obtain ⟨s105, es105, h⟩ := v_ld h
      refine v_lst (M' := v_mk s105) (i := v3) rfl (by rw [es105]; exact v_pal (v_rK v_r6_3 (by decide) hp0).2.1 rfl (by decide) v_all14 (v_cn (v_rK v_r6_3 (by decide) hp0).2.2 c104)) ?_
      refine s_ek_bk 2 (P := 12) (ls' := [(3, .int (v3 + 1)), (0, .ref p0)]) (st' := []) (M' := v_mk s105) rfl ?_
      refine v_ls (ls' := [(0, .ref p0), (3, .int (v3 + 1))]) ⟨rfl, rfl, trivial⟩ (show ([0, 3] : List Nat).Nodup from by decide) ?_
      exact ih _ _ h
set_option maxRecDepth 20000 in
set_option maxHeartbeats 4000000 in
theorem t_Sh_takeRow {L : Nat} {xs : Nat → Int32} {a : Nat} {b : Int32} {c : Int32} (ha : v_kd a = 6) {D : Nat} {r : Unit} {s s' : vS} (h : f_Sh_takeRow a b c s = some (r, s')) (hD : 0 ≤ D) : s_Ek (s_rows 3 L xs) D s_e88.1 0 (lv_args 0 [.ref a, .int b, .int c]) [] (v_mk s) (v_Q none s') := by
  unfold f_Sh_takeRow at h
  show s_Ek (s_rows 3 L xs) D s_e88.1 0 [(0, .ref a), (1, .int b), (2, .int c)] [] (v_mk s) _
  refine s_ek_bk 2 (P := 2) (ls' := [(0, .ref a), (1, .int b), (2, .int c)]) (st' := [.int b, .ref a]) (M' := v_mk s) rfl ?_
  obtain ⟨s1, es1, h⟩ := v_ld h
  refine v_pf (M' := v_mk s1) rfl (by rw [es1]; exact v_pi ha (v_tK (j := 0) v_is6 (by decide) ha) ⟨rfl, rfl, by decide⟩ rfl) ?_
  refine s_ek_bk 2 (P := 7) (ls' := [(0, .ref a), (1, .int b), (2, .int c)]) (st' := [.int c, .ref a]) (M' := v_mk s1) rfl ?_
  obtain ⟨s2, es2, h⟩ := v_ld h
  refine v_pf (M' := v_mk s2) rfl (by rw [es2]; exact v_pi ha (v_tK (j := 2) v_is6 (by decide) ha) ⟨rfl, rfl, by decide⟩ rfl) ?_
  refine s_ek_bk 2 (P := 12) (ls' := [(3, .int 0), (0, .ref a), (1, .int b), (2, .int c)]) (st' := []) (M' := v_mk s2) rfl ?_
  refine v_ls (ls' := [(0, .ref a), (3, .int 0)]) ⟨rfl, rfl, trivial⟩ (show ([0, 3] : List Nat).Nodup from by decide) ?_
  refine t_Sh_takeRow_L12 ha (by omega) (fun s3 h => ?_) 4096 _ _ h
  show s_Ek (s_rows 3 L xs) D s_e88.1 34 [] [] (v_mk s3) _
  cases h
  exact v_ret (fun _ => rfl)
noncomputable def f_Ol_isShelf (b : Int32) (s : vS) : Option (Int32 × vS) := (if b.toInt < 0 then (some (0, s)) else (if 6 ≤ b.toInt then (some (0, s)) else (some (1, s))))
set_option maxRecDepth 20000 in
set_option maxHeartbeats 4000000 in
theorem t_Ol_isShelf {L : Nat} {xs : Nat → Int32} {b : Int32} {D : Nat} {r : Int32} {s s' : vS} (h : f_Ol_isShelf b s = some (r, s')) (hD : 0 ≤ D) : s_Ek (s_rows 3 L xs) D s_e175.1 0 (lv_args 0 [.int b]) [] (v_mk s) (v_Q (some (.int r)) s') := by
  unfold f_Ol_isShelf at h
  show s_Ek (s_rows 3 L xs) D s_e175.1 0 [(0, .int b)] [] (v_mk s) _
  refine s_ek_bk 1 (P := 1) (ls' := [(0, .int b)]) (st' := [.int b]) (M' := v_mk s) rfl ?_
  rcases v_if h with ⟨c1, h⟩ | ⟨c1, h⟩
  · refine v_i1t (T := 14) rfl rfl c1 ?_
    refine s_ek_bk 1 (P := 15) (ls' := [(0, .int b)]) (st' := [.int 0]) (M' := v_mk s) rfl ?_
    cases h
    exact v_ret (fun _ => rfl)
  · refine v_i1f (T := 14) rfl rfl c1 ?_
    refine s_ek_bk 2 (P := 7) (ls' := [(0, .int b)]) (st' := [.int 6, .int b]) (M' := v_mk s) rfl ?_
    rcases v_if h with ⟨c2, h⟩ | ⟨c2, h⟩
    · refine v_i2t (T := 14) rfl rfl c2 ?_
      refine s_ek_bk 1 (P := 15) (ls' := [(0, .int b)]) (st' := [.int 0]) (M' := v_mk s) rfl ?_
      cases h
      exact v_ret (fun _ => rfl)
    · refine v_i2f (T := 14) rfl rfl c2 ?_
      refine s_ek_bk 2 (P := 15) (ls' := [(0, .int b)]) (st' := [.int 1]) (M' := v_mk s) rfl ?_
      cases h
      exact v_ret (fun _ => rfl)
noncomputable def f_Ol_shelfAt (b : Int32) (s : vS) : Option (Nat × vS) := (if b.toInt < 0 then (some (136, s)) else (if 6 ≤ b.toInt then (some (136, s)) else (if v_in b 6 then (if v_in b 6 then (some ((139 + 2 * (Int32.toNatClampNeg b)), s)) else none) else none)))
set_option maxRecDepth 20000 in
set_option maxHeartbeats 4000000 in
theorem t_Ol_shelfAt {L : Nat} {xs : Nat → Int32} {b : Int32} {D : Nat} {r : Nat} {s s' : vS} (h : f_Ol_shelfAt b s = some (r, s')) (hD : 0 ≤ D) : s_Ek (s_rows 3 L xs) D s_e176.1 0 (lv_args 0 [.ref 0, .int b]) [] (v_mk s) (v_Q (some (.ref r)) s') := by
  unfold f_Ol_shelfAt at h
  show s_Ek (s_rows 3 L xs) D s_e176.1 0 [(0, .ref 0), (1, .int b)] [] (v_mk s) _
  refine s_ek_bk 1 (P := 1) (ls' := [(0, .ref 0), (1, .int b)]) (st' := [.int b]) (M' := v_mk s) rfl ?_
  rcases v_if h with ⟨c1, h⟩ | ⟨c1, h⟩
  · refine v_i1t (T := 22) rfl rfl c1 ?_
    refine s_ek_bk 1 (P := 23) (ls' := [(0, .ref 0), (1, .int b)]) (st' := [.ref 0]) (M' := v_mk s) rfl ?_
    refine v_gf rfl (v_gr (rfl : v_kd 0 = 10) (rfl : v_sl 0 9 = .ref 136) ⟨rfl, rfl, by decide⟩) ?_
    cases h
    exact v_ret (fun _ => rfl)
  · refine v_i1f (T := 22) rfl rfl c1 ?_
    refine s_ek_bk 2 (P := 6) (ls' := [(0, .ref 0), (1, .int b)]) (st' := [.ref 0, .int b]) (M' := v_mk s) rfl ?_
    refine v_gf rfl (v_gr (rfl : v_kd 0 = 10) (rfl : v_sl 0 8 = .ref 135) ⟨rfl, rfl, by decide⟩) ?_
    refine v_alen (x := 6) rfl (by rw [v_len (rfl : v_kd 135 = 19) (by decide), (rfl : v_ln 135 = 6)]; rfl) ?_
    rcases v_if h with ⟨c2, h⟩ | ⟨c2, h⟩
    · refine v_i2t (T := 22) rfl rfl c2 ?_
      refine s_ek_bk 1 (P := 23) (ls' := [(0, .ref 0), (1, .int b)]) (st' := [.ref 0]) (M' := v_mk s) rfl ?_
      refine v_gf rfl (v_gr (rfl : v_kd 0 = 10) (rfl : v_sl 0 9 = .ref 136) ⟨rfl, rfl, by decide⟩) ?_
      cases h
      exact v_ret (fun _ => rfl)
    · refine v_i2f (T := 22) rfl rfl c2 ?_
      refine s_ek_bk 1 (P := 14) (ls' := [(0, .ref 0), (1, .int b)]) (st' := [.ref 0]) (M' := v_mk s) rfl ?_
      refine v_gf rfl (v_gr (rfl : v_kd 0 = 10) (rfl : v_sl 0 8 = .ref 135) ⟨rfl, rfl, by decide⟩) ?_
      refine s_ek_bk 1 (P := 18) (ls' := [(0, .ref 0), (1, .int b)]) (st' := [.int b, .ref 135]) (M' := v_mk s) rfl ?_
      obtain ⟨c3, h⟩ := v_ck h
      refine v_aa (i := b) rfl (v_ar (rfl : v_kd 135 = 19) rfl (by decide) (v_shelves (v_ii c3.1 c3.2)).1 c3.1) ?_
      refine s_ek_bk 2 (P := 28) (ls' := [(0, .ref 0), (1, .int b)]) (st' := [.ref 0]) (M' := v_mk s) rfl ?_
      refine v_gf rfl (v_gr (rfl : v_kd 0 = 10) (rfl : v_sl 0 8 = .ref 135) ⟨rfl, rfl, by decide⟩) ?_
      refine s_ek_bk 1 (P := 32) (ls' := [(0, .ref 0), (1, .int b)]) (st' := [.int b, .ref 135]) (M' := v_mk s) rfl ?_
      obtain ⟨c4, h⟩ := v_ck h
      refine v_aa (i := b) rfl (v_ar (rfl : v_kd 135 = 19) rfl (by decide) (v_shelves (v_ii c4.1 c4.2)).1 c4.1) ?_
      cases h
      exact v_ret (fun _ => rfl)
noncomputable def f_Ol_row (b : Int32) (c : Int32) (d : Int32) (s : vS) : Option (Int32 × vS) := (v_bi (f_Ol_isShelf b s) (fun r1 s1 => (if r1.toInt = 0 then (some ((-1), s1)) else (v_bi (f_Sh_isSort c s1) (fun r3 s3 => (if r3.toInt = 0 then (some ((-1), s3)) else (if d.toInt ≤ 60 then (if 0 ≤ d.toInt then (v_bi (f_Ol_shelfAt b s3) (fun r7 s7 => if v_kd r7 = 6 then (v_bi (f_Sh_takeRow r7 c d s7) (fun _ s9 => (some (1, s9)))) else none)) else (some ((-14), s3))) else (some ((-1), s3)))))))))
set_option maxRecDepth 20000 in
set_option maxHeartbeats 4000000 in
theorem t_Ol_row {L : Nat} {xs : Nat → Int32} {b : Int32} {c : Int32} {d : Int32} {D : Nat} {r : Int32} {s s' : vS} (h : f_Ol_row b c d s = some (r, s')) (hD : 1 ≤ D) : s_Ek (s_rows 3 L xs) D s_e163.1 0 (lv_args 0 [.ref 0, .int b, .int c, .int d]) [] (v_mk s) (v_Q (some (.int r)) s') := by
  unfold f_Ol_row at h
  show s_Ek (s_rows 3 L xs) D s_e163.1 0 [(0, .ref 0), (1, .int b), (2, .int c), (3, .int d)] [] (v_mk s) _
  refine s_ek_bk 1 (P := 1) (ls' := [(0, .ref 0), (1, .int b), (2, .int c), (3, .int d)]) (st' := [.int b]) (M' := v_mk s) rfl ?_
  obtain ⟨r1, s1, e1, h⟩ := v_bd h
  refine v_cS (ν := s_e175.1) (w := 1401) (as := [.int b]) (r := []) (o := some (.int r1)) (by omega) rfl rfl rfl rfl (t_Ol_isShelf e1 (by omega)) ?_
  show s_Ek (s_rows 3 L xs) D s_e163.1 4 [(0, .ref 0), (1, .int b), (2, .int c), (3, .int d)] [.int r1] (v_mk s1) _
  rcases v_if h with ⟨c2, h⟩ | ⟨c2, h⟩
  · refine v_i1t (T := 20) rfl rfl c2 ?_
    refine s_ek_bk 1 (P := 21) (ls' := [(0, .ref 0), (1, .int b), (2, .int c), (3, .int d)]) (st' := [.int (-1)]) (M' := v_mk s1) rfl ?_
    cases h
    exact v_ret (fun _ => rfl)
  · refine v_i1f (T := 20) rfl rfl c2 ?_
    refine s_ek_bk 1 (P := 8) (ls' := [(0, .ref 0), (1, .int b), (2, .int c), (3, .int d)]) (st' := [.int c]) (M' := v_mk s1) rfl ?_
    obtain ⟨r3, s3, e3, h⟩ := v_bd h
    refine v_cS (ν := s_e83.1) (w := 665) (as := [.int c]) (r := []) (o := some (.int r3)) (by omega) rfl rfl rfl rfl (t_Sh_isSort e3 (by omega)) ?_
    show s_Ek (s_rows 3 L xs) D s_e163.1 11 [(0, .ref 0), (1, .int b), (2, .int c), (3, .int d)] [.int r3] (v_mk s3) _
    rcases v_if h with ⟨c4, h⟩ | ⟨c4, h⟩
    · refine v_i1t (T := 20) rfl rfl c4 ?_
      refine s_ek_bk 1 (P := 21) (ls' := [(0, .ref 0), (1, .int b), (2, .int c), (3, .int d)]) (st' := [.int (-1)]) (M' := v_mk s3) rfl ?_
      cases h
      exact v_ret (fun _ => rfl)
    · refine v_i1f (T := 20) rfl rfl c4 ?_
      refine s_ek_bk 2 (P := 17) (ls' := [(0, .ref 0), (1, .int b), (2, .int c), (3, .int d)]) (st' := [.int 60, .int d]) (M' := v_mk s3) rfl ?_
      rcases v_if h with ⟨c5, h⟩ | ⟨c5, h⟩
      · refine v_i2t (T := 22) rfl rfl c5 ?_
        refine s_ek_bk 1 (P := 23) (ls' := [(0, .ref 0), (1, .int b), (2, .int c), (3, .int d)]) (st' := [.int d]) (M' := v_mk s3) rfl ?_
        rcases v_if h with ⟨c6, h⟩ | ⟨c6, h⟩
        · refine v_i1t (T := 29) rfl rfl c6 ?_
          refine s_ek_bk 2 (P := 31) (ls' := [(0, .ref 0), (1, .int b), (2, .int c), (3, .int d)]) (st' := [.int b, .ref 0]) (M' := v_mk s3) rfl ?_
          obtain ⟨r7, s7, e7, h⟩ := v_bd h
          refine v_cV (ν := s_e176.1) (w := 1409) (a := 0) (as' := [.int b]) (r := []) (o := some (.ref r7)) (by omega) rfl rfl rfl (v_mk_kd (k := 10) (rfl : v_kd 0 = 10) (by decide)) rfl (t_Ol_shelfAt e7 (by omega)) ?_
          obtain ⟨c8, h⟩ := v_ck h
          show s_Ek (s_rows 3 L xs) D s_e163.1 34 [(0, .ref 0), (1, .int b), (2, .int c), (3, .int d)] [.ref r7] (v_mk s7) _
          refine s_ek_bk 2 (P := 36) (ls' := [(0, .ref 0), (1, .int b), (2, .int c), (3, .int d)]) (st' := [.int d, .int c, .ref r7]) (M' := v_mk s7) rfl ?_
          obtain ⟨r9, s9, e9, h⟩ := v_bd h
          refine v_cV (ν := s_e88.1) (w := 706) (a := r7) (as' := [.int c, .int d]) (r := []) (o := none) (by omega) rfl rfl rfl (v_mk_kd (k := 6) c8 (by decide)) rfl (t_Sh_takeRow c8 e9 (by omega)) ?_
          show s_Ek (s_rows 3 L xs) D s_e163.1 39 [(0, .ref 0), (1, .int b), (2, .int c), (3, .int d)] [] (v_mk s9) _
          refine s_ek_bk 1 (P := 40) (ls' := [(0, .ref 0), (1, .int b), (2, .int c), (3, .int d)]) (st' := [.int 1]) (M' := v_mk s9) rfl ?_
          cases h
          exact v_ret (fun _ => rfl)
        · refine v_i1f (T := 29) rfl rfl c6 ?_
          refine s_ek_bk 1 (P := 28) (ls' := [(0, .ref 0), (1, .int b), (2, .int c), (3, .int d)]) (st' := [.int (-14)]) (M' := v_mk s3) rfl ?_
          cases h
          exact v_ret (fun _ => rfl)
      · refine v_i2f (T := 22) rfl rfl c5 ?_
        refine s_ek_bk 1 (P := 21) (ls' := [(0, .ref 0), (1, .int b), (2, .int c), (3, .int d)]) (st' := [.int (-1)]) (M' := v_mk s3) rfl ?_
        cases h
        exact v_ret (fun _ => rfl)
noncomputable def f_Md_in (b : Int32) (c : Int32) (d : Int32) (s : vS) : Option (Int32 × vS) := (if b.toInt < c.toInt then (some (0, s)) else (if d.toInt < b.toInt then (some (0, s)) else (some (1, s))))
set_option maxRecDepth 20000 in
set_option maxHeartbeats 4000000 in
theorem t_Md_in {L : Nat} {xs : Nat → Int32} {b : Int32} {c : Int32} {d : Int32} {D : Nat} {r : Int32} {s s' : vS} (h : f_Md_in b c d s = some (r, s')) (hD : 0 ≤ D) : s_Ek (s_rows 3 L xs) D s_e181.1 0 (lv_args 0 [.int b, .int c, .int d]) [] (v_mk s) (v_Q (some (.int r)) s') := by
  unfold f_Md_in at h
  show s_Ek (s_rows 3 L xs) D s_e181.1 0 [(0, .int b), (1, .int c), (2, .int d)] [] (v_mk s) _
  refine s_ek_bk 2 (P := 2) (ls' := [(0, .int b), (1, .int c), (2, .int d)]) (st' := [.int c, .int b]) (M' := v_mk s) rfl ?_
  rcases v_if h with ⟨c1, h⟩ | ⟨c1, h⟩
  · refine v_i2t (T := 14) rfl rfl c1 ?_
    refine s_ek_bk 1 (P := 15) (ls' := [(0, .int b), (1, .int c), (2, .int d)]) (st' := [.int 0]) (M' := v_mk s) rfl ?_
    cases h
    exact v_ret (fun _ => rfl)
  · refine v_i2f (T := 14) rfl rfl c1 ?_
    refine s_ek_bk 2 (P := 7) (ls' := [(0, .int b), (1, .int c), (2, .int d)]) (st' := [.int d, .int b]) (M' := v_mk s) rfl ?_
    rcases v_if h with ⟨c2, h⟩ | ⟨c2, h⟩
    · refine v_i2t (T := 14) rfl rfl c2 ?_
      refine s_ek_bk 1 (P := 15) (ls' := [(0, .int b), (1, .int c), (2, .int d)]) (st' := [.int 0]) (M' := v_mk s) rfl ?_
      cases h
      exact v_ret (fun _ => rfl)
    · refine v_i2f (T := 14) rfl rfl c2 ?_
      refine s_ek_bk 2 (P := 15) (ls' := [(0, .int b), (1, .int c), (2, .int d)]) (st' := [.int 1]) (M' := v_mk s) rfl ?_
      cases h
      exact v_ret (fun _ => rfl)
noncomputable def f_Md_isShelf (b : Int32) (s : vS) : Option (Int32 × vS) := (v_bi (f_Md_in b 0 5 s) (fun r1 s1 => (if r1 = 0 ∨ r1 = 1 then some (r1, s1) else none)))
set_option maxRecDepth 20000 in
set_option maxHeartbeats 4000000 in
theorem t_Md_isShelf {L : Nat} {xs : Nat → Int32} {b : Int32} {D : Nat} {r : Int32} {s s' : vS} (h : f_Md_isShelf b s = some (r, s')) (hD : 1 ≤ D) : s_Ek (s_rows 3 L xs) D s_e281.1 0 (lv_args 0 [.int b]) [] (v_mk s) (v_Q (some (.int r)) s') := by
  unfold f_Md_isShelf at h
  show s_Ek (s_rows 3 L xs) D s_e281.1 0 [(0, .int b)] [] (v_mk s) _
  refine s_ek_bk 3 (P := 3) (ls' := [(0, .int b)]) (st' := [.int 5, .int 0, .int b]) (M' := v_mk s) rfl ?_
  obtain ⟨r1, s1, e1, h⟩ := v_bd h
  refine v_cS (ν := s_e181.1) (w := 1451) (as := [.int b, .int 0, .int 5]) (r := []) (o := some (.int r1)) (by omega) rfl rfl rfl rfl (t_Md_in e1 (by omega)) ?_
  show s_Ek (s_rows 3 L xs) D s_e281.1 6 [(0, .int b)] [.int r1] (v_mk s1) _
  obtain ⟨c2, h⟩ := v_ck h
  cases h
  exact v_zret rfl rfl c2
noncomputable def f_Md_row_L54b (p1 : Int32) (k80 : vS → Option (Int32 × vS)) (again : Int32 → vS → Option (Int32 × vS)) (v4 : Int32) (s : vS) : Option (Int32 × vS) := (if (((60 : Int32) * p1) + (60 : Int32)).toInt ≤ v4.toInt then (k80 s) else (if v_in v4 360 then (v_let (v_w2 s 183 (Int32.toNatClampNeg v4) 0) (fun s113 => (again (v4 + 1) s113))) else none))
noncomputable def f_Md_row_L54 (p1 : Int32) (k80 : vS → Option (Int32 × vS)) (n : Nat) : Int32 → vS → Option (Int32 × vS) := Nat.rec (motive := fun _ => Int32 → vS → Option (Int32 × vS)) (fun _ _ => none) (fun _ again => f_Md_row_L54b p1 k80 again) n
noncomputable def f_Md_row (b : Int32) (c : Int32) (d : Int32) (s : vS) : Option (Int32 × vS) := (v_bi (f_Md_isShelf b s) (fun r1 s1 => (if r1.toInt = 0 then (some ((-1), s1)) else (v_bi (f_Md_in c 0 4 s1) (fun r3 s3 => (if r3.toInt = 0 then (some ((-1), s3)) else (if d.toInt ≤ 60 then (if 0 ≤ d.toInt then (if v_in b 6 then (v_let (v_w1 s3 181 (Int32.toNatClampNeg b) (((-2) : Int32) - c)) (fun s8 => (if v_in b 6 then (v_let (v_w1 s8 182 (Int32.toNatClampNeg b) d) (fun s10 => (f_Md_row_L54 b (fun s11 => (some (1, s11))) 4096 ((60 : Int32) * b) s10))) else none))) else none) else (some ((-14), s3))) else (some ((-1), s3)))))))))
set_option maxRecDepth 20000 in
set_option maxHeartbeats 4000000 in
theorem t_Md_row_L54 {L : Nat} {xs : Nat → Int32} {p1 : Int32} {k80 : vS → Option (Int32 × vS)} {D : Nat} (hD : 2 ≤ D) {r : Int32} {s' : vS} (hk80 : ∀ (s : vS), k80 s = some (r, s') → s_Ek (s_rows 3 L xs) D s_e283.1 80 [] [] (v_mk s) (v_Q (some (.int r)) s')) : ∀ (n : Nat) (v4 : Int32) (s : vS), f_Md_row_L54 p1 k80 n v4 s = some (r, s') → s_Ek (s_rows 3 L xs) D s_e283.1 54 [(0, .ref 151), (1, .int p1), (4, .int v4)] [] (v_mk s) (v_Q (some (.int r)) s') := by
  intro n
  induction n with
  | zero => intro v4 s h; exact nomatch (show (none : Option (Int32 × vS)) = some (r, s') from h)
  | succ n ih =>
    intro v4 s h
    replace h : f_Md_row_L54b p1 k80 (f_Md_row_L54 p1 k80 n) v4 s = some (r, s') := h
    unfold f_Md_row_L54b at h
    refine s_ek_bk 6 (P := 63) (ls' := [(0, .ref 151), (1, .int p1), (4, .int v4)]) (st' := [.int (((60 : Int32) * p1) + (60 : Int32)), .int v4]) (M' := v_mk s) rfl ?_
    rcases v_if h with ⟨c111, h⟩ | ⟨c111, h⟩
    · refine v_i2t (T := 80) rfl rfl c111 ?_
      refine v_ls (ls' := []) trivial (show ([] : List Nat).Nodup from by decide) ?_
      exact hk80 _ h
    · refine v_i2f (T := 80) rfl rfl c111 ?_
      refine s_ek_bk 1 (P := 67) (ls' := [(0, .ref 151), (1, .int p1), (4, .int v4)]) (st' := [.ref 151]) (M' := v_mk s) rfl ?_
      refine v_gf rfl (v_gr (rfl : v_kd 151 = 11) (rfl : v_sl 151 48 = .ref 183) ⟨rfl, rfl, by decide⟩) ?_
      refine s_ek_bk 2 (P := 73) (ls' := [(0, .ref 151), (1, .int p1), (4, .int v4)]) (st' := [.long 0, .int v4, .ref 183]) (M' := v_mk s) rfl ?_
      obtain ⟨c112, h⟩ := v_ck h
      obtain ⟨s113, es113, h⟩ := v_ld h
      refine v_lst (M' := v_mk s113) (i := v4) rfl (by rw [es113]; exact v_pal (rfl : v_kd 183 = 14) rfl (by decide) v_all14 (v_cn (rfl : v_ln 183 = 360) c112)) ?_
      refine s_ek_bk 2 (P := 54) (ls' := [(4, .int (v4 + 1)), (0, .ref 151), (1, .int p1)]) (st' := []) (M' := v_mk s113) rfl ?_
      refine v_ls (ls' := [(0, .ref 151), (1, .int p1), (4, .int (v4 + 1))]) ⟨rfl, rfl, rfl, trivial⟩ (show ([0, 1, 4] : List Nat).Nodup from by decide) ?_
      exact ih _ _ h
set_option maxRecDepth 20000 in
set_option maxHeartbeats 4000000 in
theorem t_Md_row {L : Nat} {xs : Nat → Int32} {b : Int32} {c : Int32} {d : Int32} {D : Nat} {r : Int32} {s s' : vS} (h : f_Md_row b c d s = some (r, s')) (hD : 2 ≤ D) : s_Ek (s_rows 3 L xs) D s_e283.1 0 (lv_args 0 [.ref 151, .int b, .int c, .int d]) [] (v_mk s) (v_Q (some (.int r)) s') := by
  unfold f_Md_row at h
  show s_Ek (s_rows 3 L xs) D s_e283.1 0 [(0, .ref 151), (1, .int b), (2, .int c), (3, .int d)] [] (v_mk s) _
  refine s_ek_bk 1 (P := 1) (ls' := [(0, .ref 151), (1, .int b), (2, .int c), (3, .int d)]) (st' := [.int b]) (M' := v_mk s) rfl ?_
  obtain ⟨r1, s1, e1, h⟩ := v_bd h
  refine v_cS (ν := s_e281.1) (w := 2249) (as := [.int b]) (r := []) (o := some (.int r1)) (by omega) rfl rfl rfl rfl (t_Md_isShelf e1 (by omega)) ?_
  show s_Ek (s_rows 3 L xs) D s_e283.1 4 [(0, .ref 151), (1, .int b), (2, .int c), (3, .int d)] [.int r1] (v_mk s1) _
  rcases v_if h with ⟨c2, h⟩ | ⟨c2, h⟩
  · refine v_i1t (T := 22) rfl rfl c2 ?_
    refine s_ek_bk 1 (P := 23) (ls' := [(0, .ref 151), (1, .int b), (2, .int c), (3, .int d)]) (st' := [.int (-1)]) (M' := v_mk s1) rfl ?_
    cases h
    exact v_ret (fun _ => rfl)
  · refine v_i1f (T := 22) rfl rfl c2 ?_
    refine s_ek_bk 3 (P := 10) (ls' := [(0, .ref 151), (1, .int b), (2, .int c), (3, .int d)]) (st' := [.int 4, .int 0, .int c]) (M' := v_mk s1) rfl ?_
    obtain ⟨r3, s3, e3, h⟩ := v_bd h
    refine v_cS (ν := s_e181.1) (w := 1451) (as := [.int c, .int 0, .int 4]) (r := []) (o := some (.int r3)) (by omega) rfl rfl rfl rfl (t_Md_in e3 (by omega)) ?_
    show s_Ek (s_rows 3 L xs) D s_e283.1 13 [(0, .ref 151), (1, .int b), (2, .int c), (3, .int d)] [.int r3] (v_mk s3) _
    rcases v_if h with ⟨c4, h⟩ | ⟨c4, h⟩
    · refine v_i1t (T := 22) rfl rfl c4 ?_
      refine s_ek_bk 1 (P := 23) (ls' := [(0, .ref 151), (1, .int b), (2, .int c), (3, .int d)]) (st' := [.int (-1)]) (M' := v_mk s3) rfl ?_
      cases h
      exact v_ret (fun _ => rfl)
    · refine v_i1f (T := 22) rfl rfl c4 ?_
      refine s_ek_bk 2 (P := 19) (ls' := [(0, .ref 151), (1, .int b), (2, .int c), (3, .int d)]) (st' := [.int 60, .int d]) (M' := v_mk s3) rfl ?_
      rcases v_if h with ⟨c5, h⟩ | ⟨c5, h⟩
      · refine v_i2t (T := 24) rfl rfl c5 ?_
        refine s_ek_bk 1 (P := 25) (ls' := [(0, .ref 151), (1, .int b), (2, .int c), (3, .int d)]) (st' := [.int d]) (M' := v_mk s3) rfl ?_
        rcases v_if h with ⟨c6, h⟩ | ⟨c6, h⟩
        · refine v_i1t (T := 31) rfl rfl c6 ?_
          refine s_ek_bk 1 (P := 32) (ls' := [(0, .ref 151), (1, .int b), (2, .int c), (3, .int d)]) (st' := [.ref 151]) (M' := v_mk s3) rfl ?_
          refine v_gf rfl (v_gr (rfl : v_kd 151 = 11) (rfl : v_sl 151 46 = .ref 181) ⟨rfl, rfl, by decide⟩) ?_
          refine s_ek_bk 4 (P := 40) (ls' := [(0, .ref 151), (1, .int b), (2, .int c), (3, .int d)]) (st' := [.int (((-2) : Int32) - c), .int b, .ref 181]) (M' := v_mk s3) rfl ?_
          obtain ⟨c7, h⟩ := v_ck h
          obtain ⟨s8, es8, h⟩ := v_ld h
          refine v_ist (M' := v_mk s8) (i := b) rfl (by rw [es8]; exact v_pai (rfl : v_kd 181 = 13) rfl (by decide) v_all13 (v_cn (rfl : v_ln 181 = 6) c7)) ?_
          refine s_ek_bk 1 (P := 42) (ls' := [(0, .ref 151), (1, .int b), (2, .int c), (3, .int d)]) (st' := [.ref 151]) (M' := v_mk s8) rfl ?_
          refine v_gf rfl (v_gr (rfl : v_kd 151 = 11) (rfl : v_sl 151 47 = .ref 182) ⟨rfl, rfl, by decide⟩) ?_
          refine s_ek_bk 2 (P := 47) (ls' := [(0, .ref 151), (1, .int b), (2, .int c), (3, .int d)]) (st' := [.int d, .int b, .ref 182]) (M' := v_mk s8) rfl ?_
          obtain ⟨c9, h⟩ := v_ck h
          obtain ⟨s10, es10, h⟩ := v_ld h
          refine v_ist (M' := v_mk s10) (i := b) rfl (by rw [es10]; exact v_pai (rfl : v_kd 182 = 13) rfl (by decide) v_all13 (v_cn (rfl : v_ln 182 = 6) c9)) ?_
          refine s_ek_bk 4 (P := 54) (ls' := [(4, .int ((60 : Int32) * b)), (0, .ref 151), (1, .int b), (2, .int c), (3, .int d)]) (st' := []) (M' := v_mk s10) rfl ?_
          refine v_ls (ls' := [(0, .ref 151), (1, .int b), (4, .int ((60 : Int32) * b))]) ⟨rfl, rfl, rfl, trivial⟩ (show ([0, 1, 4] : List Nat).Nodup from by decide) ?_
          refine t_Md_row_L54 (by omega) (fun s11 h => ?_) 4096 _ _ h
          show s_Ek (s_rows 3 L xs) D s_e283.1 80 [] [] (v_mk s11) _
          refine s_ek_bk 1 (P := 81) (ls' := []) (st' := [.int 1]) (M' := v_mk s11) rfl ?_
          cases h
          exact v_ret (fun _ => rfl)
        · refine v_i1f (T := 31) rfl rfl c6 ?_
          refine s_ek_bk 1 (P := 30) (ls' := [(0, .ref 151), (1, .int b), (2, .int c), (3, .int d)]) (st' := [.int (-14)]) (M' := v_mk s3) rfl ?_
          cases h
          exact v_ret (fun _ => rfl)
      · refine v_i2f (T := 24) rfl rfl c5 ?_
        refine s_ek_bk 1 (P := 23) (ls' := [(0, .ref 151), (1, .int b), (2, .int c), (3, .int d)]) (st' := [.int (-1)]) (M' := v_mk s3) rfl ?_
        cases h
        exact v_ret (fun _ => rfl)
