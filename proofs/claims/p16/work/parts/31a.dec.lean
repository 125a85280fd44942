/-! functions over the store, and the runs that they stand for: Cs_placeOf Cs_digit Cs_numberOf Cs_clear Cs_fill Cs_add Cs_has Cs_takeBoth Lo_bitCount Cs_size Cs_first Ch_dropFirst Ch_add Ch_forget Ch_latest Ch_next Ch_stepBack Ch_stepOn Ch_number Ch_what Ch_was Ch_became Cl_isKind Cl_above Cl_isUnder Cl_add Cl_knows Cl_kindOf Cl_traced -/
theorem v_so {α β : Type} {a c : α} {b d : β} (h : some (a, b) = some (c, d)) : a = c ∧ b = d := Prod.mk.inj (Option.some.inj h)
noncomputable def f_Cs_placeOf (b : Int32) (s : vS) : Option (Int32 × vS) := (if b.toInt < 0 then (some ((-1), s)) else (if 444 < b.toInt then (some ((-1), s)) else (if 4 < ((b / (10 : Int32)) - (b / (10 : Int32)) / (10 : Int32) * (10 : Int32)).toInt then (some ((-1), s)) else (if (b - b / (10 : Int32) * (10 : Int32)).toInt ≤ 4 then (some (((((b / (100 : Int32)) * (25 : Int32)) + (((b / (10 : Int32)) - (b / (10 : Int32)) / (10 : Int32) * (10 : Int32)) * (5 : Int32))) + (b - b / (10 : Int32) * (10 : Int32))), s)) else (some ((-1), s))))))
set_option maxRecDepth 20000 in
set_option maxHeartbeats 4000000 in
theorem t_Cs_placeOf {L : Nat} {xs : Nat → Int32} {b : Int32} {D : Nat} {r : Int32} {s s' : vS} (h : f_Cs_placeOf b s = some (r, s')) (hD : 0 ≤ D) : s_Ek (s_rows 3 L xs) D s_e2.1 0 (lv_args 0 [.int b]) [] (v_mk s) (v_Q (some (.int r)) s') := by
  unfold f_Cs_placeOf at h
  show s_Ek (s_rows 3 L xs) D s_e2.1 0 [(0, .int b)] [] (v_mk s) _
  refine s_ek_bk 1 (P := 1) (ls' := [(0, .int b)]) (st' := [.int b]) (M' := v_mk s) rfl ?_
  rcases v_if h with ⟨c1, h⟩ | ⟨c1, h⟩
  · refine v_i1t (T := 30) rfl rfl c1 ?_
    refine s_ek_bk 1 (P := 31) (ls' := [(0, .int b)]) (st' := [.int (-1)]) (M' := v_mk s) rfl ?_
    obtain ⟨rfl, rfl⟩ := v_so h
    exact v_ret (fun _ => rfl)
  · refine v_i1f (T := 30) rfl rfl c1 ?_
    refine s_ek_bk 2 (P := 8) (ls' := [(0, .int b)]) (st' := [.int 444, .int b]) (M' := v_mk s) rfl ?_
    rcases v_if h with ⟨c2, h⟩ | ⟨c2, h⟩
    · refine v_i2t (T := 30) rfl rfl c2 ?_
      refine s_ek_bk 1 (P := 31) (ls' := [(0, .int b)]) (st' := [.int (-1)]) (M' := v_mk s) rfl ?_
      obtain ⟨rfl, rfl⟩ := v_so h
      exact v_ret (fun _ => rfl)
    · refine v_i2f (T := 30) rfl rfl c2 ?_
      refine s_ek_bk 6 (P := 19) (ls' := [(0, .int b)]) (st' := [.int 4, .int ((b / (10 : Int32)) - (b / (10 : Int32)) / (10 : Int32) * (10 : Int32))]) (M' := v_mk s) rfl ?_
      rcases v_if h with ⟨c3, h⟩ | ⟨c3, h⟩
      · refine v_i2t (T := 30) rfl rfl c3 ?_
        refine s_ek_bk 1 (P := 31) (ls' := [(0, .int b)]) (st' := [.int (-1)]) (M' := v_mk s) rfl ?_
        obtain ⟨rfl, rfl⟩ := v_so h
        exact v_ret (fun _ => rfl)
      · refine v_i2f (T := 30) rfl rfl c3 ?_
        refine s_ek_bk 4 (P := 27) (ls' := [(0, .int b)]) (st' := [.int 4, .int (b - b / (10 : Int32) * (10 : Int32))]) (M' := v_mk s) rfl ?_
        rcases v_if h with ⟨c4, h⟩ | ⟨c4, h⟩
        · refine v_i2t (T := 32) rfl rfl c4 ?_
          refine s_ek_bk 17 (P := 54) (ls' := [(0, .int b)]) (st' := [.int ((((b / (100 : Int32)) * (25 : Int32)) + (((b / (10 : Int32)) - (b / (10 : Int32)) / (10 : Int32) * (10 : Int32)) * (5 : Int32))) + (b - b / (10 : Int32) * (10 : Int32)))]) (M' := v_mk s) rfl ?_
          obtain ⟨rfl, rfl⟩ := v_so h
          exact v_ret (fun _ => rfl)
        · refine v_i2f (T := 32) rfl rfl c4 ?_
          refine s_ek_bk 1 (P := 31) (ls' := [(0, .int b)]) (st' := [.int (-1)]) (M' := v_mk s) rfl ?_
          obtain ⟨rfl, rfl⟩ := v_so h
          exact v_ret (fun _ => rfl)
noncomputable def f_Cs_digit (b : Int32) (c : Int32) (s : vS) : Option (Int32 × vS) := (if c.toInt = 0 then (some ((b / (25 : Int32)), s)) else (if c.toInt = 1 then (some (((b / (5 : Int32)) - (b / (5 : Int32)) / (5 : Int32) * (5 : Int32)), s)) else (some ((b - b / (5 : Int32) * (5 : Int32)), s))))
set_option maxRecDepth 20000 in
set_option maxHeartbeats 4000000 in
theorem t_Cs_digit {L : Nat} {xs : Nat → Int32} {b : Int32} {c : Int32} {D : Nat} {r : Int32} {s s' : vS} (h : f_Cs_digit b c s = some (r, s')) (hD : 0 ≤ D) : s_Ek (s_rows 3 L xs) D s_e4.1 0 (lv_args 0 [.int b, .int c]) [] (v_mk s) (v_Q (some (.int r)) s') := by
  unfold f_Cs_digit at h
  show s_Ek (s_rows 3 L xs) D s_e4.1 0 [(0, .int b), (1, .int c)] [] (v_mk s) _
  refine s_ek_bk 1 (P := 1) (ls' := [(0, .int b), (1, .int c)]) (st' := [.int c]) (M' := v_mk s) rfl ?_
  rcases v_if h with ⟨c1, h⟩ | ⟨c1, h⟩
  · refine v_i1f (T := 9) rfl rfl (fun q => q c1) ?_
    refine s_ek_bk 3 (P := 8) (ls' := [(0, .int b), (1, .int c)]) (st' := [.int (b / (25 : Int32))]) (M' := v_mk s) rfl ?_
    obtain ⟨rfl, rfl⟩ := v_so h
    exact v_ret (fun _ => rfl)
  · refine v_i1t (T := 9) rfl rfl c1 ?_
    refine s_ek_bk 2 (P := 11) (ls' := [(0, .int b), (1, .int c)]) (st' := [.int 1, .int c]) (M' := v_mk s) rfl ?_
    rcases v_if h with ⟨c2, h⟩ | ⟨c2, h⟩
    · refine v_i2f (T := 22) rfl rfl (fun q => q c2) ?_
      refine s_ek_bk 6 (P := 25) (ls' := [(0, .int b), (1, .int c)]) (st' := [.int ((b / (5 : Int32)) - (b / (5 : Int32)) / (5 : Int32) * (5 : Int32))]) (M' := v_mk s) rfl ?_
      obtain ⟨rfl, rfl⟩ := v_so h
      exact v_ret (fun _ => rfl)
    · refine v_i2t (T := 22) rfl rfl c2 ?_
      refine s_ek_bk 3 (P := 25) (ls' := [(0, .int b), (1, .int c)]) (st' := [.int (b - b / (5 : Int32) * (5 : Int32))]) (M' := v_mk s) rfl ?_
      obtain ⟨rfl, rfl⟩ := v_so h
      exact v_ret (fun _ => rfl)
noncomputable def f_Cs_numberOf (b : Int32) (s : vS) : Option (Int32 × vS) := (v_bi (f_Cs_digit b 0 s) (fun r1 s1 => (v_bi (f_Cs_digit b 1 s1) (fun r2 s2 => (v_bi (f_Cs_digit b 2 s2) (fun r3 s3 => (some ((((r1 * (100 : Int32)) + (r2 * (10 : Int32))) + r3), s3))))))))
set_option maxRecDepth 20000 in
set_option maxHeartbeats 4000000 in
theorem t_Cs_numberOf {L : Nat} {xs : Nat → Int32} {b : Int32} {D : Nat} {r : Int32} {s s' : vS} (h : f_Cs_numberOf b s = some (r, s')) (hD : 1 ≤ D) : s_Ek (s_rows 3 L xs) D s_e3.1 0 (lv_args 0 [.int b]) [] (v_mk s) (v_Q (some (.int r)) s') := by
  unfold f_Cs_numberOf at h
  show s_Ek (s_rows 3 L xs) D s_e3.1 0 [(0, .int b)] [] (v_mk s) _
  refine s_ek_bk 2 (P := 2) (ls' := [(0, .int b)]) (st' := [.int 0, .int b]) (M' := v_mk s) rfl ?_
  obtain ⟨r1, s1, e1, h⟩ := v_bd h
  refine v_cS (ν := s_e4.1) (w := 34) (as := [.int b, .int 0]) (r := []) (o := some (.int r1)) (by omega) rfl rfl rfl rfl (t_Cs_digit e1 (by omega)) ?_
  show s_Ek (s_rows 3 L xs) D s_e3.1 5 [(0, .int b)] [.int r1] (v_mk s1) _
  refine s_ek_bk 4 (P := 10) (ls' := [(0, .int b)]) (st' := [.int 1, .int b, .int (r1 * (100 : Int32))]) (M' := v_mk s1) rfl ?_
  obtain ⟨r2, s2, e2, h⟩ := v_bd h
  refine v_cS (ν := s_e4.1) (w := 34) (as := [.int b, .int 1]) (r := [.int (r1 * (100 : Int32))]) (o := some (.int r2)) (by omega) rfl rfl rfl rfl (t_Cs_digit e2 (by omega)) ?_
  show s_Ek (s_rows 3 L xs) D s_e3.1 13 [(0, .int b)] [.int r2, .int (r1 * (100 : Int32))] (v_mk s2) _
  refine s_ek_bk 5 (P := 19) (ls' := [(0, .int b)]) (st' := [.int 2, .int b, .int ((r1 * (100 : Int32)) + (r2 * (10 : Int32)))]) (M' := v_mk s2) rfl ?_
  obtain ⟨r3, s3, e3, h⟩ := v_bd h
  refine v_cS (ν := s_e4.1) (w := 34) (as := [.int b, .int 2]) (r := [.int ((r1 * (100 : Int32)) + (r2 * (10 : Int32)))]) (o := some (.int r3)) (by omega) rfl rfl rfl rfl (t_Cs_digit e3 (by omega)) ?_
  show s_Ek (s_rows 3 L xs) D s_e3.1 22 [(0, .int b)] [.int r3, .int ((r1 * (100 : Int32)) + (r2 * (10 : Int32)))] (v_mk s3) _
  refine s_ek_bk 1 (P := 23) (ls' := [(0, .int b)]) (st' := [.int (((r1 * (100 : Int32)) + (r2 * (10 : Int32))) + r3)]) (M' := v_mk s3) rfl ?_
  obtain ⟨rfl, rfl⟩ := v_so h
  exact v_ret (fun _ => rfl)
noncomputable def f_Cs_clear (a : Nat) (s : vS) : Option (Unit × vS) := (v_let (v_w2 s a 0 0) (fun s1 => (v_let (v_w2 s1 a 1 0) (fun s2 => (some ((), s2))))))
set_option maxRecDepth 20000 in
set_option maxHeartbeats 4000000 in
theorem t_Cs_clear {L : Nat} {xs : Nat → Int32} {a : Nat} (ha : v_kd a = 0) {D : Nat} {r : Unit} {s s' : vS} (h : f_Cs_clear a s = some (r, s')) (hD : 0 ≤ D) : s_Ek (s_rows 3 L xs) D s_e5.1 0 (lv_args 0 [.ref a]) [] (v_mk s) (v_Q none s') := by
  unfold f_Cs_clear at h
  show s_Ek (s_rows 3 L xs) D s_e5.1 0 [(0, .ref a)] [] (v_mk s) _
  refine s_ek_bk 2 (P := 2) (ls' := [(0, .ref a)]) (st' := [.long 0, .ref a]) (M' := v_mk s) rfl ?_
  obtain ⟨s1, es1, h⟩ := v_ld h
  refine v_pf (M' := v_mk s1) rfl (by rw [es1]; exact v_pl ha (v_tK (j := 0) v_is0 (by decide) ha) ⟨rfl, rfl, by decide⟩ rfl) ?_
  refine s_ek_bk 2 (P := 7) (ls' := [(0, .ref a)]) (st' := [.long 0, .ref a]) (M' := v_mk s1) rfl ?_
  obtain ⟨s2, es2, h⟩ := v_ld h
  refine v_pf (M' := v_mk s2) rfl (by rw [es2]; exact v_pl ha (v_tK (j := 1) v_is0 (by decide) ha) ⟨rfl, rfl, by decide⟩ rfl) ?_
  obtain ⟨rfl, rfl⟩ := v_so h
  exact v_ret (fun _ => rfl)
noncomputable def f_Cs_fill (a : Nat) (s : vS) : Option (Unit × vS) := (v_let (v_w2 s a 0 (-1)) (fun s1 => (v_let (v_w2 s1 a 1 2305843009213693951) (fun s2 => (some ((), s2))))))
set_option maxRecDepth 20000 in
set_option maxHeartbeats 4000000 in
theorem t_Cs_fill {L : Nat} {xs : Nat → Int32} {a : Nat} (ha : v_kd a = 0) {D : Nat} {r : Unit} {s s' : vS} (h : f_Cs_fill a s = some (r, s')) (hD : 0 ≤ D) : s_Ek (s_rows 3 L xs) D s_e6.1 0 (lv_args 0 [.ref a]) [] (v_mk s) (v_Q none s') := by
  unfold f_Cs_fill at h
  show s_Ek (s_rows 3 L xs) D s_e6.1 0 [(0, .ref a)] [] (v_mk s) _
  refine s_ek_bk 2 (P := 4) (ls' := [(0, .ref a)]) (st' := [.long (-1), .ref a]) (M' := v_mk s) rfl ?_
  obtain ⟨s1, es1, h⟩ := v_ld h
  refine v_pf (M' := v_mk s1) rfl (by rw [es1]; exact v_pl ha (v_tK (j := 0) v_is0 (by decide) ha) ⟨rfl, rfl, by decide⟩ rfl) ?_
  refine s_ek_bk 2 (P := 11) (ls' := [(0, .ref a)]) (st' := [.long 2305843009213693951, .ref a]) (M' := v_mk s1) rfl ?_
  obtain ⟨s2, es2, h⟩ := v_ld h
  refine v_pf (M' := v_mk s2) rfl (by rw [es2]; exact v_pl ha (v_tK (j := 1) v_is0 (by decide) ha) ⟨rfl, rfl, by decide⟩ rfl) ?_
  obtain ⟨rfl, rfl⟩ := v_so h
  exact v_ret (fun _ => rfl)
noncomputable def f_Cs_add (a : Nat) (b : Int32) (s : vS) : Option (Unit × vS) := (if b.toInt < 0 then (if b.toInt < 64 then (some ((), s)) else (if 125 ≤ b.toInt then (some ((), s)) else (v_let (v_w2 s a 1 ((s.2 a 1) ||| ((1 : Int64) <<< ((Int32.toInt64 (b - (64 : Int32))) &&& 63)))) (fun s4 => (some ((), s4)))))) else (if 64 ≤ b.toInt then (if b.toInt < 64 then (some ((), s)) else (if 125 ≤ b.toInt then (some ((), s)) else (v_let (v_w2 s a 1 ((s.2 a 1) ||| ((1 : Int64) <<< ((Int32.toInt64 (b - (64 : Int32))) &&& 63)))) (fun s8 => (some ((), s8)))))) else (v_let (v_w2 s a 0 ((s.2 a 0) ||| ((1 : Int64) <<< ((Int32.toInt64 b) &&& 63)))) (fun s9 => (some ((), s9))))))
set_option maxRecDepth 20000 in
set_option maxHeartbeats 4000000 in
theorem t_Cs_add {L : Nat} {xs : Nat → Int32} {a : Nat} {b : Int32} (ha : v_kd a = 0) {D : Nat} {r : Unit} {s s' : vS} (h : f_Cs_add a b s = some (r, s')) (hD : 0 ≤ D) : s_Ek (s_rows 3 L xs) D s_e7.1 0 (lv_args 0 [.ref a, .int b]) [] (v_mk s) (v_Q none s') := by
  unfold f_Cs_add at h
  show s_Ek (s_rows 3 L xs) D s_e7.1 0 [(0, .ref a), (1, .int b)] [] (v_mk s) _
  refine s_ek_bk 1 (P := 1) (ls' := [(0, .ref a), (1, .int b)]) (st' := [.int b]) (M' := v_mk s) rfl ?_
  rcases v_if h with ⟨c1, h⟩ | ⟨c1, h⟩
  · refine v_i1t (T := 25) rfl rfl c1 ?_
    refine s_ek_bk 2 (P := 28) (ls' := [(0, .ref a), (1, .int b)]) (st' := [.int 64, .int b]) (M' := v_mk s) rfl ?_
    rcases v_if h with ⟨c2, h⟩ | ⟨c2, h⟩
    · refine v_i2t (T := 52) rfl rfl c2 ?_
      obtain ⟨rfl, rfl⟩ := v_so h
      exact v_ret (fun _ => rfl)
    · refine v_i2f (T := 52) rfl rfl c2 ?_
      refine s_ek_bk 2 (P := 34) (ls' := [(0, .ref a), (1, .int b)]) (st' := [.int 125, .int b]) (M' := v_mk s) rfl ?_
      rcases v_if h with ⟨c3, h⟩ | ⟨c3, h⟩
      · refine v_i2t (T := 52) rfl rfl c3 ?_
        obtain ⟨rfl, rfl⟩ := v_so h
        exact v_ret (fun _ => rfl)
      · refine v_i2f (T := 52) rfl rfl c3 ?_
        refine s_ek_bk 2 (P := 39) (ls' := [(0, .ref a), (1, .int b)]) (st' := [.ref a, .ref a]) (M' := v_mk s) rfl ?_
        refine v_gf rfl (v_gl ha (v_tK (j := 1) v_is0 (by decide) ha) ⟨rfl, rfl, by decide⟩) ?_
        refine s_ek_bk 6 (P := 49) (ls' := [(0, .ref a), (1, .int b)]) (st' := [.long ((s.2 a 1) ||| ((1 : Int64) <<< ((Int32.toInt64 (b - (64 : Int32))) &&& 63))), .ref a]) (M' := v_mk s) rfl ?_
        obtain ⟨s4, es4, h⟩ := v_ld h
        refine v_pf (M' := v_mk s4) rfl (by rw [es4]; exact v_pl ha (v_tK (j := 1) v_is0 (by decide) ha) ⟨rfl, rfl, by decide⟩ rfl) ?_
        obtain ⟨rfl, rfl⟩ := v_so h
        exact v_ret (fun _ => rfl)
  · refine v_i1f (T := 25) rfl rfl c1 ?_
    refine s_ek_bk 2 (P := 7) (ls' := [(0, .ref a), (1, .int b)]) (st' := [.int 64, .int b]) (M' := v_mk s) rfl ?_
    rcases v_if h with ⟨c5, h⟩ | ⟨c5, h⟩
    · refine v_i2t (T := 25) rfl rfl c5 ?_
      refine s_ek_bk 2 (P := 28) (ls' := [(0, .ref a), (1, .int b)]) (st' := [.int 64, .int b]) (M' := v_mk s) rfl ?_
      rcases v_if h with ⟨c6, h⟩ | ⟨c6, h⟩
      · refine v_i2t (T := 52) rfl rfl c6 ?_
        obtain ⟨rfl, rfl⟩ := v_so h
        exact v_ret (fun _ => rfl)
      · refine v_i2f (T := 52) rfl rfl c6 ?_
        refine s_ek_bk 2 (P := 34) (ls' := [(0, .ref a), (1, .int b)]) (st' := [.int 125, .int b]) (M' := v_mk s) rfl ?_
        rcases v_if h with ⟨c7, h⟩ | ⟨c7, h⟩
        · refine v_i2t (T := 52) rfl rfl c7 ?_
          obtain ⟨rfl, rfl⟩ := v_so h
          exact v_ret (fun _ => rfl)
        · refine v_i2f (T := 52) rfl rfl c7 ?_
          refine s_ek_bk 2 (P := 39) (ls' := [(0, .ref a), (1, .int b)]) (st' := [.ref a, .ref a]) (M' := v_mk s) rfl ?_
          refine v_gf rfl (v_gl ha (v_tK (j := 1) v_is0 (by decide) ha) ⟨rfl, rfl, by decide⟩) ?_
          refine s_ek_bk 6 (P := 49) (ls' := [(0, .ref a), (1, .int b)]) (st' := [.long ((s.2 a 1) ||| ((1 : Int64) <<< ((Int32.toInt64 (b - (64 : Int32))) &&& 63))), .ref a]) (M' := v_mk s) rfl ?_
          obtain ⟨s8, es8, h⟩ := v_ld h
          refine v_pf (M' := v_mk s8) rfl (by rw [es8]; exact v_pl ha (v_tK (j := 1) v_is0 (by decide) ha) ⟨rfl, rfl, by decide⟩ rfl) ?_
          obtain ⟨rfl, rfl⟩ := v_so h
          exact v_ret (fun _ => rfl)
    · refine v_i2f (T := 25) rfl rfl c5 ?_
      refine s_ek_bk 2 (P := 12) (ls' := [(0, .ref a), (1, .int b)]) (st' := [.ref a, .ref a]) (M' := v_mk s) rfl ?_
      refine v_gf rfl (v_gl ha (v_tK (j := 0) v_is0 (by decide) ha) ⟨rfl, rfl, by decide⟩) ?_
      refine s_ek_bk 4 (P := 19) (ls' := [(0, .ref a), (1, .int b)]) (st' := [.long ((s.2 a 0) ||| ((1 : Int64) <<< ((Int32.toInt64 b) &&& 63))), .ref a]) (M' := v_mk s) rfl ?_
      obtain ⟨s9, es9, h⟩ := v_ld h
      refine v_pf (M' := v_mk s9) rfl (by rw [es9]; exact v_pl ha (v_tK (j := 0) v_is0 (by decide) ha) ⟨rfl, rfl, by decide⟩ rfl) ?_
      refine s_ek_bk 1 (P := 52) (ls' := [(0, .ref a), (1, .int b)]) (st' := []) (M' := v_mk s9) rfl ?_
      obtain ⟨rfl, rfl⟩ := v_so h
      exact v_ret (fun _ => rfl)
noncomputable def f_Cs_has (a : Nat) (b : Int32) (s : vS) : Option (Int32 × vS) := (if b.toInt < 0 then (some (0, s)) else (if b.toInt < 125 then (if 64 ≤ b.toInt then (if (lg_cmp ((((Int64.toUInt64 (s.2 a 1)) >>> ((Int64.toUInt64 (Int32.toInt64 (b - (64 : Int32)))) &&& Int64.toUInt64 63)).toInt64) &&& (1 : Int64)) (0 : Int64)).toInt = 0 then (some (0, s)) else (some (1, s))) else (if (lg_cmp ((((Int64.toUInt64 (s.2 a 0)) >>> ((Int64.toUInt64 (Int32.toInt64 b)) &&& Int64.toUInt64 63)).toInt64) &&& (1 : Int64)) (0 : Int64)).toInt = 0 then (some (0, s)) else (some (1, s)))) else (some (0, s))))
set_option maxRecDepth 20000 in
set_option maxHeartbeats 4000000 in
theorem t_Cs_has {L : Nat} {xs : Nat → Int32} {a : Nat} {b : Int32} (ha : v_kd a = 0) {D : Nat} {r : Int32} {s s' : vS} (h : f_Cs_has a b s = some (r, s')) (hD : 0 ≤ D) : s_Ek (s_rows 3 L xs) D s_e8.1 0 (lv_args 0 [.ref a, .int b]) [] (v_mk s) (v_Q (some (.int r)) s') := by
  unfold f_Cs_has at h
  show s_Ek (s_rows 3 L xs) D s_e8.1 0 [(0, .ref a), (1, .int b)] [] (v_mk s) _
  refine s_ek_bk 1 (P := 1) (ls' := [(0, .ref a), (1, .int b)]) (st' := [.int b]) (M' := v_mk s) rfl ?_
  rcases v_if h with ⟨c1, h⟩ | ⟨c1, h⟩
  · refine v_i1t (T := 10) rfl rfl c1 ?_
    refine s_ek_bk 1 (P := 11) (ls' := [(0, .ref a), (1, .int b)]) (st' := [.int 0]) (M' := v_mk s) rfl ?_
    obtain ⟨rfl, rfl⟩ := v_so h
    exact v_ret (fun _ => rfl)
  · refine v_i1f (T := 10) rfl rfl c1 ?_
    refine s_ek_bk 2 (P := 7) (ls' := [(0, .ref a), (1, .int b)]) (st' := [.int 125, .int b]) (M' := v_mk s) rfl ?_
    rcases v_if h with ⟨c2, h⟩ | ⟨c2, h⟩
    · refine v_i2t (T := 12) rfl rfl c2 ?_
      refine s_ek_bk 2 (P := 15) (ls' := [(0, .ref a), (1, .int b)]) (st' := [.int 64, .int b]) (M' := v_mk s) rfl ?_
      rcases v_if h with ⟨c3, h⟩ | ⟨c3, h⟩
      · refine v_i2t (T := 29) rfl rfl c3 ?_
        refine s_ek_bk 1 (P := 30) (ls' := [(0, .ref a), (1, .int b)]) (st' := [.ref a]) (M' := v_mk s) rfl ?_
        refine v_gf rfl (v_gl ha (v_tK (j := 1) v_is0 (by decide) ha) ⟨rfl, rfl, by decide⟩) ?_
        refine s_ek_bk 8 (P := 42) (ls' := [(0, .ref a), (1, .int b)]) (st' := [.int (lg_cmp ((((Int64.toUInt64 (s.2 a 1)) >>> ((Int64.toUInt64 (Int32.toInt64 (b - (64 : Int32)))) &&& Int64.toUInt64 63)).toInt64) &&& (1 : Int64)) (0 : Int64))]) (M' := v_mk s) rfl ?_
        rcases v_if h with ⟨c4, h⟩ | ⟨c4, h⟩
        · refine v_i1t (T := 49) rfl rfl c4 ?_
          refine s_ek_bk 1 (P := 50) (ls' := [(0, .ref a), (1, .int b)]) (st' := [.int 0]) (M' := v_mk s) rfl ?_
          obtain ⟨rfl, rfl⟩ := v_so h
          exact v_ret (fun _ => rfl)
        · refine v_i1f (T := 49) rfl rfl c4 ?_
          refine s_ek_bk 2 (P := 50) (ls' := [(0, .ref a), (1, .int b)]) (st' := [.int 1]) (M' := v_mk s) rfl ?_
          obtain ⟨rfl, rfl⟩ := v_so h
          exact v_ret (fun _ => rfl)
      · refine v_i2f (T := 29) rfl rfl c3 ?_
        refine s_ek_bk 1 (P := 19) (ls' := [(0, .ref a), (1, .int b)]) (st' := [.ref a]) (M' := v_mk s) rfl ?_
        refine v_gf rfl (v_gl ha (v_tK (j := 0) v_is0 (by decide) ha) ⟨rfl, rfl, by decide⟩) ?_
        refine s_ek_bk 7 (P := 42) (ls' := [(0, .ref a), (1, .int b)]) (st' := [.int (lg_cmp ((((Int64.toUInt64 (s.2 a 0)) >>> ((Int64.toUInt64 (Int32.toInt64 b)) &&& Int64.toUInt64 63)).toInt64) &&& (1 : Int64)) (0 : Int64))]) (M' := v_mk s) rfl ?_
        rcases v_if h with ⟨c5, h⟩ | ⟨c5, h⟩
        · refine v_i1t (T := 49) rfl rfl c5 ?_
          refine s_ek_bk 1 (P := 50) (ls' := [(0, .ref a), (1, .int b)]) (st' := [.int 0]) (M' := v_mk s) rfl ?_
          obtain ⟨rfl, rfl⟩ := v_so h
          exact v_ret (fun _ => rfl)
        · refine v_i1f (T := 49) rfl rfl c5 ?_
          refine s_ek_bk 2 (P := 50) (ls' := [(0, .ref a), (1, .int b)]) (st' := [.int 1]) (M' := v_mk s) rfl ?_
          obtain ⟨rfl, rfl⟩ := v_so h
          exact v_ret (fun _ => rfl)
    · refine v_i2f (T := 12) rfl rfl c2 ?_
      refine s_ek_bk 1 (P := 11) (ls' := [(0, .ref a), (1, .int b)]) (st' := [.int 0]) (M' := v_mk s) rfl ?_
      obtain ⟨rfl, rfl⟩ := v_so h
      exact v_ret (fun _ => rfl)
noncomputable def f_Cs_takeBoth (a : Nat) (b : Nat) (c : Nat) (s : vS) : Option (Unit × vS) := (v_let (v_w2 s a 0 ((s.2 b 0) &&& (s.2 c 0))) (fun s1 => (v_let (v_w2 s1 a 1 ((s1.2 b 1) &&& (s1.2 c 1))) (fun s2 => (some ((), s2))))))
set_option maxRecDepth 20000 in
set_option maxHeartbeats 4000000 in
theorem t_Cs_takeBoth {L : Nat} {xs : Nat → Int32} {a : Nat} {b : Nat} {c : Nat} (ha : v_kd a = 0) (hb : v_kd b = 0) (hc : v_kd c = 0) {D : Nat} {r : Unit} {s s' : vS} (h : f_Cs_takeBoth a b c s = some (r, s')) (hD : 0 ≤ D) : s_Ek (s_rows 3 L xs) D s_e9.1 0 (lv_args 0 [.ref a, .ref b, .ref c]) [] (v_mk s) (v_Q none s') := by
  unfold f_Cs_takeBoth at h
  show s_Ek (s_rows 3 L xs) D s_e9.1 0 [(0, .ref a), (1, .ref b), (2, .ref c)] [] (v_mk s) _
  refine s_ek_bk 2 (P := 2) (ls' := [(0, .ref a), (1, .ref b), (2, .ref c)]) (st' := [.ref b, .ref a]) (M' := v_mk s) rfl ?_
  refine v_gf rfl (v_gl hb (v_tK (j := 0) v_is0 (by decide) hb) ⟨rfl, rfl, by decide⟩) ?_
  refine s_ek_bk 1 (P := 6) (ls' := [(0, .ref a), (1, .ref b), (2, .ref c)]) (st' := [.ref c, .long (s.2 b 0), .ref a]) (M' := v_mk s) rfl ?_
  refine v_gf rfl (v_gl hc (v_tK (j := 0) v_is0 (by decide) hc) ⟨rfl, rfl, by decide⟩) ?_
  refine s_ek_bk 1 (P := 10) (ls' := [(0, .ref a), (1, .ref b), (2, .ref c)]) (st' := [.long ((s.2 b 0) &&& (s.2 c 0)), .ref a]) (M' := v_mk s) rfl ?_
  obtain ⟨s1, es1, h⟩ := v_ld h
  refine v_pf (M' := v_mk s1) rfl (by rw [es1]; exact v_pl ha (v_tK (j := 0) v_is0 (by decide) ha) ⟨rfl, rfl, by decide⟩ rfl) ?_
  refine s_ek_bk 2 (P := 15) (ls' := [(0, .ref a), (1, .ref b), (2, .ref c)]) (st' := [.ref b, .ref a]) (M' := v_mk s1) rfl ?_
  refine v_gf rfl (v_gl hb (v_tK (j := 1) v_is0 (by decide) hb) ⟨rfl, rfl, by decide⟩) ?_
  refine s_ek_bk 1 (P := 19) (ls' := [(0, .ref a), (1, .ref b), (2, .ref c)]) (st' := [.ref c, .long (s1.2 b 1), .ref a]) (M' := v_mk s1) rfl ?_
  refine v_gf rfl (v_gl hc (v_tK (j := 1) v_is0 (by decide) hc) ⟨rfl, rfl, by decide⟩) ?_
  refine s_ek_bk 1 (P := 23) (ls' := [(0, .ref a), (1, .ref b), (2, .ref c)]) (st' := [.long ((s1.2 b 1) &&& (s1.2 c 1)), .ref a]) (M' := v_mk s1) rfl ?_
  obtain ⟨s2, es2, h⟩ := v_ld h
  refine v_pf (M' := v_mk s2) rfl (by rw [es2]; exact v_pl ha (v_tK (j := 1) v_is0 (by decide) ha) ⟨rfl, rfl, by decide⟩ rfl) ?_
  obtain ⟨rfl, rfl⟩ := v_so h
  exact v_ret (fun _ => rfl)
noncomputable def f_Lo_bitCount (b : Int64) (s : vS) : Option (Int32 × vS) := (some (((Int64.toInt32 ((((((((b - ((((Int64.toUInt64 b) >>> ((Int64.toUInt64 (Int32.toInt64 (1 : Int32))) &&& Int64.toUInt64 63)).toInt64) &&& (6148914691236517205 : Int64))) &&& (3689348814741910323 : Int64)) + ((((Int64.toUInt64 (b - ((((Int64.toUInt64 b) >>> ((Int64.toUInt64 (Int32.toInt64 (1 : Int32))) &&& Int64.toUInt64 63)).toInt64) &&& (6148914691236517205 : Int64)))) >>> ((Int64.toUInt64 (Int32.toInt64 (2 : Int32))) &&& Int64.toUInt64 63)).toInt64) &&& (3689348814741910323 : Int64))) + (((Int64.toUInt64 (((b - ((((Int64.toUInt64 b) >>> ((Int64.toUInt64 (Int32.toInt64 (1 : Int32))) &&& Int64.toUInt64 63)).toInt64) &&& (6148914691236517205 : Int64))) &&& (3689348814741910323 : Int64)) + ((((Int64.toUInt64 (b - ((((Int64.toUInt64 b) >>> ((Int64.toUInt64 (Int32.toInt64 (1 : Int32))) &&& Int64.toUInt64 63)).toInt64) &&& (6148914691236517205 : Int64)))) >>> ((Int64.toUInt64 (Int32.toInt64 (2 : Int32))) &&& Int64.toUInt64 63)).toInt64) &&& (3689348814741910323 : Int64)))) >>> ((Int64.toUInt64 (Int32.toInt64 (4 : Int32))) &&& Int64.toUInt64 63)).toInt64)) &&& (1085102592571150095 : Int64)) + (((Int64.toUInt64 (((((b - ((((Int64.toUInt64 b) >>> ((Int64.toUInt64 (Int32.toInt64 (1 : Int32))) &&& Int64.toUInt64 63)).toInt64) &&& (6148914691236517205 : Int64))) &&& (3689348814741910323 : Int64)) + ((((Int64.toUInt64 (b - ((((Int64.toUInt64 b) >>> ((Int64.toUInt64 (Int32.toInt64 (1 : Int32))) &&& Int64.toUInt64 63)).toInt64) &&& (6148914691236517205 : Int64)))) >>> ((Int64.toUInt64 (Int32.toInt64 (2 : Int32))) &&& Int64.toUInt64 63)).toInt64) &&& (3689348814741910323 : Int64))) + (((Int64.toUInt64 (((b - ((((Int64.toUInt64 b) >>> ((Int64.toUInt64 (Int32.toInt64 (1 : Int32))) &&& Int64.toUInt64 63)).toInt64) &&& (6148914691236517205 : Int64))) &&& (3689348814741910323 : Int64)) + ((((Int64.toUInt64 (b - ((((Int64.toUInt64 b) >>> ((Int64.toUInt64 (Int32.toInt64 (1 : Int32))) &&& Int64.toUInt64 63)).toInt64) &&& (6148914691236517205 : Int64)))) >>> ((Int64.toUInt64 (Int32.toInt64 (2 : Int32))) &&& Int64.toUInt64 63)).toInt64) &&& (3689348814741910323 : Int64)))) >>> ((Int64.toUInt64 (Int32.toInt64 (4 : Int32))) &&& Int64.toUInt64 63)).toInt64)) &&& (1085102592571150095 : Int64))) >>> ((Int64.toUInt64 (Int32.toInt64 (8 : Int32))) &&& Int64.toUInt64 63)).toInt64)) + (((Int64.toUInt64 ((((((b - ((((Int64.toUInt64 b) >>> ((Int64.toUInt64 (Int32.toInt64 (1 : Int32))) &&& Int64.toUInt64 63)).toInt64) &&& (6148914691236517205 : Int64))) &&& (3689348814741910323 : Int64)) + ((((Int64.toUInt64 (b - ((((Int64.toUInt64 b) >>> ((Int64.toUInt64 (Int32.toInt64 (1 : Int32))) &&& Int64.toUInt64 63)).toInt64) &&& (6148914691236517205 : Int64)))) >>> ((Int64.toUInt64 (Int32.toInt64 (2 : Int32))) &&& Int64.toUInt64 63)).toInt64) &&& (3689348814741910323 : Int64))) + (((Int64.toUInt64 (((b - ((((Int64.toUInt64 b) >>> ((Int64.toUInt64 (Int32.toInt64 (1 : Int32))) &&& Int64.toUInt64 63)).toInt64) &&& (6148914691236517205 : Int64))) &&& (3689348814741910323 : Int64)) + ((((Int64.toUInt64 (b - ((((Int64.toUInt64 b) >>> ((Int64.toUInt64 (Int32.toInt64 (1 : Int32))) &&& Int64.toUInt64 63)).toInt64) &&& (6148914691236517205 : Int64)))) >>> ((Int64.toUInt64 (Int32.toInt64 (2 : Int32))) &&& Int64.toUInt64 63)).toInt64) &&& (3689348814741910323 : Int64)))) >>> ((Int64.toUInt64 (Int32.toInt64 (4 : Int32))) &&& Int64.toUInt64 63)).toInt64)) &&& (1085102592571150095 : Int64)) + (((Int64.toUInt64 (((((b - ((((Int64.toUInt64 b) >>> ((Int64.toUInt64 (Int32.toInt64 (1 : Int32))) &&& Int64.toUInt64 63)).toInt64) &&& (6148914691236517205 : Int64))) &&& (3689348814741910323 : Int64)) + ((((Int64.toUInt64 (b - ((((Int64.toUInt64 b) >>> ((Int64.toUInt64 (Int32.toInt64 (1 : Int32))) &&& Int64.toUInt64 63)).toInt64) &&& (6148914691236517205 : Int64)))) >>> ((Int64.toUInt64 (Int32.toInt64 (2 : Int32))) &&& Int64.toUInt64 63)).toInt64) &&& (3689348814741910323 : Int64))) + (((Int64.toUInt64 (((b - ((((Int64.toUInt64 b) >>> ((Int64.toUInt64 (Int32.toInt64 (1 : Int32))) &&& Int64.toUInt64 63)).toInt64) &&& (6148914691236517205 : Int64))) &&& (3689348814741910323 : Int64)) + ((((Int64.toUInt64 (b - ((((Int64.toUInt64 b) >>> ((Int64.toUInt64 (Int32.toInt64 (1 : Int32))) &&& Int64.toUInt64 63)).toInt64) &&& (6148914691236517205 : Int64)))) >>> ((Int64.toUInt64 (Int32.toInt64 (2 : Int32))) &&& Int64.toUInt64 63)).toInt64) &&& (3689348814741910323 : Int64)))) >>> ((Int64.toUInt64 (Int32.toInt64 (4 : Int32))) &&& Int64.toUInt64 63)).toInt64)) &&& (1085102592571150095 : Int64))) >>> ((Int64.toUInt64 (Int32.toInt64 (8 : Int32))) &&& Int64.toUInt64 63)).toInt64))) >>> ((Int64.toUInt64 (Int32.toInt64 (16 : Int32))) &&& Int64.toUInt64 63)).toInt64)) + (((Int64.toUInt64 (((((((b - ((((Int64.toUInt64 b) >>> ((Int64.toUInt64 (Int32.toInt64 (1 : Int32))) &&& Int64.toUInt64 63)).toInt64) &&& (6148914691236517205 : Int64))) &&& (3689348814741910323 : Int64)) + ((((Int64.toUInt64 (b - ((((Int64.toUInt64 b) >>> ((Int64.toUInt64 (Int32.toInt64 (1 : Int32))) &&& Int64.toUInt64 63)).toInt64) &&& (6148914691236517205 : Int64)))) >>> ((Int64.toUInt64 (Int32.toInt64 (2 : Int32))) &&& Int64.toUInt64 63)).toInt64) &&& (3689348814741910323 : Int64))) + (((Int64.toUInt64 (((b - ((((Int64.toUInt64 b) >>> ((Int64.toUInt64 (Int32.toInt64 (1 : Int32))) &&& Int64.toUInt64 63)).toInt64) &&& (6148914691236517205 : Int64))) &&& (3689348814741910323 : Int64)) + ((((Int64.toUInt64 (b - ((((Int64.toUInt64 b) >>> ((Int64.toUInt64 (Int32.toInt64 (1 : Int32))) &&& Int64.toUInt64 63)).toInt64) &&& (6148914691236517205 : Int64)))) >>> ((Int64.toUInt64 (Int32.toInt64 (2 : Int32))) &&& Int64.toUInt64 63)).toInt64) &&& (3689348814741910323 : Int64)))) >>> ((Int64.toUInt64 (Int32.toInt64 (4 : Int32))) &&& Int64.toUInt64 63)).toInt64)) &&& (1085102592571150095 : Int64)) + (((Int64.toUInt64 (((((b - ((((Int64.toUInt64 b) >>> ((Int64.toUInt64 (Int32.toInt64 (1 : Int32))) &&& Int64.toUInt64 63)).toInt64) &&& (6148914691236517205 : Int64))) &&& (3689348814741910323 : Int64)) + ((((Int64.toUInt64 (b - ((((Int64.toUInt64 b) >>> ((Int64.toUInt64 (Int32.toInt64 (1 : Int32))) &&& Int64.toUInt64 63)).toInt64) &&& (6148914691236517205 : Int64)))) >>> ((Int64.toUInt64 (Int32.toInt64 (2 : Int32))) &&& Int64.toUInt64 63)).toInt64) &&& (3689348814741910323 : Int64))) + (((Int64.toUInt64 (((b - ((((Int64.toUInt64 b) >>> ((Int64.toUInt64 (Int32.toInt64 (1 : Int32))) &&& Int64.toUInt64 63)).toInt64) &&& (6148914691236517205 : Int64))) &&& (3689348814741910323 : Int64)) + ((((Int64.toUInt64 (b - ((((Int64.toUInt64 b) >>> ((Int64.toUInt64 (Int32.toInt64 (1 : Int32))) &&& Int64.toUInt64 63)).toInt64) &&& (6148914691236517205 : Int64)))) >>> ((Int64.toUInt64 (Int32.toInt64 (2 : Int32))) &&& Int64.toUInt64 63)).toInt64) &&& (3689348814741910323 : Int64)))) >>> ((Int64.toUInt64 (Int32.toInt64 (4 : Int32))) &&& Int64.toUInt64 63)).toInt64)) &&& (1085102592571150095 : Int64))) >>> ((Int64.toUInt64 (Int32.toInt64 (8 : Int32))) &&& Int64.toUInt64 63)).toInt64)) + (((Int64.toUInt64 ((((((b - ((((Int64.toUInt64 b) >>> ((Int64.toUInt64 (Int32.toInt64 (1 : Int32))) &&& Int64.toUInt64 63)).toInt64) &&& (6148914691236517205 : Int64))) &&& (3689348814741910323 : Int64)) + ((((Int64.toUInt64 (b - ((((Int64.toUInt64 b) >>> ((Int64.toUInt64 (Int32.toInt64 (1 : Int32))) &&& Int64.toUInt64 63)).toInt64) &&& (6148914691236517205 : Int64)))) >>> ((Int64.toUInt64 (Int32.toInt64 (2 : Int32))) &&& Int64.toUInt64 63)).toInt64) &&& (3689348814741910323 : Int64))) + (((Int64.toUInt64 (((b - ((((Int64.toUInt64 b) >>> ((Int64.toUInt64 (Int32.toInt64 (1 : Int32))) &&& Int64.toUInt64 63)).toInt64) &&& (6148914691236517205 : Int64))) &&& (3689348814741910323 : Int64)) + ((((Int64.toUInt64 (b - ((((Int64.toUInt64 b) >>> ((Int64.toUInt64 (Int32.toInt64 (1 : Int32))) &&& Int64.toUInt64 63)).toInt64) &&& (6148914691236517205 : Int64)))) >>> ((Int64.toUInt64 (Int32.toInt64 (2 : Int32))) &&& Int64.toUInt64 63)).toInt64) &&& (3689348814741910323 : Int64)))) >>> ((Int64.toUInt64 (Int32.toInt64 (4 : Int32))) &&& Int64.toUInt64 63)).toInt64)) &&& (1085102592571150095 : Int64)) + (((Int64.toUInt64 (((((b - ((((Int64.toUInt64 b) >>> ((Int64.toUInt64 (Int32.toInt64 (1 : Int32))) &&& Int64.toUInt64 63)).toInt64) &&& (6148914691236517205 : Int64))) &&& (3689348814741910323 : Int64)) + ((((Int64.toUInt64 (b - ((((Int64.toUInt64 b) >>> ((Int64.toUInt64 (Int32.toInt64 (1 : Int32))) &&& Int64.toUInt64 63)).toInt64) &&& (6148914691236517205 : Int64)))) >>> ((Int64.toUInt64 (Int32.toInt64 (2 : Int32))) &&& Int64.toUInt64 63)).toInt64) &&& (3689348814741910323 : Int64))) + (((Int64.toUInt64 (((b - ((((Int64.toUInt64 b) >>> ((Int64.toUInt64 (Int32.toInt64 (1 : Int32))) &&& Int64.toUInt64 63)).toInt64) &&& (6148914691236517205 : Int64))) &&& (3689348814741910323 : Int64)) + ((((Int64.toUInt64 (b - ((((Int64.toUInt64 b) >>> ((Int64.toUInt64 (Int32.toInt64 (1 : Int32))) &&& Int64.toUInt64 63)).toInt64) &&& (6148914691236517205 : Int64)))) >>> ((Int64.toUInt64 (Int32.toInt64 (2 : Int32))) &&& Int64.toUInt64 63)).toInt64) &&& (3689348814741910323 : Int64)))) >>> ((Int64.toUInt64 (Int32.toInt64 (4 : Int32))) &&& Int64.toUInt64 63)).toInt64)) &&& (1085102592571150095 : Int64))) >>> ((Int64.toUInt64 (Int32.toInt64 (8 : Int32))) &&& Int64.toUInt64 63)).toInt64))) >>> ((Int64.toUInt64 (Int32.toInt64 (16 : Int32))) &&& Int64.toUInt64 63)).toInt64))) >>> ((Int64.toUInt64 (Int32.toInt64 (32 : Int32))) &&& Int64.toUInt64 63)).toInt64))) &&& (127 : Int32)), s))
set_option maxRecDepth 20000 in
set_option maxHeartbeats 4000000 in
theorem t_Lo_bitCount {L : Nat} {xs : Nat → Int32} {b : Int64} {D : Nat} {r : Int32} {s s' : vS} (h : f_Lo_bitCount b s = some (r, s')) (hD : 0 ≤ D) : s_Ek (s_rows 3 L xs) D s_e290.1 0 (lv_args 0 [.long b]) [] (v_mk s) (v_Q (some (.int r)) s') := by
  unfold f_Lo_bitCount at h
  show s_Ek (s_rows 3 L xs) D s_e290.1 0 [(0, .long b)] [] (v_mk s) _
  refine s_ek_bk 48 (P := 60) (ls' := [(0, .long ((((((((b - ((((Int64.toUInt64 b) >>> ((Int64.toUInt64 (Int32.toInt64 (1 : Int32))) &&& Int64.toUInt64 63)).toInt64) &&& (6148914691236517205 : Int64))) &&& (3689348814741910323 : Int64)) + ((((Int64.toUInt64 (b - ((((Int64.toUInt64 b) >>> ((Int64.toUInt64 (Int32.toInt64 (1 : Int32))) &&& Int64.toUInt64 63)).toInt64) &&& (6148914691236517205 : Int64)))) >>> ((Int64.toUInt64 (Int32.toInt64 (2 : Int32))) &&& Int64.toUInt64 63)).toInt64) &&& (3689348814741910323 : Int64))) + (((Int64.toUInt64 (((b - ((((Int64.toUInt64 b) >>> ((Int64.toUInt64 (Int32.toInt64 (1 : Int32))) &&& Int64.toUInt64 63)).toInt64) &&& (6148914691236517205 : Int64))) &&& (3689348814741910323 : Int64)) + ((((Int64.toUInt64 (b - ((((Int64.toUInt64 b) >>> ((Int64.toUInt64 (Int32.toInt64 (1 : Int32))) &&& Int64.toUInt64 63)).toInt64) &&& (6148914691236517205 : Int64)))) >>> ((Int64.toUInt64 (Int32.toInt64 (2 : Int32))) &&& Int64.toUInt64 63)).toInt64) &&& (3689348814741910323 : Int64)))) >>> ((Int64.toUInt64 (Int32.toInt64 (4 : Int32))) &&& Int64.toUInt64 63)).toInt64)) &&& (1085102592571150095 : Int64)) + (((Int64.toUInt64 (((((b - ((((Int64.toUInt64 b) >>> ((Int64.toUInt64 (Int32.toInt64 (1 : Int32))) &&& Int64.toUInt64 63)).toInt64) &&& (6148914691236517205 : Int64))) &&& (3689348814741910323 : Int64)) + ((((Int64.toUInt64 (b - ((((Int64.toUInt64 b) >>> ((Int64.toUInt64 (Int32.toInt64 (1 : Int32))) &&& Int64.toUInt64 63)).toInt64) &&& (6148914691236517205 : Int64)))) >>> ((Int64.toUInt64 (Int32.toInt64 (2 : Int32))) &&& Int64.toUInt64 63)).toInt64) &&& (3689348814741910323 : Int64))) + (((Int64.toUInt64 (((b - ((((Int64.toUInt64 b) >>> ((Int64.toUInt64 (Int32.toInt64 (1 : Int32))) &&& Int64.toUInt64 63)).toInt64) &&& (6148914691236517205 : Int64))) &&& (3689348814741910323 : Int64)) + ((((Int64.toUInt64 (b - ((((Int64.toUInt64 b) >>> ((Int64.toUInt64 (Int32.toInt64 (1 : Int32))) &&& Int64.toUInt64 63)).toInt64) &&& (6148914691236517205 : Int64)))) >>> ((Int64.toUInt64 (Int32.toInt64 (2 : Int32))) &&& Int64.toUInt64 63)).toInt64) &&& (3689348814741910323 : Int64)))) >>> ((Int64.toUInt64 (Int32.toInt64 (4 : Int32))) &&& Int64.toUInt64 63)).toInt64)) &&& (1085102592571150095 : Int64))) >>> ((Int64.toUInt64 (Int32.toInt64 (8 : Int32))) &&& Int64.toUInt64 63)).toInt64)) + (((Int64.toUInt64 ((((((b - ((((Int64.toUInt64 b) >>> ((Int64.toUInt64 (Int32.toInt64 (1 : Int32))) &&& Int64.toUInt64 63)).toInt64) &&& (6148914691236517205 : Int64))) &&& (3689348814741910323 : Int64)) + ((((Int64.toUInt64 (b - ((((Int64.toUInt64 b) >>> ((Int64.toUInt64 (Int32.toInt64 (1 : Int32))) &&& Int64.toUInt64 63)).toInt64) &&& (6148914691236517205 : Int64)))) >>> ((Int64.toUInt64 (Int32.toInt64 (2 : Int32))) &&& Int64.toUInt64 63)).toInt64) &&& (3689348814741910323 : Int64))) + (((Int64.toUInt64 (((b - ((((Int64.toUInt64 b) >>> ((Int64.toUInt64 (Int32.toInt64 (1 : Int32))) &&& Int64.toUInt64 63)).toInt64) &&& (6148914691236517205 : Int64))) &&& (3689348814741910323 : Int64)) + ((((Int64.toUInt64 (b - ((((Int64.toUInt64 b) >>> ((Int64.toUInt64 (Int32.toInt64 (1 : Int32))) &&& Int64.toUInt64 63)).toInt64) &&& (6148914691236517205 : Int64)))) >>> ((Int64.toUInt64 (Int32.toInt64 (2 : Int32))) &&& Int64.toUInt64 63)).toInt64) &&& (3689348814741910323 : Int64)))) >>> ((Int64.toUInt64 (Int32.toInt64 (4 : Int32))) &&& Int64.toUInt64 63)).toInt64)) &&& (1085102592571150095 : Int64)) + (((Int64.toUInt64 (((((b - ((((Int64.toUInt64 b) >>> ((Int64.toUInt64 (Int32.toInt64 (1 : Int32))) &&& Int64.toUInt64 63)).toInt64) &&& (6148914691236517205 : Int64))) &&& (3689348814741910323 : Int64)) + ((((Int64.toUInt64 (b - ((((Int64.toUInt64 b) >>> ((Int64.toUInt64 (Int32.toInt64 (1 : Int32))) &&& Int64.toUInt64 63)).toInt64) &&& (6148914691236517205 : Int64)))) >>> ((Int64.toUInt64 (Int32.toInt64 (2 : Int32))) &&& Int64.toUInt64 63)).toInt64) &&& (3689348814741910323 : Int64))) + (((Int64.toUInt64 (((b - ((((Int64.toUInt64 b) >>> ((Int64.toUInt64 (Int32.toInt64 (1 : Int32))) &&& Int64.toUInt64 63)).toInt64) &&& (6148914691236517205 : Int64))) &&& (3689348814741910323 : Int64)) + ((((Int64.toUInt64 (b - ((((Int64.toUInt64 b) >>> ((Int64.toUInt64 (Int32.toInt64 (1 : Int32))) &&& Int64.toUInt64 63)).toInt64) &&& (6148914691236517205 : Int64)))) >>> ((Int64.toUInt64 (Int32.toInt64 (2 : Int32))) &&& Int64.toUInt64 63)).toInt64) &&& (3689348814741910323 : Int64)))) >>> ((Int64.toUInt64 (Int32.toInt64 (4 : Int32))) &&& Int64.toUInt64 63)).toInt64)) &&& (1085102592571150095 : Int64))) >>> ((Int64.toUInt64 (Int32.toInt64 (8 : Int32))) &&& Int64.toUInt64 63)).toInt64))) >>> ((Int64.toUInt64 (Int32.toInt64 (16 : Int32))) &&& Int64.toUInt64 63)).toInt64)) + (((Int64.toUInt64 (((((((b - ((((Int64.toUInt64 b) >>> ((Int64.toUInt64 (Int32.toInt64 (1 : Int32))) &&& Int64.toUInt64 63)).toInt64) &&& (6148914691236517205 : Int64))) &&& (3689348814741910323 : Int64)) + ((((Int64.toUInt64 (b - ((((Int64.toUInt64 b) >>> ((Int64.toUInt64 (Int32.toInt64 (1 : Int32))) &&& Int64.toUInt64 63)).toInt64) &&& (6148914691236517205 : Int64)))) >>> ((Int64.toUInt64 (Int32.toInt64 (2 : Int32))) &&& Int64.toUInt64 63)).toInt64) &&& (3689348814741910323 : Int64))) + (((Int64.toUInt64 (((b - ((((Int64.toUInt64 b) >>> ((Int64.toUInt64 (Int32.toInt64 (1 : Int32))) &&& Int64.toUInt64 63)).toInt64) &&& (6148914691236517205 : Int64))) &&& (3689348814741910323 : Int64)) + ((((Int64.toUInt64 (b - ((((Int64.toUInt64 b) >>> ((Int64.toUInt64 (Int32.toInt64 (1 : Int32))) &&& Int64.toUInt64 63)).toInt64) &&& (6148914691236517205 : Int64)))) >>> ((Int64.toUInt64 (Int32.toInt64 (2 : Int32))) &&& Int64.toUInt64 63)).toInt64) &&& (3689348814741910323 : Int64)))) >>> ((Int64.toUInt64 (Int32.toInt64 (4 : Int32))) &&& Int64.toUInt64 63)).toInt64)) &&& (1085102592571150095 : Int64)) + (((Int64.toUInt64 (((((b - ((((Int64.toUInt64 b) >>> ((Int64.toUInt64 (Int32.toInt64 (1 : Int32))) &&& Int64.toUInt64 63)).toInt64) &&& (6148914691236517205 : Int64))) &&& (3689348814741910323 : Int64)) + ((((Int64.toUInt64 (b - ((((Int64.toUInt64 b) >>> ((Int64.toUInt64 (Int32.toInt64 (1 : Int32))) &&& Int64.toUInt64 63)).toInt64) &&& (6148914691236517205 : Int64)))) >>> ((Int64.toUInt64 (Int32.toInt64 (2 : Int32))) &&& Int64.toUInt64 63)).toInt64) &&& (3689348814741910323 : Int64))) + (((Int64.toUInt64 (((b - ((((Int64.toUInt64 b) >>> ((Int64.toUInt64 (Int32.toInt64 (1 : Int32))) &&& Int64.toUInt64 63)).toInt64) &&& (6148914691236517205 : Int64))) &&& (3689348814741910323 : Int64)) + ((((Int64.toUInt64 (b - ((((Int64.toUInt64 b) >>> ((Int64.toUInt64 (Int32.toInt64 (1 : Int32))) &&& Int64.toUInt64 63)).toInt64) &&& (6148914691236517205 : Int64)))) >>> ((Int64.toUInt64 (Int32.toInt64 (2 : Int32))) &&& Int64.toUInt64 63)).toInt64) &&& (3689348814741910323 : Int64)))) >>> ((Int64.toUInt64 (Int32.toInt64 (4 : Int32))) &&& Int64.toUInt64 63)).toInt64)) &&& (1085102592571150095 : Int64))) >>> ((Int64.toUInt64 (Int32.toInt64 (8 : Int32))) &&& Int64.toUInt64 63)).toInt64)) + (((Int64.toUInt64 ((((((b - ((((Int64.toUInt64 b) >>> ((Int64.toUInt64 (Int32.toInt64 (1 : Int32))) &&& Int64.toUInt64 63)).toInt64) &&& (6148914691236517205 : Int64))) &&& (3689348814741910323 : Int64)) + ((((Int64.toUInt64 (b - ((((Int64.toUInt64 b) >>> ((Int64.toUInt64 (Int32.toInt64 (1 : Int32))) &&& Int64.toUInt64 63)).toInt64) &&& (6148914691236517205 : Int64)))) >>> ((Int64.toUInt64 (Int32.toInt64 (2 : Int32))) &&& Int64.toUInt64 63)).toInt64) &&& (3689348814741910323 : Int64))) + (((Int64.toUInt64 (((b - ((((Int64.toUInt64 b) >>> ((Int64.toUInt64 (Int32.toInt64 (1 : Int32))) &&& Int64.toUInt64 63)).toInt64) &&& (6148914691236517205 : Int64))) &&& (3689348814741910323 : Int64)) + ((((Int64.toUInt64 (b - ((((Int64.toUInt64 b) >>> ((Int64.toUInt64 (Int32.toInt64 (1 : Int32))) &&& Int64.toUInt64 63)).toInt64) &&& (6148914691236517205 : Int64)))) >>> ((Int64.toUInt64 (Int32.toInt64 (2 : Int32))) &&& Int64.toUInt64 63)).toInt64) &&& (3689348814741910323 : Int64)))) >>> ((Int64.toUInt64 (Int32.toInt64 (4 : Int32))) &&& Int64.toUInt64 63)).toInt64)) &&& (1085102592571150095 : Int64)) + (((Int64.toUInt64 (((((b - ((((Int64.toUInt64 b) >>> ((Int64.toUInt64 (Int32.toInt64 (1 : Int32))) &&& Int64.toUInt64 63)).toInt64) &&& (6148914691236517205 : Int64))) &&& (3689348814741910323 : Int64)) + ((((Int64.toUInt64 (b - ((((Int64.toUInt64 b) >>> ((Int64.toUInt64 (Int32.toInt64 (1 : Int32))) &&& Int64.toUInt64 63)).toInt64) &&& (6148914691236517205 : Int64)))) >>> ((Int64.toUInt64 (Int32.toInt64 (2 : Int32))) &&& Int64.toUInt64 63)).toInt64) &&& (3689348814741910323 : Int64))) + (((Int64.toUInt64 (((b - ((((Int64.toUInt64 b) >>> ((Int64.toUInt64 (Int32.toInt64 (1 : Int32))) &&& Int64.toUInt64 63)).toInt64) &&& (6148914691236517205 : Int64))) &&& (3689348814741910323 : Int64)) + ((((Int64.toUInt64 (b - ((((Int64.toUInt64 b) >>> ((Int64.toUInt64 (Int32.toInt64 (1 : Int32))) &&& Int64.toUInt64 63)).toInt64) &&& (6148914691236517205 : Int64)))) >>> ((Int64.toUInt64 (Int32.toInt64 (2 : Int32))) &&& Int64.toUInt64 63)).toInt64) &&& (3689348814741910323 : Int64)))) >>> ((Int64.toUInt64 (Int32.toInt64 (4 : Int32))) &&& Int64.toUInt64 63)).toInt64)) &&& (1085102592571150095 : Int64))) >>> ((Int64.toUInt64 (Int32.toInt64 (8 : Int32))) &&& Int64.toUInt64 63)).toInt64))) >>> ((Int64.toUInt64 (Int32.toInt64 (16 : Int32))) &&& Int64.toUInt64 63)).toInt64))) >>> ((Int64.toUInt64 (Int32.toInt64 (32 : Int32))) &&& Int64.toUInt64 63)).toInt64)))]) (st' := [.int ((Int64.toInt32 ((((((((b - ((((Int64.toUInt64 b) >>> ((Int64.toUInt64 (Int32.toInt64 (1 : Int32))) &&& Int64.toUInt64 63)).toInt64) &&& (6148914691236517205 : Int64))) &&& (3689348814741910323 : Int64)) + ((((Int64.toUInt64 (b - ((((Int64.toUInt64 b) >>> ((Int64.toUInt64 (Int32.toInt64 (1 : Int32))) &&& Int64.toUInt64 63)).toInt64) &&& (6148914691236517205 : Int64)))) >>> ((Int64.toUInt64 (Int32.toInt64 (2 : Int32))) &&& Int64.toUInt64 63)).toInt64) &&& (3689348814741910323 : Int64))) + (((Int64.toUInt64 (((b - ((((Int64.toUInt64 b) >>> ((Int64.toUInt64 (Int32.toInt64 (1 : Int32))) &&& Int64.toUInt64 63)).toInt64) &&& (6148914691236517205 : Int64))) &&& (3689348814741910323 : Int64)) + ((((Int64.toUInt64 (b - ((((Int64.toUInt64 b) >>> ((Int64.toUInt64 (Int32.toInt64 (1 : Int32))) &&& Int64.toUInt64 63)).toInt64) &&& (6148914691236517205 : Int64)))) >>> ((Int64.toUInt64 (Int32.toInt64 (2 : Int32))) &&& Int64.toUInt64 63)).toInt64) &&& (3689348814741910323 : Int64)))) >>> ((Int64.toUInt64 (Int32.toInt64 (4 : Int32))) &&& Int64.toUInt64 63)).toInt64)) &&& (1085102592571150095 : Int64)) + (((Int64.toUInt64 (((((b - ((((Int64.toUInt64 b) >>> ((Int64.toUInt64 (Int32.toInt64 (1 : Int32))) &&& Int64.toUInt64 63)).toInt64) &&& (6148914691236517205 : Int64))) &&& (3689348814741910323 : Int64)) + ((((Int64.toUInt64 (b - ((((Int64.toUInt64 b) >>> ((Int64.toUInt64 (Int32.toInt64 (1 : Int32))) &&& Int64.toUInt64 63)).toInt64) &&& (6148914691236517205 : Int64)))) >>> ((Int64.toUInt64 (Int32.toInt64 (2 : Int32))) &&& Int64.toUInt64 63)).toInt64) &&& (3689348814741910323 : Int64))) + (((Int64.toUInt64 (((b - ((((Int64.toUInt64 b) >>> ((Int64.toUInt64 (Int32.toInt64 (1 : Int32))) &&& Int64.toUInt64 63)).toInt64) &&& (6148914691236517205 : Int64))) &&& (3689348814741910323 : Int64)) + ((((Int64.toUInt64 (b - ((((Int64.toUInt64 b) >>> ((Int64.toUInt64 (Int32.toInt64 (1 : Int32))) &&& Int64.toUInt64 63)).toInt64) &&& (6148914691236517205 : Int64)))) >>> ((Int64.toUInt64 (Int32.toInt64 (2 : Int32))) &&& Int64.toUInt64 63)).toInt64) &&& (3689348814741910323 : Int64)))) >>> ((Int64.toUInt64 (Int32.toInt64 (4 : Int32))) &&& Int64.toUInt64 63)).toInt64)) &&& (1085102592571150095 : Int64))) >>> ((Int64.toUInt64 (Int32.toInt64 (8 : Int32))) &&& Int64.toUInt64 63)).toInt64)) + (((Int64.toUInt64 ((((((b - ((((Int64.toUInt64 b) >>> ((Int64.toUInt64 (Int32.toInt64 (1 : Int32))) &&& Int64.toUInt64 63)).toInt64) &&& (6148914691236517205 : Int64))) &&& (3689348814741910323 : Int64)) + ((((Int64.toUInt64 (b - ((((Int64.toUInt64 b) >>> ((Int64.toUInt64 (Int32.toInt64 (1 : Int32))) &&& Int64.toUInt64 63)).toInt64) &&& (6148914691236517205 : Int64)))) >>> ((Int64.toUInt64 (Int32.toInt64 (2 : Int32))) &&& Int64.toUInt64 63)).toInt64) &&& (3689348814741910323 : Int64))) + (((Int64.toUInt64 (((b - ((((Int64.toUInt64 b) >>> ((Int64.toUInt64 (Int32.toInt64 (1 : Int32))) &&& Int64.toUInt64 63)).toInt64) &&& (6148914691236517205 : Int64))) &&& (3689348814741910323 : Int64)) + ((((Int64.toUInt64 (b - ((((Int64.toUInt64 b) >>> ((Int64.toUInt64 (Int32.toInt64 (1 : Int32))) &&& Int64.toUInt64 63)).toInt64) &&& (6148914691236517205 : Int64)))) >>> ((Int64.toUInt64 (Int32.toInt64 (2 : Int32))) &&& Int64.toUInt64 63)).toInt64) &&& (3689348814741910323 : Int64)))) >>> ((Int64.toUInt64 (Int32.toInt64 (4 : Int32))) &&& Int64.toUInt64 63)).toInt64)) &&& (1085102592571150095 : Int64)) + (((Int64.toUInt64 (((((b - ((((Int64.toUInt64 b) >>> ((Int64.toUInt64 (Int32.toInt64 (1 : Int32))) &&& Int64.toUInt64 63)).toInt64) &&& (6148914691236517205 : Int64))) &&& (3689348814741910323 : Int64)) + ((((Int64.toUInt64 (b - ((((Int64.toUInt64 b) >>> ((Int64.toUInt64 (Int32.toInt64 (1 : Int32))) &&& Int64.toUInt64 63)).toInt64) &&& (6148914691236517205 : Int64)))) >>> ((Int64.toUInt64 (Int32.toInt64 (2 : Int32))) &&& Int64.toUInt64 63)).toInt64) &&& (3689348814741910323 : Int64))) + (((Int64.toUInt64 (((b - ((((Int64.toUInt64 b) >>> ((Int64.toUInt64 (Int32.toInt64 (1 : Int32))) &&& Int64.toUInt64 63)).toInt64) &&& (6148914691236517205 : Int64))) &&& (3689348814741910323 : Int64)) + ((((Int64.toUInt64 (b - ((((Int64.toUInt64 b) >>> ((Int64.toUInt64 (Int32.toInt64 (1 : Int32))) &&& Int64.toUInt64 63)).toInt64) &&& (6148914691236517205 : Int64)))) >>> ((Int64.toUInt64 (Int32.toInt64 (2 : Int32))) &&& Int64.toUInt64 63)).toInt64) &&& (3689348814741910323 : Int64)))) >>> ((Int64.toUInt64 (Int32.toInt64 (4 : Int32))) &&& Int64.toUInt64 63)).toInt64)) &&& (1085102592571150095 : Int64))) >>> ((Int64.toUInt64 (Int32.toInt64 (8 : Int32))) &&& Int64.toUInt64 63)).toInt64))) >>> ((Int64.toUInt64 (Int32.toInt64 (16 : Int32))) &&& Int64.toUInt64 63)).toInt64)) + (((Int64.toUInt64 (((((((b - ((((Int64.toUInt64 b) >>> ((Int64.toUInt64 (Int32.toInt64 (1 : Int32))) &&& Int64.toUInt64 63)).toInt64) &&& (6148914691236517205 : Int64))) &&& (3689348814741910323 : Int64)) + ((((Int64.toUInt64 (b - ((((Int64.toUInt64 b) >>> ((Int64.toUInt64 (Int32.toInt64 (1 : Int32))) &&& Int64.toUInt64 63)).toInt64) &&& (6148914691236517205 : Int64)))) >>> ((Int64.toUInt64 (Int32.toInt64 (2 : Int32))) &&& Int64.toUInt64 63)).toInt64) &&& (3689348814741910323 : Int64))) + (((Int64.toUInt64 (((b - ((((Int64.toUInt64 b) >>> ((Int64.toUInt64 (Int32.toInt64 (1 : Int32))) &&& Int64.toUInt64 63)).toInt64) &&& (6148914691236517205 : Int64))) &&& (3689348814741910323 : Int64)) + ((((Int64.toUInt64 (b - ((((Int64.toUInt64 b) >>> ((Int64.toUInt64 (Int32.toInt64 (1 : Int32))) &&& Int64.toUInt64 63)).toInt64) &&& (6148914691236517205 : Int64)))) >>> ((Int64.toUInt64 (Int32.toInt64 (2 : Int32))) &&& Int64.toUInt64 63)).toInt64) &&& (3689348814741910323 : Int64)))) >>> ((Int64.toUInt64 (Int32.toInt64 (4 : Int32))) &&& Int64.toUInt64 63)).toInt64)) &&& (1085102592571150095 : Int64)) + (((Int64.toUInt64 (((((b - ((((Int64.toUInt64 b) >>> ((Int64.toUInt64 (Int32.toInt64 (1 : Int32))) &&& Int64.toUInt64 63)).toInt64) &&& (6148914691236517205 : Int64))) &&& (3689348814741910323 : Int64)) + ((((Int64.toUInt64 (b - ((((Int64.toUInt64 b) >>> ((Int64.toUInt64 (Int32.toInt64 (1 : Int32))) &&& Int64.toUInt64 63)).toInt64) &&& (6148914691236517205 : Int64)))) >>> ((Int64.toUInt64 (Int32.toInt64 (2 : Int32))) &&& Int64.toUInt64 63)).toInt64) &&& (3689348814741910323 : Int64))) + (((Int64.toUInt64 (((b - ((((Int64.toUInt64 b) >>> ((Int64.toUInt64 (Int32.toInt64 (1 : Int32))) &&& Int64.toUInt64 63)).toInt64) &&& (6148914691236517205 : Int64))) &&& (3689348814741910323 : Int64)) + ((((Int64.toUInt64 (b - ((((Int64.toUInt64 b) >>> ((Int64.toUInt64 (Int32.toInt64 (1 : Int32))) &&& Int64.toUInt64 63)).toInt64) &&& (6148914691236517205 : Int64)))) >>> ((Int64.toUInt64 (Int32.toInt64 (2 : Int32))) &&& Int64.toUInt64 63)).toInt64) &&& (3689348814741910323 : Int64)))) >>> ((Int64.toUInt64 (Int32.toInt64 (4 : Int32))) &&& Int64.toUInt64 63)).toInt64)) &&& (1085102592571150095 : Int64))) >>> ((Int64.toUInt64 (Int32.toInt64 (8 : Int32))) &&& Int64.toUInt64 63)).toInt64)) + (((Int64.toUInt64 ((((((b - ((((Int64.toUInt64 b) >>> ((Int64.toUInt64 (Int32.toInt64 (1 : Int32))) &&& Int64.toUInt64 63)).toInt64) &&& (6148914691236517205 : Int64))) &&& (3689348814741910323 : Int64)) + ((((Int64.toUInt64 (b - ((((Int64.toUInt64 b) >>> ((Int64.toUInt64 (Int32.toInt64 (1 : Int32))) &&& Int64.toUInt64 63)).toInt64) &&& (6148914691236517205 : Int64)))) >>> ((Int64.toUInt64 (Int32.toInt64 (2 : Int32))) &&& Int64.toUInt64 63)).toInt64) &&& (3689348814741910323 : Int64))) + (((Int64.toUInt64 (((b - ((((Int64.toUInt64 b) >>> ((Int64.toUInt64 (Int32.toInt64 (1 : Int32))) &&& Int64.toUInt64 63)).toInt64) &&& (6148914691236517205 : Int64))) &&& (3689348814741910323 : Int64)) + ((((Int64.toUInt64 (b - ((((Int64.toUInt64 b) >>> ((Int64.toUInt64 (Int32.toInt64 (1 : Int32))) &&& Int64.toUInt64 63)).toInt64) &&& (6148914691236517205 : Int64)))) >>> ((Int64.toUInt64 (Int32.toInt64 (2 : Int32))) &&& Int64.toUInt64 63)).toInt64) &&& (3689348814741910323 : Int64)))) >>> ((Int64.toUInt64 (Int32.toInt64 (4 : Int32))) &&& Int64.toUInt64 63)).toInt64)) &&& (1085102592571150095 : Int64)) + (((Int64.toUInt64 (((((b - ((((Int64.toUInt64 b) >>> ((Int64.toUInt64 (Int32.toInt64 (1 : Int32))) &&& Int64.toUInt64 63)).toInt64) &&& (6148914691236517205 : Int64))) &&& (3689348814741910323 : Int64)) + ((((Int64.toUInt64 (b - ((((Int64.toUInt64 b) >>> ((Int64.toUInt64 (Int32.toInt64 (1 : Int32))) &&& Int64.toUInt64 63)).toInt64) &&& (6148914691236517205 : Int64)))) >>> ((Int64.toUInt64 (Int32.toInt64 (2 : Int32))) &&& Int64.toUInt64 63)).toInt64) &&& (3689348814741910323 : Int64))) + (((Int64.toUInt64 (((b - ((((Int64.toUInt64 b) >>> ((Int64.toUInt64 (Int32.toInt64 (1 : Int32))) &&& Int64.toUInt64 63)).toInt64) &&& (6148914691236517205 : Int64))) &&& (3689348814741910323 : Int64)) + ((((Int64.toUInt64 (b - ((((Int64.toUInt64 b) >>> ((Int64.toUInt64 (Int32.toInt64 (1 : Int32))) &&& Int64.toUInt64 63)).toInt64) &&& (6148914691236517205 : Int64)))) >>> ((Int64.toUInt64 (Int32.toInt64 (2 : Int32))) &&& Int64.toUInt64 63)).toInt64) &&& (3689348814741910323 : Int64)))) >>> ((Int64.toUInt64 (Int32.toInt64 (4 : Int32))) &&& Int64.toUInt64 63)).toInt64)) &&& (1085102592571150095 : Int64))) >>> ((Int64.toUInt64 (Int32.toInt64 (8 : Int32))) &&& Int64.toUInt64 63)).toInt64))) >>> ((Int64.toUInt64 (Int32.toInt64 (16 : Int32))) &&& Int64.toUInt64 63)).toInt64))) >>> ((Int64.toUInt64 (Int32.toInt64 (32 : Int32))) &&& Int64.toUInt64 63)).toInt64))) &&& (127 : Int32))]) (M' := v_mk s) rfl ?_
  obtain ⟨rfl, rfl⟩ := v_so h
  exact v_ret (fun _ => rfl)
noncomputable def f_Cs_size (a : Nat) (s : vS) : Option (Int32 × vS) := (v_bi (f_Lo_bitCount (s.2 a 0) s) (fun r1 s1 => (v_bi (f_Lo_bitCount (s1.2 a 1) s1) (fun r2 s2 => (some ((r1 + r2), s2))))))
set_option maxRecDepth 20000 in
set_option maxHeartbeats 4000000 in
theorem t_Cs_size {L : Nat} {xs : Nat → Int32} {a : Nat} (ha : v_kd a = 0) {D : Nat} {r : Int32} {s s' : vS} (h : f_Cs_size a s = some (r, s')) (hD : 1 ≤ D) : s_Ek (s_rows 3 L xs) D s_e10.1 0 (lv_args 0 [.ref a]) [] (v_mk s) (v_Q (some (.int r)) s') := by
  unfold f_Cs_size at h
  show s_Ek (s_rows 3 L xs) D s_e10.1 0 [(0, .ref a)] [] (v_mk s) _
  refine s_ek_bk 1 (P := 1) (ls' := [(0, .ref a)]) (st' := [.ref a]) (M' := v_mk s) rfl ?_
  refine v_gf rfl (v_gl ha (v_tK (j := 0) v_is0 (by decide) ha) ⟨rfl, rfl, by decide⟩) ?_
  obtain ⟨r1, s1, e1, h⟩ := v_bd h
  refine v_cS (ν := s_e290.1) (w := 2321) (as := [.long (s.2 a 0)]) (r := []) (o := some (.int r1)) (by omega) rfl rfl rfl rfl (t_Lo_bitCount e1 (by omega)) ?_
  show s_Ek (s_rows 3 L xs) D s_e10.1 7 [(0, .ref a)] [.int r1] (v_mk s1) _
  refine s_ek_bk 1 (P := 8) (ls' := [(0, .ref a)]) (st' := [.ref a, .int r1]) (M' := v_mk s1) rfl ?_
  refine v_gf rfl (v_gl ha (v_tK (j := 1) v_is0 (by decide) ha) ⟨rfl, rfl, by decide⟩) ?_
  obtain ⟨r2, s2, e2, h⟩ := v_bd h
  refine v_cS (ν := s_e290.1) (w := 2321) (as := [.long (s1.2 a 1)]) (r := [.int r1]) (o := some (.int r2)) (by omega) rfl rfl rfl rfl (t_Lo_bitCount e2 (by omega)) ?_
  show s_Ek (s_rows 3 L xs) D s_e10.1 14 [(0, .ref a)] [.int r2, .int r1] (v_mk s2) _
  refine s_ek_bk 1 (P := 15) (ls' := [(0, .ref a)]) (st' := [.int (r1 + r2)]) (M' := v_mk s2) rfl ?_
  obtain ⟨rfl, rfl⟩ := v_so h
  exact v_ret (fun _ => rfl)
noncomputable def f_Cs_first_L2b (p0 : Nat) (k27 : vS → Option (Int32 × vS)) (again : Int32 → vS → Option (Int32 × vS)) (v1 : Int32) (s : vS) : Option (Int32 × vS) := (if 125 ≤ v1.toInt then (k27 s) else (v_bi (f_Cs_has p0 v1 s) (fun r102 s102 => (if r102.toInt = 0 then (again (v1 + 1) s102) else (v_bi (f_Cs_numberOf v1 s102) (fun r104 s104 => (some (r104, s104))))))))
noncomputable def f_Cs_first_L2 (p0 : Nat) (k27 : vS → Option (Int32 × vS)) (n : Nat) : Int32 → vS → Option (Int32 × vS) := Nat.rec (motive := fun _ => Int32 → vS → Option (Int32 × vS)) (fun _ _ => none) (fun _ again => f_Cs_first_L2b p0 k27 again) n
noncomputable def f_Cs_first (a : Nat) (s : vS) : Option (Int32 × vS) := (f_Cs_first_L2 a (fun s1 => (some ((-2), s1))) 4096 0 s)
set_option maxRecDepth 20000 in
set_option maxHeartbeats 4000000 in
theorem t_Cs_first_L2 {L : Nat} {xs : Nat → Int32} {p0 : Nat} (hp0 : v_kd p0 = 0) {k27 : vS → Option (Int32 × vS)} {D : Nat} (hD : 2 ≤ D) {r : Int32} {s' : vS} (hk27 : ∀ (s : vS), k27 s = some (r, s') → s_Ek (s_rows 3 L xs) D s_e11.1 27 [] [] (v_mk s) (v_Q (some (.int r)) s')) : ∀ (n : Nat) (v1 : Int32) (s : vS), f_Cs_first_L2 p0 k27 n v1 s = some (r, s') → s_Ek (s_rows 3 L xs) D s_e11.1 2 [(0, .ref p0), (1, .int v1)] [] (v_mk s) (v_Q (some (.int r)) s') := by
  intro n
  induction n with
  | zero => intro v1 s h; exact nomatch (show (none : Option (Int32 × vS)) = some (r, s') from h)
  | succ n ih =>
    intro v1 s h
    replace h : f_Cs_first_L2b p0 k27 (f_Cs_first_L2 p0 k27 n) v1 s = some (r, s') := h
    unfold f_Cs_first_L2b at h
    refine s_ek_bk 2 (P := 5) (ls' := [(0, .ref p0), (1, .int v1)]) (st' := [.int 125, .int v1]) (M' := v_mk s) rfl ?_
    rcases v_if h with ⟨c101, h⟩ | ⟨c101, h⟩
    · refine v_i2t (T := 27) rfl rfl c101 ?_
      refine v_ls (ls' := []) trivial (show ([] : List Nat).Nodup from by decide) ?_
      exact hk27 _ h
    · refine v_i2f (T := 27) rfl rfl c101 ?_
      refine s_ek_bk 2 (P := 10) (ls' := [(0, .ref p0), (1, .int v1)]) (st' := [.int v1, .ref p0]) (M' := v_mk s) rfl ?_
      obtain ⟨r102, s102, e102, h⟩ := v_bd h
      refine v_cV (ν := s_e8.1) (w := 65) (a := p0) (as' := [.int v1]) (r := []) (o := some (.int r102)) (by omega) rfl rfl rfl (v_mk_kd (k := 0) hp0 (by decide)) rfl (t_Cs_has hp0 e102 (by omega)) ?_
      show s_Ek (s_rows 3 L xs) D s_e11.1 13 [(0, .ref p0), (1, .int v1)] [.int r102] (v_mk s102) _
      rcases v_if h with ⟨c103, h⟩ | ⟨c103, h⟩
      · refine v_i1t (T := 21) rfl rfl c103 ?_
        refine s_ek_bk 2 (P := 2) (ls' := [(1, .int (v1 + 1)), (0, .ref p0)]) (st' := []) (M' := v_mk s102) rfl ?_
        refine v_ls (ls' := [(0, .ref p0), (1, .int (v1 + 1))]) ⟨rfl, rfl, trivial⟩ (show ([0, 1] : List Nat).Nodup from by decide) ?_
        exact ih _ _ h
      · refine v_i1f (T := 21) rfl rfl c103 ?_
        refine s_ek_bk 1 (P := 17) (ls' := [(0, .ref p0), (1, .int v1)]) (st' := [.int v1]) (M' := v_mk s102) rfl ?_
        obtain ⟨r104, s104, e104, h⟩ := v_bd h
        refine v_cS (ν := s_e3.1) (w := 25) (as := [.int v1]) (r := []) (o := some (.int r104)) (by omega) rfl rfl rfl rfl (t_Cs_numberOf e104 (by omega)) ?_
        show s_Ek (s_rows 3 L xs) D s_e11.1 20 [(0, .ref p0), (1, .int v1)] [.int r104] (v_mk s104) _
        obtain ⟨rfl, rfl⟩ := v_so h
        exact v_ret (fun _ => rfl)
set_option maxRecDepth 20000 in
set_option maxHeartbeats 4000000 in
theorem t_Cs_first {L : Nat} {xs : Nat → Int32} {a : Nat} (ha : v_kd a = 0) {D : Nat} {r : Int32} {s s' : vS} (h : f_Cs_first a s = some (r, s')) (hD : 2 ≤ D) : s_Ek (s_rows 3 L xs) D s_e11.1 0 (lv_args 0 [.ref a]) [] (v_mk s) (v_Q (some (.int r)) s') := by
  unfold f_Cs_first at h
  show s_Ek (s_rows 3 L xs) D s_e11.1 0 [(0, .ref a)] [] (v_mk s) _
  refine s_ek_bk 2 (P := 2) (ls' := [(1, .int 0), (0, .ref a)]) (st' := []) (M' := v_mk s) rfl ?_
  refine v_ls (ls' := [(0, .ref a), (1, .int 0)]) ⟨rfl, rfl, trivial⟩ (show ([0, 1] : List Nat).Nodup from by decide) ?_
  refine t_Cs_first_L2 ha (by omega) (fun s1 h => ?_) 4096 _ _ h
  show s_Ek (s_rows 3 L xs) D s_e11.1 27 [] [] (v_mk s1) _
  refine s_ek_bk 1 (P := 29) (ls' := []) (st' := [.int (-2)]) (M' := v_mk s1) rfl ?_
  obtain ⟨rfl, rfl⟩ := v_so h
  exact v_ret (fun _ => rfl)
noncomputable def f_Ch_dropFirst (s : vS) : Option (Unit × vS) := (if v_cok (1 : Int32) (0 : Int32) (39 : Int32) 40 40 then (v_let (v_cp1 s 74 1 74 0 39) (fun s2 => (if v_cok (1 : Int32) (0 : Int32) (39 : Int32) 40 40 then (v_let (v_cp1 s2 75 1 75 0 39) (fun s4 => (if v_cok (1 : Int32) (0 : Int32) (39 : Int32) 40 40 then (v_let (v_cp1 s4 76 1 76 0 39) (fun s6 => (if v_cok (1 : Int32) (0 : Int32) (39 : Int32) 40 40 then (v_let (v_cp1 s6 77 1 77 0 39) (fun s8 => (v_let (v_w1 s8 73 0 39) (fun s9 => (some ((), s9)))))) else none))) else none))) else none))) else none)
set_option maxRecDepth 20000 in
set_option maxHeartbeats 4000000 in
theorem t_Ch_dropFirst {L : Nat} {xs : Nat → Int32} {D : Nat} {r : Unit} {s s' : vS} (h : f_Ch_dropFirst s = some (r, s')) (hD : 1 ≤ D) : s_Ek (s_rows 3 L xs) D s_e14.1 0 (lv_args 0 [.ref 73]) [] (v_mk s) (v_Q none s') := by
  unfold f_Ch_dropFirst at h
  show s_Ek (s_rows 3 L xs) D s_e14.1 0 [(0, .ref 73)] [] (v_mk s) _
  refine s_ek_bk 1 (P := 1) (ls' := [(0, .ref 73)]) (st' := [.ref 73]) (M' := v_mk s) rfl ?_
  refine v_gf rfl (v_gr (rfl : v_kd 73 = 1) (rfl : v_sl 73 2 = .ref 74) ⟨rfl, rfl, by decide⟩) ?_
  refine s_ek_bk 2 (P := 6) (ls' := [(0, .ref 73)]) (st' := [.ref 73, .int 1, .ref 74]) (M' := v_mk s) rfl ?_
  refine v_gf rfl (v_gr (rfl : v_kd 73 = 1) (rfl : v_sl 73 2 = .ref 74) ⟨rfl, rfl, by decide⟩) ?_
  refine s_ek_bk 2 (P := 12) (ls' := [(0, .ref 73)]) (st' := [.int 39, .int 0, .ref 74, .int 1, .ref 74]) (M' := v_mk s) rfl ?_
  obtain ⟨c1, h⟩ := v_ck h
  obtain ⟨s2, es2, h⟩ := v_ld h
  refine v_acp (by omega) (M2 := v_mk s2) (r := []) rfl (by rw [es2]; exact v_ac1 (rfl : v_kd 74 = 13) (rfl : v_kd 74 = 13) (v_ckn (rfl : v_ln 74 = 40) (rfl : v_ln 74 = 40) c1) rfl) v_keep ?_
  refine s_ek_bk 1 (P := 16) (ls' := [(0, .ref 73)]) (st' := [.ref 73]) (M' := v_mk s2) rfl ?_
  refine v_gf rfl (v_gr (rfl : v_kd 73 = 1) (rfl : v_sl 73 3 = .ref 75) ⟨rfl, rfl, by decide⟩) ?_
  refine s_ek_bk 2 (P := 21) (ls' := [(0, .ref 73)]) (st' := [.ref 73, .int 1, .ref 75]) (M' := v_mk s2) rfl ?_
  refine v_gf rfl (v_gr (rfl : v_kd 73 = 1) (rfl : v_sl 73 3 = .ref 75) ⟨rfl, rfl, by decide⟩) ?_
  refine s_ek_bk 2 (P := 27) (ls' := [(0, .ref 73)]) (st' := [.int 39, .int 0, .ref 75, .int 1, .ref 75]) (M' := v_mk s2) rfl ?_
  obtain ⟨c3, h⟩ := v_ck h
  obtain ⟨s4, es4, h⟩ := v_ld h
  refine v_acp (by omega) (M2 := v_mk s4) (r := []) rfl (by rw [es4]; exact v_ac1 (rfl : v_kd 75 = 13) (rfl : v_kd 75 = 13) (v_ckn (rfl : v_ln 75 = 40) (rfl : v_ln 75 = 40) c3) rfl) v_keep ?_
  refine s_ek_bk 1 (P := 31) (ls' := [(0, .ref 73)]) (st' := [.ref 73]) (M' := v_mk s4) rfl ?_
  refine v_gf rfl (v_gr (rfl : v_kd 73 = 1) (rfl : v_sl 73 4 = .ref 76) ⟨rfl, rfl, by decide⟩) ?_
  refine s_ek_bk 2 (P := 36) (ls' := [(0, .ref 73)]) (st' := [.ref 73, .int 1, .ref 76]) (M' := v_mk s4) rfl ?_
  refine v_gf rfl (v_gr (rfl : v_kd 73 = 1) (rfl : v_sl 73 4 = .ref 76) ⟨rfl, rfl, by decide⟩) ?_
  refine s_ek_bk 2 (P := 42) (ls' := [(0, .ref 73)]) (st' := [.int 39, .int 0, .ref 76, .int 1, .ref 76]) (M' := v_mk s4) rfl ?_
  obtain ⟨c5, h⟩ := v_ck h
  obtain ⟨s6, es6, h⟩ := v_ld h
  refine v_acp (by omega) (M2 := v_mk s6) (r := []) rfl (by rw [es6]; exact v_ac1 (rfl : v_kd 76 = 13) (rfl : v_kd 76 = 13) (v_ckn (rfl : v_ln 76 = 40) (rfl : v_ln 76 = 40) c5) rfl) v_keep ?_
  refine s_ek_bk 1 (P := 46) (ls' := [(0, .ref 73)]) (st' := [.ref 73]) (M' := v_mk s6) rfl ?_
  refine v_gf rfl (v_gr (rfl : v_kd 73 = 1) (rfl : v_sl 73 5 = .ref 77) ⟨rfl, rfl, by decide⟩) ?_
  refine s_ek_bk 2 (P := 51) (ls' := [(0, .ref 73)]) (st' := [.ref 73, .int 1, .ref 77]) (M' := v_mk s6) rfl ?_
  refine v_gf rfl (v_gr (rfl : v_kd 73 = 1) (rfl : v_sl 73 5 = .ref 77) ⟨rfl, rfl, by decide⟩) ?_
  refine s_ek_bk 2 (P := 57) (ls' := [(0, .ref 73)]) (st' := [.int 39, .int 0, .ref 77, .int 1, .ref 77]) (M' := v_mk s6) rfl ?_
  obtain ⟨c7, h⟩ := v_ck h
  obtain ⟨s8, es8, h⟩ := v_ld h
  refine v_acp (by omega) (M2 := v_mk s8) (r := []) rfl (by rw [es8]; exact v_ac1 (rfl : v_kd 77 = 13) (rfl : v_kd 77 = 13) (v_ckn (rfl : v_ln 77 = 40) (rfl : v_ln 77 = 40) c7) rfl) v_keep ?_
  refine s_ek_bk 2 (P := 63) (ls' := [(0, .ref 73)]) (st' := [.int 39, .ref 73]) (M' := v_mk s8) rfl ?_
  obtain ⟨s9, es9, h⟩ := v_ld h
  refine v_pf (M' := v_mk s9) rfl (by rw [es9]; exact v_pi (rfl : v_kd 73 = 1) rfl ⟨rfl, rfl, by decide⟩ rfl) ?_
  obtain ⟨rfl, rfl⟩ := v_so h
  exact v_ret (fun _ => rfl)
noncomputable def f_Ch_add (b : Int32) (c : Int32) (d : Int32) (e : Int32) (s : vS) : Option (Unit × vS) := (if (s.1 73 0).toInt < 40 then (if (s.1 73 0).toInt < 0 then (some ((), s)) else (if (s.1 73 0).toInt < 40 then (if v_in (s.1 73 0) 40 then (v_let (v_w1 s 74 (Int32.toNatClampNeg (s.1 73 0)) b) (fun s5 => (if v_in (s5.1 73 0) 40 then (v_let (v_w1 s5 75 (Int32.toNatClampNeg (s5.1 73 0)) c) (fun s7 => (if v_in (s7.1 73 0) 40 then (v_let (v_w1 s7 76 (Int32.toNatClampNeg (s7.1 73 0)) d) (fun s9 => (if v_in (s9.1 73 0) 40 then (v_let (v_w1 s9 77 (Int32.toNatClampNeg (s9.1 73 0)) e) (fun s11 => (v_let (v_w1 s11 73 0 ((s11.1 73 0) + (1 : Int32))) (fun s12 => (v_let (v_w1 s12 73 1 (s12.1 73 0)) (fun s13 => (some ((), s13)))))))) else none))) else none))) else none))) else none) else (some ((), s)))) else (v_bi (f_Ch_dropFirst s) (fun _ s14 => (if (s14.1 73 0).toInt < 0 then (some ((), s14)) else (if (s14.1 73 0).toInt < 40 then (if v_in (s14.1 73 0) 40 then (v_let (v_w1 s14 74 (Int32.toNatClampNeg (s14.1 73 0)) b) (fun s18 => (if v_in (s18.1 73 0) 40 then (v_let (v_w1 s18 75 (Int32.toNatClampNeg (s18.1 73 0)) c) (fun s20 => (if v_in (s20.1 73 0) 40 then (v_let (v_w1 s20 76 (Int32.toNatClampNeg (s20.1 73 0)) d) (fun s22 => (if v_in (s22.1 73 0) 40 then (v_let (v_w1 s22 77 (Int32.toNatClampNeg (s22.1 73 0)) e) (fun s24 => (v_let (v_w1 s24 73 0 ((s24.1 73 0) + (1 : Int32))) (fun s25 => (v_let (v_w1 s25 73 1 (s25.1 73 0)) (fun s26 => (some ((), s26)))))))) else none))) else none))) else none))) else none) else (some ((), s14)))))))
set_option maxRecDepth 20000 in
set_option maxHeartbeats 4000000 in
theorem t_Ch_add {L : Nat} {xs : Nat → Int32} {b : Int32} {c : Int32} {d : Int32} {e : Int32} {D : Nat} {r : Unit} {s s' : vS} (h : f_Ch_add b c d e s = some (r, s')) (hD : 2 ≤ D) : s_Ek (s_rows 3 L xs) D s_e13.1 0 (lv_args 0 [.ref 73, .int b, .int c, .int d, .int e]) [] (v_mk s) (v_Q none s') := by
  unfold f_Ch_add at h
  show s_Ek (s_rows 3 L xs) D s_e13.1 0 [(0, .ref 73), (1, .int b), (2, .int c), (3, .int d), (4, .int e)] [] (v_mk s) _
  refine s_ek_bk 1 (P := 1) (ls' := [(0, .ref 73), (1, .int b), (2, .int c), (3, .int d), (4, .int e)]) (st' := [.ref 73]) (M' := v_mk s) rfl ?_
  refine v_gf rfl (v_gi (rfl : v_kd 73 = 1) rfl ⟨rfl, rfl, by decide⟩) ?_
  refine s_ek_bk 1 (P := 6) (ls' := [(0, .ref 73), (1, .int b), (2, .int c), (3, .int d), (4, .int e)]) (st' := [.int 40, .int (s.1 73 0)]) (M' := v_mk s) rfl ?_
  rcases v_if h with ⟨c1, h⟩ | ⟨c1, h⟩
  · refine v_i2t (T := 13) rfl rfl c1 ?_
    refine s_ek_bk 1 (P := 14) (ls' := [(0, .ref 73), (1, .int b), (2, .int c), (3, .int d), (4, .int e)]) (st' := [.ref 73]) (M' := v_mk s) rfl ?_
    refine v_gf rfl (v_gi (rfl : v_kd 73 = 1) rfl ⟨rfl, rfl, by decide⟩) ?_
    rcases v_if h with ⟨c2, h⟩ | ⟨c2, h⟩
    · refine v_i1t (T := 29) rfl rfl c2 ?_
      obtain ⟨rfl, rfl⟩ := v_so h
      exact v_ret (fun _ => rfl)
    · refine v_i1f (T := 29) rfl rfl c2 ?_
      refine s_ek_bk 1 (P := 21) (ls' := [(0, .ref 73), (1, .int b), (2, .int c), (3, .int d), (4, .int e)]) (st' := [.ref 73]) (M' := v_mk s) rfl ?_
      refine v_gf rfl (v_gi (rfl : v_kd 73 = 1) rfl ⟨rfl, rfl, by decide⟩) ?_
      refine s_ek_bk 1 (P := 26) (ls' := [(0, .ref 73), (1, .int b), (2, .int c), (3, .int d), (4, .int e)]) (st' := [.int 40, .int (s.1 73 0)]) (M' := v_mk s) rfl ?_
      rcases v_if h with ⟨c3, h⟩ | ⟨c3, h⟩
      · refine v_i2t (T := 30) rfl rfl c3 ?_
        refine s_ek_bk 1 (P := 31) (ls' := [(0, .ref 73), (1, .int b), (2, .int c), (3, .int d), (4, .int e)]) (st' := [.ref 73]) (M' := v_mk s) rfl ?_
        refine v_gf rfl (v_gr (rfl : v_kd 73 = 1) (rfl : v_sl 73 2 = .ref 74) ⟨rfl, rfl, by decide⟩) ?_
        refine s_ek_bk 1 (P := 35) (ls' := [(0, .ref 73), (1, .int b), (2, .int c), (3, .int d), (4, .int e)]) (st' := [.ref 73, .ref 74]) (M' := v_mk s) rfl ?_
        refine v_gf rfl (v_gi (rfl : v_kd 73 = 1) rfl ⟨rfl, rfl, by decide⟩) ?_
        refine s_ek_bk 1 (P := 39) (ls' := [(0, .ref 73), (1, .int b), (2, .int c), (3, .int d), (4, .int e)]) (st' := [.int b, .int (s.1 73 0), .ref 74]) (M' := v_mk s) rfl ?_
        obtain ⟨c4, h⟩ := v_ck h
        obtain ⟨s5, es5, h⟩ := v_ld h
        refine v_ist (M' := v_mk s5) (i := (s.1 73 0)) rfl (by rw [es5]; exact v_pai (rfl : v_kd 74 = 13) rfl (by decide) v_all13 (v_cn (rfl : v_ln 74 = 40) c4)) ?_
        refine s_ek_bk 1 (P := 41) (ls' := [(0, .ref 73), (1, .int b), (2, .int c), (3, .int d), (4, .int e)]) (st' := [.ref 73]) (M' := v_mk s5) rfl ?_
        refine v_gf rfl (v_gr (rfl : v_kd 73 = 1) (rfl : v_sl 73 3 = .ref 75) ⟨rfl, rfl, by decide⟩) ?_
        refine s_ek_bk 1 (P := 45) (ls' := [(0, .ref 73), (1, .int b), (2, .int c), (3, .int d), (4, .int e)]) (st' := [.ref 73, .ref 75]) (M' := v_mk s5) rfl ?_
        refine v_gf rfl (v_gi (rfl : v_kd 73 = 1) rfl ⟨rfl, rfl, by decide⟩) ?_
        refine s_ek_bk 1 (P := 49) (ls' := [(0, .ref 73), (1, .int b), (2, .int c), (3, .int d), (4, .int e)]) (st' := [.int c, .int (s5.1 73 0), .ref 75]) (M' := v_mk s5) rfl ?_
        obtain ⟨c6, h⟩ := v_ck h
        obtain ⟨s7, es7, h⟩ := v_ld h
        refine v_ist (M' := v_mk s7) (i := (s5.1 73 0)) rfl (by rw [es7]; exact v_pai (rfl : v_kd 75 = 13) rfl (by decide) v_all13 (v_cn (rfl : v_ln 75 = 40) c6)) ?_
        refine s_ek_bk 1 (P := 51) (ls' := [(0, .ref 73), (1, .int b), (2, .int c), (3, .int d), (4, .int e)]) (st' := [.ref 73]) (M' := v_mk s7) rfl ?_
        refine v_gf rfl (v_gr (rfl : v_kd 73 = 1) (rfl : v_sl 73 4 = .ref 76) ⟨rfl, rfl, by decide⟩) ?_
        refine s_ek_bk 1 (P := 55) (ls' := [(0, .ref 73), (1, .int b), (2, .int c), (3, .int d), (4, .int e)]) (st' := [.ref 73, .ref 76]) (M' := v_mk s7) rfl ?_
        refine v_gf rfl (v_gi (rfl : v_kd 73 = 1) rfl ⟨rfl, rfl, by decide⟩) ?_
        refine s_ek_bk 1 (P := 59) (ls' := [(0, .ref 73), (1, .int b), (2, .int c), (3, .int d), (4, .int e)]) (st' := [.int d, .int (s7.1 73 0), .ref 76]) (M' := v_mk s7) rfl ?_
        obtain ⟨c8, h⟩ := v_ck h
        obtain ⟨s9, es9, h⟩ := v_ld h
        refine v_ist (M' := v_mk s9) (i := (s7.1 73 0)) rfl (by rw [es9]; exact v_pai (rfl : v_kd 76 = 13) rfl (by decide) v_all13 (v_cn (rfl : v_ln 76 = 40) c8)) ?_
        refine s_ek_bk 1 (P := 61) (ls' := [(0, .ref 73), (1, .int b), (2, .int c), (3, .int d), (4, .int e)]) (st' := [.ref 73]) (M' := v_mk s9) rfl ?_
        refine v_gf rfl (v_gr (rfl : v_kd 73 = 1) (rfl : v_sl 73 5 = .ref 77) ⟨rfl, rfl, by decide⟩) ?_
        refine s_ek_bk 1 (P := 65) (ls' := [(0, .ref 73), (1, .int b), (2, .int c), (3, .int d), (4, .int e)]) (st' := [.ref 73, .ref 77]) (M' := v_mk s9) rfl ?_
        refine v_gf rfl (v_gi (rfl : v_kd 73 = 1) rfl ⟨rfl, rfl, by decide⟩) ?_
        refine s_ek_bk 1 (P := 70) (ls' := [(0, .ref 73), (1, .int b), (2, .int c), (3, .int d), (4, .int e)]) (st' := [.int e, .int (s9.1 73 0), .ref 77]) (M' := v_mk s9) rfl ?_
        obtain ⟨c10, h⟩ := v_ck h
        obtain ⟨s11, es11, h⟩ := v_ld h
        refine v_ist (M' := v_mk s11) (i := (s9.1 73 0)) rfl (by rw [es11]; exact v_pai (rfl : v_kd 77 = 13) rfl (by decide) v_all13 (v_cn (rfl : v_ln 77 = 40) c10)) ?_
        refine s_ek_bk 2 (P := 73) (ls' := [(0, .ref 73), (1, .int b), (2, .int c), (3, .int d), (4, .int e)]) (st' := [.ref 73, .ref 73]) (M' := v_mk s11) rfl ?_
        refine v_gf rfl (v_gi (rfl : v_kd 73 = 1) rfl ⟨rfl, rfl, by decide⟩) ?_
        refine s_ek_bk 2 (P := 78) (ls' := [(0, .ref 73), (1, .int b), (2, .int c), (3, .int d), (4, .int e)]) (st' := [.int ((s11.1 73 0) + (1 : Int32)), .ref 73]) (M' := v_mk s11) rfl ?_
        obtain ⟨s12, es12, h⟩ := v_ld h
        refine v_pf (M' := v_mk s12) rfl (by rw [es12]; exact v_pi (rfl : v_kd 73 = 1) rfl ⟨rfl, rfl, by decide⟩ rfl) ?_
        refine s_ek_bk 2 (P := 83) (ls' := [(0, .ref 73), (1, .int b), (2, .int c), (3, .int d), (4, .int e)]) (st' := [.ref 73, .ref 73]) (M' := v_mk s12) rfl ?_
        refine v_gf rfl (v_gi (rfl : v_kd 73 = 1) rfl ⟨rfl, rfl, by decide⟩) ?_
        obtain ⟨s13, es13, h⟩ := v_ld h
        refine v_pf (M' := v_mk s13) rfl (by rw [es13]; exact v_pi (rfl : v_kd 73 = 1) rfl ⟨rfl, rfl, by decide⟩ rfl) ?_
        obtain ⟨rfl, rfl⟩ := v_so h
        exact v_ret (fun _ => rfl)
      · refine v_i2f (T := 30) rfl rfl c3 ?_
        obtain ⟨rfl, rfl⟩ := v_so h
        exact v_ret (fun _ => rfl)
  · refine v_i2f (T := 13) rfl rfl c1 ?_
    refine s_ek_bk 1 (P := 10) (ls' := [(0, .ref 73), (1, .int b), (2, .int c), (3, .int d), (4, .int e)]) (st' := [.ref 73]) (M' := v_mk s) rfl ?_
    obtain ⟨r14, s14, e14, h⟩ := v_bd h
    refine v_cV (ν := s_e14.1) (w := 112) (a := 73) (as' := []) (r := []) (o := none) (by omega) rfl rfl rfl (v_mk_kd (k := 1) (rfl : v_kd 73 = 1) (by decide)) rfl (t_Ch_dropFirst e14 (by omega)) ?_
    show s_Ek (s_rows 3 L xs) D s_e13.1 13 [(0, .ref 73), (1, .int b), (2, .int c), (3, .int d), (4, .int e)] [] (v_mk s14) _
    refine s_ek_bk 1 (P := 14) (ls' := [(0, .ref 73), (1, .int b), (2, .int c), (3, .int d), (4, .int e)]) (st' := [.ref 73]) (M' := v_mk s14) rfl ?_
    refine v_gf rfl (v_gi (rfl : v_kd 73 = 1) rfl ⟨rfl, rfl, by decide⟩) ?_
    rcases v_if h with ⟨c15, h⟩ | ⟨c15, h⟩
    · refine v_i1t (T := 29) rfl rfl c15 ?_
      obtain ⟨rfl, rfl⟩ := v_so h
      exact v_ret (fun _ => rfl)
    · refine v_i1f (T := 29) rfl rfl c15 ?_
      refine s_ek_bk 1 (P := 21) (ls' := [(0, .ref 73), (1, .int b), (2, .int c), (3, .int d), (4, .int e)]) (st' := [.ref 73]) (M' := v_mk s14) rfl ?_
      refine v_gf rfl (v_gi (rfl : v_kd 73 = 1) rfl ⟨rfl, rfl, by decide⟩) ?_
      refine s_ek_bk 1 (P := 26) (ls' := [(0, .ref 73), (1, .int b), (2, .int c), (3, .int d), (4, .int e)]) (st' := [.int 40, .int (s14.1 73 0)]) (M' := v_mk s14) rfl ?_
      rcases v_if h with ⟨c16, h⟩ | ⟨c16, h⟩
      · refine v_i2t (T := 30) rfl rfl c16 ?_
        refine s_ek_bk 1 (P := 31) (ls' := [(0, .ref 73), (1, .int b), (2, .int c), (3, .int d), (4, .int e)]) (st' := [.ref 73]) (M' := v_mk s14) rfl ?_
        refine v_gf rfl (v_gr (rfl : v_kd 73 = 1) (rfl : v_sl 73 2 = .ref 74) ⟨rfl, rfl, by decide⟩) ?_
        refine s_ek_bk 1 (P := 35) (ls' := [(0, .ref 73), (1, .int b), (2, .int c), (3, .int d), (4, .int e)]) (st' := [.ref 73, .ref 74]) (M' := v_mk s14) rfl ?_
        refine v_gf rfl (v_gi (rfl : v_kd 73 = 1) rfl ⟨rfl, rfl, by decide⟩) ?_
        refine s_ek_bk 1 (P := 39) (ls' := [(0, .ref 73), (1, .int b), (2, .int c), (3, .int d), (4, .int e)]) (st' := [.int b, .int (s14.1 73 0), .ref 74]) (M' := v_mk s14) rfl ?_
        obtain ⟨c17, h⟩ := v_ck h
        obtain ⟨s18, es18, h⟩ := v_ld h
        refine v_ist (M' := v_mk s18) (i := (s14.1 73 0)) rfl (by rw [es18]; exact v_pai (rfl : v_kd 74 = 13) rfl (by decide) v_all13 (v_cn (rfl : v_ln 74 = 40) c17)) ?_
        refine s_ek_bk 1 (P := 41) (ls' := [(0, .ref 73), (1, .int b), (2, .int c), (3, .int d), (4, .int e)]) (st' := [.ref 73]) (M' := v_mk s18) rfl ?_
        refine v_gf rfl (v_gr (rfl : v_kd 73 = 1) (rfl : v_sl 73 3 = .ref 75) ⟨rfl, rfl, by decide⟩) ?_
        refine s_ek_bk 1 (P := 45) (ls' := [(0, .ref 73), (1, .int b), (2, .int c), (3, .int d), (4, .int e)]) (st' := [.ref 73, .ref 75]) (M' := v_mk s18) rfl ?_
        refine v_gf rfl (v_gi (rfl : v_kd 73 = 1) rfl ⟨rfl, rfl, by decide⟩) ?_
        refine s_ek_bk 1 (P := 49) (ls' := [(0, .ref 73), (1, .int b), (2, .int c), (3, .int d), (4, .int e)]) (st' := [.int c, .int (s18.1 73 0), .ref 75]) (M' := v_mk s18) rfl ?_
        obtain ⟨c19, h⟩ := v_ck h
        obtain ⟨s20, es20, h⟩ := v_ld h
        refine v_ist (M' := v_mk s20) (i := (s18.1 73 0)) rfl (by rw [es20]; exact v_pai (rfl : v_kd 75 = 13) rfl (by decide) v_all13 (v_cn (rfl : v_ln 75 = 40) c19)) ?_
        refine s_ek_bk 1 (P := 51) (ls' := [(0, .ref 73), (1, .int b), (2, .int c), (3, .int d), (4, .int e)]) (st' := [.ref 73]) (M' := v_mk s20) rfl ?_
        refine v_gf rfl (v_gr (rfl : v_kd 73 = 1) (rfl : v_sl 73 4 = .ref 76) ⟨rfl, rfl, by decide⟩) ?_
        refine s_ek_bk 1 (P := 55) (ls' := [(0, .ref 73), (1, .int b), (2, .int c), (3, .int d), (4, .int e)]) (st' := [.ref 73, .ref 76]) (M' := v_mk s20) rfl ?_
        refine v_gf rfl (v_gi (rfl : v_kd 73 = 1) rfl ⟨rfl, rfl, by decide⟩) ?_
        refine s_ek_bk 1 (P := 59) (ls' := [(0, .ref 73), (1, .int b), (2, .int c), (3, .int d), (4, .int e)]) (st' := [.int d, .int (s20.1 73 0), .ref 76]) (M' := v_mk s20) rfl ?_
        obtain ⟨c21, h⟩ := v_ck h
        obtain ⟨s22, es22, h⟩ := v_ld h
        refine v_ist (M' := v_mk s22) (i := (s20.1 73 0)) rfl (by rw [es22]; exact v_pai (rfl : v_kd 76 = 13) rfl (by decide) v_all13 (v_cn (rfl : v_ln 76 = 40) c21)) ?_
        refine s_ek_bk 1 (P := 61) (ls' := [(0, .ref 73), (1, .int b), (2, .int c), (3, .int d), (4, .int e)]) (st' := [.ref 73]) (M' := v_mk s22) rfl ?_
        refine v_gf rfl (v_gr (rfl : v_kd 73 = 1) (rfl : v_sl 73 5 = .ref 77) ⟨rfl, rfl, by decide⟩) ?_
        refine s_ek_bk 1 (P := 65) (ls' := [(0, .ref 73), (1, .int b), (2, .int c), (3, .int d), (4, .int e)]) (st' := [.ref 73, .ref 77]) (M' := v_mk s22) rfl ?_
        refine v_gf rfl (v_gi (rfl : v_kd 73 = 1) rfl ⟨rfl, rfl, by decide⟩) ?_
        refine s_ek_bk 1 (P := 70) (ls' := [(0, .ref 73), (1, .int b), (2, .int c), (3, .int d), (4, .int e)]) (st' := [.int e, .int (s22.1 73 0), .ref 77]) (M' := v_mk s22) rfl ?_
        obtain ⟨c23, h⟩ := v_ck h
        obtain ⟨s24, es24, h⟩ := v_ld h
        refine v_ist (M' := v_mk s24) (i := (s22.1 73 0)) rfl (by rw [es24]; exact v_pai (rfl : v_kd 77 = 13) rfl (by decide) v_all13 (v_cn (rfl : v_ln 77 = 40) c23)) ?_
        refine s_ek_bk 2 (P := 73) (ls' := [(0, .ref 73), (1, .int b), (2, .int c), (3, .int d), (4, .int e)]) (st' := [.ref 73, .ref 73]) (M' := v_mk s24) rfl ?_
        refine v_gf rfl (v_gi (rfl : v_kd 73 = 1) rfl ⟨rfl, rfl, by decide⟩) ?_
        refine s_ek_bk 2 (P := 78) (ls' := [(0, .ref 73), (1, .int b), (2, .int c), (3, .int d), (4, .int e)]) (st' := [.int ((s24.1 73 0) + (1 : Int32)), .ref 73]) (M' := v_mk s24) rfl ?_
        obtain ⟨s25, es25, h⟩ := v_ld h
        refine v_pf (M' := v_mk s25) rfl (by rw [es25]; exact v_pi (rfl : v_kd 73 = 1) rfl ⟨rfl, rfl, by decide⟩ rfl) ?_
        refine s_ek_bk 2 (P := 83) (ls' := [(0, .ref 73), (1, .int b), (2, .int c), (3, .int d), (4, .int e)]) (st' := [.ref 73, .ref 73]) (M' := v_mk s25) rfl ?_
        refine v_gf rfl (v_gi (rfl : v_kd 73 = 1) rfl ⟨rfl, rfl, by decide⟩) ?_
        obtain ⟨s26, es26, h⟩ := v_ld h
        refine v_pf (M' := v_mk s26) rfl (by rw [es26]; exact v_pi (rfl : v_kd 73 = 1) rfl ⟨rfl, rfl, by decide⟩ rfl) ?_
        obtain ⟨rfl, rfl⟩ := v_so h
        exact v_ret (fun _ => rfl)
      · refine v_i2f (T := 30) rfl rfl c16 ?_
        obtain ⟨rfl, rfl⟩ := v_so h
        exact v_ret (fun _ => rfl)
noncomputable def f_Ch_forget (s : vS) : Option (Unit × vS) := (v_let (v_w1 s 73 0 0) (fun s1 => (v_let (v_w1 s1 73 1 0) (fun s2 => (some ((), s2))))))
set_option maxRecDepth 20000 in
set_option maxHeartbeats 4000000 in
theorem t_Ch_forget {L : Nat} {xs : Nat → Int32} {D : Nat} {r : Unit} {s s' : vS} (h : f_Ch_forget s = some (r, s')) (hD : 0 ≤ D) : s_Ek (s_rows 3 L xs) D s_e15.1 0 (lv_args 0 [.ref 73]) [] (v_mk s) (v_Q none s') := by
  unfold f_Ch_forget at h
  show s_Ek (s_rows 3 L xs) D s_e15.1 0 [(0, .ref 73)] [] (v_mk s) _
  refine s_ek_bk 2 (P := 2) (ls' := [(0, .ref 73)]) (st' := [.int 0, .ref 73]) (M' := v_mk s) rfl ?_
  obtain ⟨s1, es1, h⟩ := v_ld h
  refine v_pf (M' := v_mk s1) rfl (by rw [es1]; exact v_pi (rfl : v_kd 73 = 1) rfl ⟨rfl, rfl, by decide⟩ rfl) ?_
  refine s_ek_bk 2 (P := 7) (ls' := [(0, .ref 73)]) (st' := [.int 0, .ref 73]) (M' := v_mk s1) rfl ?_
  obtain ⟨s2, es2, h⟩ := v_ld h
  refine v_pf (M' := v_mk s2) rfl (by rw [es2]; exact v_pi (rfl : v_kd 73 = 1) rfl ⟨rfl, rfl, by decide⟩ rfl) ?_
  obtain ⟨rfl, rfl⟩ := v_so h
  exact v_ret (fun _ => rfl)
noncomputable def f_Ch_latest (s : vS) : Option (Int32 × vS) := (some (((s.1 73 0) - (1 : Int32)), s))
set_option maxRecDepth 20000 in
set_option maxHeartbeats 4000000 in
theorem t_Ch_latest {L : Nat} {xs : Nat → Int32} {D : Nat} {r : Int32} {s s' : vS} (h : f_Ch_latest s = some (r, s')) (hD : 0 ≤ D) : s_Ek (s_rows 3 L xs) D s_e16.1 0 (lv_args 0 [.ref 73]) [] (v_mk s) (v_Q (some (.int r)) s') := by
  unfold f_Ch_latest at h
  show s_Ek (s_rows 3 L xs) D s_e16.1 0 [(0, .ref 73)] [] (v_mk s) _
  refine s_ek_bk 1 (P := 1) (ls' := [(0, .ref 73)]) (st' := [.ref 73]) (M' := v_mk s) rfl ?_
  refine v_gf rfl (v_gi (rfl : v_kd 73 = 1) rfl ⟨rfl, rfl, by decide⟩) ?_
  refine s_ek_bk 2 (P := 6) (ls' := [(0, .ref 73)]) (st' := [.int ((s.1 73 0) - (1 : Int32))]) (M' := v_mk s) rfl ?_
  obtain ⟨rfl, rfl⟩ := v_so h
  exact v_ret (fun _ => rfl)
noncomputable def f_Ch_next (s : vS) : Option (Int32 × vS) := (if (s.1 73 1).toInt ≤ (s.1 73 0).toInt then (some ((-1), s)) else (some ((s.1 73 0), s)))
set_option maxRecDepth 20000 in
set_option maxHeartbeats 4000000 in
theorem t_Ch_next {L : Nat} {xs : Nat → Int32} {D : Nat} {r : Int32} {s s' : vS} (h : f_Ch_next s = some (r, s')) (hD : 0 ≤ D) : s_Ek (s_rows 3 L xs) D s_e17.1 0 (lv_args 0 [.ref 73]) [] (v_mk s) (v_Q (some (.int r)) s') := by
  unfold f_Ch_next at h
  show s_Ek (s_rows 3 L xs) D s_e17.1 0 [(0, .ref 73)] [] (v_mk s) _
  refine s_ek_bk 1 (P := 1) (ls' := [(0, .ref 73)]) (st' := [.ref 73]) (M' := v_mk s) rfl ?_
  refine v_gf rfl (v_gi (rfl : v_kd 73 = 1) rfl ⟨rfl, rfl, by decide⟩) ?_
  refine s_ek_bk 1 (P := 5) (ls' := [(0, .ref 73)]) (st' := [.ref 73, .int (s.1 73 0)]) (M' := v_mk s) rfl ?_
  refine v_gf rfl (v_gi (rfl : v_kd 73 = 1) rfl ⟨rfl, rfl, by decide⟩) ?_
  rcases v_if h with ⟨c1, h⟩ | ⟨c1, h⟩
  · refine v_i2t (T := 18) rfl rfl c1 ?_
    refine s_ek_bk 1 (P := 19) (ls' := [(0, .ref 73)]) (st' := [.int (-1)]) (M' := v_mk s) rfl ?_
    obtain ⟨rfl, rfl⟩ := v_so h
    exact v_ret (fun _ => rfl)
  · refine v_i2f (T := 18) rfl rfl c1 ?_
    refine s_ek_bk 1 (P := 12) (ls' := [(0, .ref 73)]) (st' := [.ref 73]) (M' := v_mk s) rfl ?_
    refine v_gf rfl (v_gi (rfl : v_kd 73 = 1) rfl ⟨rfl, rfl, by decide⟩) ?_
    refine s_ek_bk 1 (P := 19) (ls' := [(0, .ref 73)]) (st' := [.int (s.1 73 0)]) (M' := v_mk s) rfl ?_
    obtain ⟨rfl, rfl⟩ := v_so h
    exact v_ret (fun _ => rfl)
noncomputable def f_Ch_stepBack (s : vS) : Option (Int32 × vS) := (v_let (v_w1 s 73 0 ((s.1 73 0) - (1 : Int32))) (fun s1 => (some ((s1.1 73 0), s1))))
set_option maxRecDepth 20000 in
set_option maxHeartbeats 4000000 in
theorem t_Ch_stepBack {L : Nat} {xs : Nat → Int32} {D : Nat} {r : Int32} {s s' : vS} (h : f_Ch_stepBack s = some (r, s')) (hD : 0 ≤ D) : s_Ek (s_rows 3 L xs) D s_e18.1 0 (lv_args 0 [.ref 73]) [] (v_mk s) (v_Q (some (.int r)) s') := by
  unfold f_Ch_stepBack at h
  show s_Ek (s_rows 3 L xs) D s_e18.1 0 [(0, .ref 73)] [] (v_mk s) _
  refine s_ek_bk 2 (P := 2) (ls' := [(0, .ref 73)]) (st' := [.ref 73, .ref 73]) (M' := v_mk s) rfl ?_
  refine v_gf rfl (v_gi (rfl : v_kd 73 = 1) rfl ⟨rfl, rfl, by decide⟩) ?_
  refine s_ek_bk 2 (P := 7) (ls' := [(0, .ref 73)]) (st' := [.int ((s.1 73 0) - (1 : Int32)), .ref 73]) (M' := v_mk s) rfl ?_
  obtain ⟨s1, es1, h⟩ := v_ld h
  refine v_pf (M' := v_mk s1) rfl (by rw [es1]; exact v_pi (rfl : v_kd 73 = 1) rfl ⟨rfl, rfl, by decide⟩ rfl) ?_
  refine s_ek_bk 1 (P := 11) (ls' := [(0, .ref 73)]) (st' := [.ref 73]) (M' := v_mk s1) rfl ?_
  refine v_gf rfl (v_gi (rfl : v_kd 73 = 1) rfl ⟨rfl, rfl, by decide⟩) ?_
  obtain ⟨rfl, rfl⟩ := v_so h
  exact v_ret (fun _ => rfl)
noncomputable def f_Ch_stepOn (s : vS) : Option (Int32 × vS) := (v_let (v_w1 s 73 0 ((s.1 73 0) + (1 : Int32))) (fun s1 => (some (((s1.1 73 1) - (s1.1 73 0)), s1))))
set_option maxRecDepth 20000 in
set_option maxHeartbeats 4000000 in
theorem t_Ch_stepOn {L : Nat} {xs : Nat → Int32} {D : Nat} {r : Int32} {s s' : vS} (h : f_Ch_stepOn s = some (r, s')) (hD : 0 ≤ D) : s_Ek (s_rows 3 L xs) D s_e19.1 0 (lv_args 0 [.ref 73]) [] (v_mk s) (v_Q (some (.int r)) s') := by
  unfold f_Ch_stepOn at h
  show s_Ek (s_rows 3 L xs) D s_e19.1 0 [(0, .ref 73)] [] (v_mk s) _
  refine s_ek_bk 2 (P := 2) (ls' := [(0, .ref 73)]) (st' := [.ref 73, .ref 73]) (M' := v_mk s) rfl ?_
  refine v_gf rfl (v_gi (rfl : v_kd 73 = 1) rfl ⟨rfl, rfl, by decide⟩) ?_
  refine s_ek_bk 2 (P := 7) (ls' := [(0, .ref 73)]) (st' := [.int ((s.1 73 0) + (1 : Int32)), .ref 73]) (M' := v_mk s) rfl ?_
  obtain ⟨s1, es1, h⟩ := v_ld h
  refine v_pf (M' := v_mk s1) rfl (by rw [es1]; exact v_pi (rfl : v_kd 73 = 1) rfl ⟨rfl, rfl, by decide⟩ rfl) ?_
  refine s_ek_bk 1 (P := 11) (ls' := [(0, .ref 73)]) (st' := [.ref 73]) (M' := v_mk s1) rfl ?_
  refine v_gf rfl (v_gi (rfl : v_kd 73 = 1) rfl ⟨rfl, rfl, by decide⟩) ?_
  refine s_ek_bk 1 (P := 15) (ls' := [(0, .ref 73)]) (st' := [.ref 73, .int (s1.1 73 1)]) (M' := v_mk s1) rfl ?_
  refine v_gf rfl (v_gi (rfl : v_kd 73 = 1) rfl ⟨rfl, rfl, by decide⟩) ?_
  refine s_ek_bk 1 (P := 19) (ls' := [(0, .ref 73)]) (st' := [.int ((s1.1 73 1) - (s1.1 73 0))]) (M' := v_mk s1) rfl ?_
  obtain ⟨rfl, rfl⟩ := v_so h
  exact v_ret (fun _ => rfl)
noncomputable def f_Ch_number (b : Int32) (s : vS) : Option (Int32 × vS) := (if b.toInt < 0 then (some (0, s)) else (if 40 ≤ b.toInt then (some (0, s)) else (if v_in b 40 then (some ((s.1 74 (Int32.toNatClampNeg b)), s)) else none)))
set_option maxRecDepth 20000 in
set_option maxHeartbeats 4000000 in
theorem t_Ch_number {L : Nat} {xs : Nat → Int32} {b : Int32} {D : Nat} {r : Int32} {s s' : vS} (h : f_Ch_number b s = some (r, s')) (hD : 0 ≤ D) : s_Ek (s_rows 3 L xs) D s_e20.1 0 (lv_args 0 [.ref 73, .int b]) [] (v_mk s) (v_Q (some (.int r)) s') := by
  unfold f_Ch_number at h
  show s_Ek (s_rows 3 L xs) D s_e20.1 0 [(0, .ref 73), (1, .int b)] [] (v_mk s) _
  refine s_ek_bk 1 (P := 1) (ls' := [(0, .ref 73), (1, .int b)]) (st' := [.int b]) (M' := v_mk s) rfl ?_
  rcases v_if h with ⟨c1, h⟩ | ⟨c1, h⟩
  · refine v_i1t (T := 19) rfl rfl c1 ?_
    refine s_ek_bk 1 (P := 20) (ls' := [(0, .ref 73), (1, .int b)]) (st' := [.int 0]) (M' := v_mk s) rfl ?_
    obtain ⟨rfl, rfl⟩ := v_so h
    exact v_ret (fun _ => rfl)
  · refine v_i1f (T := 19) rfl rfl c1 ?_
    refine s_ek_bk 2 (P := 7) (ls' := [(0, .ref 73), (1, .int b)]) (st' := [.int 40, .int b]) (M' := v_mk s) rfl ?_
    rcases v_if h with ⟨c2, h⟩ | ⟨c2, h⟩
    · refine v_i2t (T := 19) rfl rfl c2 ?_
      refine s_ek_bk 1 (P := 20) (ls' := [(0, .ref 73), (1, .int b)]) (st' := [.int 0]) (M' := v_mk s) rfl ?_
      obtain ⟨rfl, rfl⟩ := v_so h
      exact v_ret (fun _ => rfl)
    · refine v_i2f (T := 19) rfl rfl c2 ?_
      refine s_ek_bk 1 (P := 11) (ls' := [(0, .ref 73), (1, .int b)]) (st' := [.ref 73]) (M' := v_mk s) rfl ?_
      refine v_gf rfl (v_gr (rfl : v_kd 73 = 1) (rfl : v_sl 73 2 = .ref 74) ⟨rfl, rfl, by decide⟩) ?_
      refine s_ek_bk 1 (P := 15) (ls' := [(0, .ref 73), (1, .int b)]) (st' := [.int b, .ref 74]) (M' := v_mk s) rfl ?_
      obtain ⟨c3, h⟩ := v_ck h
      refine v_ia (i := b) rfl (v_ai (rfl : v_kd 74 = 13) rfl (by decide) v_all13 (v_cn (rfl : v_ln 74 = 40) c3)) ?_
      refine s_ek_bk 1 (P := 20) (ls' := [(0, .ref 73), (1, .int b)]) (st' := [.int (s.1 74 (Int32.toNatClampNeg b))]) (M' := v_mk s) rfl ?_
      obtain ⟨rfl, rfl⟩ := v_so h
      exact v_ret (fun _ => rfl)
noncomputable def f_Ch_what (b : Int32) (s : vS) : Option (Int32 × vS) := (if b.toInt < 0 then (some (0, s)) else (if 40 ≤ b.toInt then (some (0, s)) else (if v_in b 40 then (some ((s.1 75 (Int32.toNatClampNeg b)), s)) else none)))
set_option maxRecDepth 20000 in
set_option maxHeartbeats 4000000 in
theorem t_Ch_what {L : Nat} {xs : Nat → Int32} {b : Int32} {D : Nat} {r : Int32} {s s' : vS} (h : f_Ch_what b s = some (r, s')) (hD : 0 ≤ D) : s_Ek (s_rows 3 L xs) D s_e21.1 0 (lv_args 0 [.ref 73, .int b]) [] (v_mk s) (v_Q (some (.int r)) s') := by
  unfold f_Ch_what at h
  show s_Ek (s_rows 3 L xs) D s_e21.1 0 [(0, .ref 73), (1, .int b)] [] (v_mk s) _
  refine s_ek_bk 1 (P := 1) (ls' := [(0, .ref 73), (1, .int b)]) (st' := [.int b]) (M' := v_mk s) rfl ?_
  rcases v_if h with ⟨c1, h⟩ | ⟨c1, h⟩
  · refine v_i1t (T := 19) rfl rfl c1 ?_
    refine s_ek_bk 1 (P := 20) (ls' := [(0, .ref 73), (1, .int b)]) (st' := [.int 0]) (M' := v_mk s) rfl ?_
    obtain ⟨rfl, rfl⟩ := v_so h
    exact v_ret (fun _ => rfl)
  · refine v_i1f (T := 19) rfl rfl c1 ?_
    refine s_ek_bk 2 (P := 7) (ls' := [(0, .ref 73), (1, .int b)]) (st' := [.int 40, .int b]) (M' := v_mk s) rfl ?_
    rcases v_if h with ⟨c2, h⟩ | ⟨c2, h⟩
    · refine v_i2t (T := 19) rfl rfl c2 ?_
      refine s_ek_bk 1 (P := 20) (ls' := [(0, .ref 73), (1, .int b)]) (st' := [.int 0]) (M' := v_mk s) rfl ?_
      obtain ⟨rfl, rfl⟩ := v_so h
      exact v_ret (fun _ => rfl)
    · refine v_i2f (T := 19) rfl rfl c2 ?_
      refine s_ek_bk 1 (P := 11) (ls' := [(0, .ref 73), (1, .int b)]) (st' := [.ref 73]) (M' := v_mk s) rfl ?_
      refine v_gf rfl (v_gr (rfl : v_kd 73 = 1) (rfl : v_sl 73 3 = .ref 75) ⟨rfl, rfl, by decide⟩) ?_
      refine s_ek_bk 1 (P := 15) (ls' := [(0, .ref 73), (1, .int b)]) (st' := [.int b, .ref 75]) (M' := v_mk s) rfl ?_
      obtain ⟨c3, h⟩ := v_ck h
      refine v_ia (i := b) rfl (v_ai (rfl : v_kd 75 = 13) rfl (by decide) v_all13 (v_cn (rfl : v_ln 75 = 40) c3)) ?_
      refine s_ek_bk 1 (P := 20) (ls' := [(0, .ref 73), (1, .int b)]) (st' := [.int (s.1 75 (Int32.toNatClampNeg b))]) (M' := v_mk s) rfl ?_
      obtain ⟨rfl, rfl⟩ := v_so h
      exact v_ret (fun _ => rfl)
noncomputable def f_Ch_was (b : Int32) (s : vS) : Option (Int32 × vS) := (if b.toInt < 0 then (some (0, s)) else (if 40 ≤ b.toInt then (some (0, s)) else (if v_in b 40 then (some ((s.1 76 (Int32.toNatClampNeg b)), s)) else none)))
set_option maxRecDepth 20000 in
set_option maxHeartbeats 4000000 in
theorem t_Ch_was {L : Nat} {xs : Nat → Int32} {b : Int32} {D : Nat} {r : Int32} {s s' : vS} (h : f_Ch_was b s = some (r, s')) (hD : 0 ≤ D) : s_Ek (s_rows 3 L xs) D s_e22.1 0 (lv_args 0 [.ref 73, .int b]) [] (v_mk s) (v_Q (some (.int r)) s') := by
  unfold f_Ch_was at h
  show s_Ek (s_rows 3 L xs) D s_e22.1 0 [(0, .ref 73), (1, .int b)] [] (v_mk s) _
  refine s_ek_bk 1 (P := 1) (ls' := [(0, .ref 73), (1, .int b)]) (st' := [.int b]) (M' := v_mk s) rfl ?_
  rcases v_if h with ⟨c1, h⟩ | ⟨c1, h⟩
  · refine v_i1t (T := 19) rfl rfl c1 ?_
    refine s_ek_bk 1 (P := 20) (ls' := [(0, .ref 73), (1, .int b)]) (st' := [.int 0]) (M' := v_mk s) rfl ?_
    obtain ⟨rfl, rfl⟩ := v_so h
    exact v_ret (fun _ => rfl)
  · refine v_i1f (T := 19) rfl rfl c1 ?_
    refine s_ek_bk 2 (P := 7) (ls' := [(0, .ref 73), (1, .int b)]) (st' := [.int 40, .int b]) (M' := v_mk s) rfl ?_
    rcases v_if h with ⟨c2, h⟩ | ⟨c2, h⟩
    · refine v_i2t (T := 19) rfl rfl c2 ?_
      refine s_ek_bk 1 (P := 20) (ls' := [(0, .ref 73), (1, .int b)]) (st' := [.int 0]) (M' := v_mk s) rfl ?_
      obtain ⟨rfl, rfl⟩ := v_so h
      exact v_ret (fun _ => rfl)
    · refine v_i2f (T := 19) rfl rfl c2 ?_
      refine s_ek_bk 1 (P := 11) (ls' := [(0, .ref 73), (1, .int b)]) (st' := [.ref 73]) (M' := v_mk s) rfl ?_
      refine v_gf rfl (v_gr (rfl : v_kd 73 = 1) (rfl : v_sl 73 4 = .ref 76) ⟨rfl, rfl, by decide⟩) ?_
      refine s_ek_bk 1 (P := 15) (ls' := [(0, .ref 73), (1, .int b)]) (st' := [.int b, .ref 76]) (M' := v_mk s) rfl ?_
      obtain ⟨c3, h⟩ := v_ck h
      refine v_ia (i := b) rfl (v_ai (rfl : v_kd 76 = 13) rfl (by decide) v_all13 (v_cn (rfl : v_ln 76 = 40) c3)) ?_
      refine s_ek_bk 1 (P := 20) (ls' := [(0, .ref 73), (1, .int b)]) (st' := [.int (s.1 76 (Int32.toNatClampNeg b))]) (M' := v_mk s) rfl ?_
      obtain ⟨rfl, rfl⟩ := v_so h
      exact v_ret (fun _ => rfl)
noncomputable def f_Ch_became (b : Int32) (s : vS) : Option (Int32 × vS) := (if b.toInt < 0 then (some (0, s)) else (if 40 ≤ b.toInt then (some (0, s)) else (if v_in b 40 then (some ((s.1 77 (Int32.toNatClampNeg b)), s)) else none)))
set_option maxRecDepth 20000 in
set_option maxHeartbeats 4000000 in
theorem t_Ch_became {L : Nat} {xs : Nat → Int32} {b : Int32} {D : Nat} {r : Int32} {s s' : vS} (h : f_Ch_became b s = some (r, s')) (hD : 0 ≤ D) : s_Ek (s_rows 3 L xs) D s_e23.1 0 (lv_args 0 [.ref 73, .int b]) [] (v_mk s) (v_Q (some (.int r)) s') := by
  unfold f_Ch_became at h
  show s_Ek (s_rows 3 L xs) D s_e23.1 0 [(0, .ref 73), (1, .int b)] [] (v_mk s) _
  refine s_ek_bk 1 (P := 1) (ls' := [(0, .ref 73), (1, .int b)]) (st' := [.int b]) (M' := v_mk s) rfl ?_
  rcases v_if h with ⟨c1, h⟩ | ⟨c1, h⟩
  · refine v_i1t (T := 19) rfl rfl c1 ?_
    refine s_ek_bk 1 (P := 20) (ls' := [(0, .ref 73), (1, .int b)]) (st' := [.int 0]) (M' := v_mk s) rfl ?_
    obtain ⟨rfl, rfl⟩ := v_so h
    exact v_ret (fun _ => rfl)
  · refine v_i1f (T := 19) rfl rfl c1 ?_
    refine s_ek_bk 2 (P := 7) (ls' := [(0, .ref 73), (1, .int b)]) (st' := [.int 40, .int b]) (M' := v_mk s) rfl ?_
    rcases v_if h with ⟨c2, h⟩ | ⟨c2, h⟩
    · refine v_i2t (T := 19) rfl rfl c2 ?_
      refine s_ek_bk 1 (P := 20) (ls' := [(0, .ref 73), (1, .int b)]) (st' := [.int 0]) (M' := v_mk s) rfl ?_
      obtain ⟨rfl, rfl⟩ := v_so h
      exact v_ret (fun _ => rfl)
    · refine v_i2f (T := 19) rfl rfl c2 ?_
      refine s_ek_bk 1 (P := 11) (ls' := [(0, .ref 73), (1, .int b)]) (st' := [.ref 73]) (M' := v_mk s) rfl ?_
      refine v_gf rfl (v_gr (rfl : v_kd 73 = 1) (rfl : v_sl 73 5 = .ref 77) ⟨rfl, rfl, by decide⟩) ?_
      refine s_ek_bk 1 (P := 15) (ls' := [(0, .ref 73), (1, .int b)]) (st' := [.int b, .ref 77]) (M' := v_mk s) rfl ?_
      obtain ⟨c3, h⟩ := v_ck h
      refine v_ia (i := b) rfl (v_ai (rfl : v_kd 77 = 13) rfl (by decide) v_all13 (v_cn (rfl : v_ln 77 = 40) c3)) ?_
      refine s_ek_bk 1 (P := 20) (ls' := [(0, .ref 73), (1, .int b)]) (st' := [.int (s.1 77 (Int32.toNatClampNeg b))]) (M' := v_mk s) rfl ?_
      obtain ⟨rfl, rfl⟩ := v_so h
      exact v_ret (fun _ => rfl)
noncomputable def f_Cl_isKind (b : Int32) (s : vS) : Option (Int32 × vS) := (if b.toInt < 0 then (some (0, s)) else (if 8 ≤ b.toInt then (some (0, s)) else (some (1, s))))
set_option maxRecDepth 20000 in
set_option maxHeartbeats 4000000 in
theorem t_Cl_isKind {L : Nat} {xs : Nat → Int32} {b : Int32} {D : Nat} {r : Int32} {s s' : vS} (h : f_Cl_isKind b s = some (r, s')) (hD : 0 ≤ D) : s_Ek (s_rows 3 L xs) D s_e25.1 0 (lv_args 0 [.int b]) [] (v_mk s) (v_Q (some (.int r)) s') := by
  unfold f_Cl_isKind at h
  show s_Ek (s_rows 3 L xs) D s_e25.1 0 [(0, .int b)] [] (v_mk s) _
  refine s_ek_bk 1 (P := 1) (ls' := [(0, .int b)]) (st' := [.int b]) (M' := v_mk s) rfl ?_
  rcases v_if h with ⟨c1, h⟩ | ⟨c1, h⟩
  · refine v_i1t (T := 14) rfl rfl c1 ?_
    refine s_ek_bk 1 (P := 15) (ls' := [(0, .int b)]) (st' := [.int 0]) (M' := v_mk s) rfl ?_
    obtain ⟨rfl, rfl⟩ := v_so h
    exact v_ret (fun _ => rfl)
  · refine v_i1f (T := 14) rfl rfl c1 ?_
    refine s_ek_bk 2 (P := 7) (ls' := [(0, .int b)]) (st' := [.int 8, .int b]) (M' := v_mk s) rfl ?_
    rcases v_if h with ⟨c2, h⟩ | ⟨c2, h⟩
    · refine v_i2t (T := 14) rfl rfl c2 ?_
      refine s_ek_bk 1 (P := 15) (ls' := [(0, .int b)]) (st' := [.int 0]) (M' := v_mk s) rfl ?_
      obtain ⟨rfl, rfl⟩ := v_so h
      exact v_ret (fun _ => rfl)
    · refine v_i2f (T := 14) rfl rfl c2 ?_
      refine s_ek_bk 2 (P := 15) (ls' := [(0, .int b)]) (st' := [.int 1]) (M' := v_mk s) rfl ?_
      obtain ⟨rfl, rfl⟩ := v_so h
      exact v_ret (fun _ => rfl)
noncomputable def f_Cl_above (b : Int32) (s : vS) : Option (Int32 × vS) := (if b.toInt < 0 then (some ((-1), s)) else (if 8 ≤ b.toInt then (some ((-1), s)) else (if v_in b 8 then (some ((s_above.getD (Int32.toNatClampNeg b) 0), s)) else none)))
set_option maxRecDepth 20000 in
set_option maxHeartbeats 4000000 in
theorem t_Cl_above {L : Nat} {xs : Nat → Int32} {b : Int32} {D : Nat} {r : Int32} {s s' : vS} (h : f_Cl_above b s = some (r, s')) (hD : 0 ≤ D) : s_Ek (s_rows 3 L xs) D s_e26.1 0 (lv_args 0 [.int b]) [] (v_mk s) (v_Q (some (.int r)) s') := by
  unfold f_Cl_above at h
  show s_Ek (s_rows 3 L xs) D s_e26.1 0 [(0, .int b)] [] (v_mk s) _
  refine s_ek_bk 1 (P := 1) (ls' := [(0, .int b)]) (st' := [.int b]) (M' := v_mk s) rfl ?_
  rcases v_if h with ⟨c1, h⟩ | ⟨c1, h⟩
  · refine v_i1t (T := 20) rfl rfl c1 ?_
    refine s_ek_bk 1 (P := 21) (ls' := [(0, .int b)]) (st' := [.int (-1)]) (M' := v_mk s) rfl ?_
    obtain ⟨rfl, rfl⟩ := v_so h
    exact v_ret (fun _ => rfl)
  · refine v_i1f (T := 20) rfl rfl c1 ?_
    refine s_ek_bk 3 (P := 9) (ls' := [(0, .int b)]) (st' := [.int 8, .int b]) (M' := v_mk s) rfl ?_
    rcases v_if h with ⟨c2, h⟩ | ⟨c2, h⟩
    · refine v_i2t (T := 20) rfl rfl c2 ?_
      refine s_ek_bk 1 (P := 21) (ls' := [(0, .int b)]) (st' := [.int (-1)]) (M' := v_mk s) rfl ?_
      obtain ⟨rfl, rfl⟩ := v_so h
      exact v_ret (fun _ => rfl)
    · refine v_i2f (T := 20) rfl rfl c2 ?_
      refine s_ek_bk 2 (P := 16) (ls' := [(0, .int b)]) (st' := [.int b, .retAddr 0]) (M' := v_mk s) rfl ?_
      obtain ⟨c3, h⟩ := v_ck h
      refine v_ias (j := 0) rfl c3 rfl ?_
      show s_Ek (s_rows 3 L xs) D s_e26.1 17 [(0, .int b)] [.int (s_above.getD (Int32.toNatClampNeg b) 0)] (v_mk s) _
      refine s_ek_bk 1 (P := 21) (ls' := [(0, .int b)]) (st' := [.int (s_above.getD (Int32.toNatClampNeg b) 0)]) (M' := v_mk s) rfl ?_
      obtain ⟨rfl, rfl⟩ := v_so h
      exact v_ret (fun _ => rfl)
noncomputable def f_Cl_isUnder_L4b (p1 : Int32) (k32 : vS → Option (Int32 × vS)) (again : Int32 → Int32 → vS → Option (Int32 × vS)) (v2 : Int32) (v3 : Int32) (s : vS) : Option (Int32 × vS) := (if 8 ≤ v3.toInt then (k32 s) else (if v2.toInt < 0 then (k32 s) else (if v2.toInt = p1.toInt then (some (1, s)) else (v_bi (f_Cl_above v2 s) (fun r104 s104 => (again r104 (v3 + 1) s104))))))
noncomputable def f_Cl_isUnder_L4 (p1 : Int32) (k32 : vS → Option (Int32 × vS)) (n : Nat) : Int32 → Int32 → vS → Option (Int32 × vS) := Nat.rec (motive := fun _ => Int32 → Int32 → vS → Option (Int32 × vS)) (fun _ _ _ => none) (fun _ again => f_Cl_isUnder_L4b p1 k32 again) n
noncomputable def f_Cl_isUnder (b : Int32) (c : Int32) (s : vS) : Option (Int32 × vS) := (f_Cl_isUnder_L4 c (fun s1 => (some (0, s1))) 4096 b 0 s)
set_option maxRecDepth 20000 in
set_option maxHeartbeats 4000000 in
theorem t_Cl_isUnder_L4 {L : Nat} {xs : Nat → Int32} {p1 : Int32} {k32 : vS → Option (Int32 × vS)} {D : Nat} (hD : 1 ≤ D) {r : Int32} {s' : vS} (hk32 : ∀ (s : vS), k32 s = some (r, s') → s_Ek (s_rows 3 L xs) D s_e27.1 32 [] [] (v_mk s) (v_Q (some (.int r)) s')) : ∀ (n : Nat) (v2 : Int32) (v3 : Int32) (s : vS), f_Cl_isUnder_L4 p1 k32 n v2 v3 s = some (r, s') → s_Ek (s_rows 3 L xs) D s_e27.1 4 [(1, .int p1), (2, .int v2), (3, .int v3)] [] (v_mk s) (v_Q (some (.int r)) s') := by
  intro n
  induction n with
  | zero => intro v2 v3 s h; exact nomatch (show (none : Option (Int32 × vS)) = some (r, s') from h)
  | succ n ih =>
    intro v2 v3 s h
    replace h : f_Cl_isUnder_L4b p1 k32 (f_Cl_isUnder_L4 p1 k32 n) v2 v3 s = some (r, s') := h
    unfold f_Cl_isUnder_L4b at h
    refine s_ek_bk 2 (P := 7) (ls' := [(1, .int p1), (2, .int v2), (3, .int v3)]) (st' := [.int 8, .int v3]) (M' := v_mk s) rfl ?_
    rcases v_if h with ⟨c101, h⟩ | ⟨c101, h⟩
    · refine v_i2t (T := 32) rfl rfl c101 ?_
      refine v_ls (ls' := []) trivial (show ([] : List Nat).Nodup from by decide) ?_
      exact hk32 _ h
    · refine v_i2f (T := 32) rfl rfl c101 ?_
      refine s_ek_bk 1 (P := 11) (ls' := [(1, .int p1), (2, .int v2), (3, .int v3)]) (st' := [.int v2]) (M' := v_mk s) rfl ?_
      rcases v_if h with ⟨c102, h⟩ | ⟨c102, h⟩
      · refine v_i1t (T := 32) rfl rfl c102 ?_
        refine v_ls (ls' := []) trivial (show ([] : List Nat).Nodup from by decide) ?_
        exact hk32 _ h
      · refine v_i1f (T := 32) rfl rfl c102 ?_
        refine s_ek_bk 2 (P := 16) (ls' := [(1, .int p1), (2, .int v2), (3, .int v3)]) (st' := [.int p1, .int v2]) (M' := v_mk s) rfl ?_
        rcases v_if h with ⟨c103, h⟩ | ⟨c103, h⟩
        · refine v_i2f (T := 21) rfl rfl (fun q => q c103) ?_
          refine s_ek_bk 1 (P := 20) (ls' := [(1, .int p1), (2, .int v2), (3, .int v3)]) (st' := [.int 1]) (M' := v_mk s) rfl ?_
          obtain ⟨rfl, rfl⟩ := v_so h
          exact v_ret (fun _ => rfl)
        · refine v_i2t (T := 21) rfl rfl c103 ?_
          refine s_ek_bk 1 (P := 22) (ls' := [(1, .int p1), (2, .int v2), (3, .int v3)]) (st' := [.int v2]) (M' := v_mk s) rfl ?_
          obtain ⟨r104, s104, e104, h⟩ := v_bd h
          refine v_cS (ν := s_e26.1) (w := 209) (as := [.int v2]) (r := []) (o := some (.int r104)) (by omega) rfl rfl rfl rfl (t_Cl_above e104 (by omega)) ?_
          show s_Ek (s_rows 3 L xs) D s_e27.1 25 [(1, .int p1), (2, .int v2), (3, .int v3)] [.int r104] (v_mk s104) _
          refine s_ek_bk 3 (P := 4) (ls' := [(3, .int (v3 + 1)), (2, .int r104), (1, .int p1)]) (st' := []) (M' := v_mk s104) rfl ?_
          refine v_ls (ls' := [(1, .int p1), (2, .int r104), (3, .int (v3 + 1))]) ⟨rfl, rfl, rfl, trivial⟩ (show ([1, 2, 3] : List Nat).Nodup from by decide) ?_
          exact ih _ _ _ h
set_option maxRecDepth 20000 in
set_option maxHeartbeats 4000000 in
theorem t_Cl_isUnder {L : Nat} {xs : Nat → Int32} {b : Int32} {c : Int32} {D : Nat} {r : Int32} {s s' : vS} (h : f_Cl_isUnder b c s = some (r, s')) (hD : 1 ≤ D) : s_Ek (s_rows 3 L xs) D s_e27.1 0 (lv_args 0 [.int b, .int c]) [] (v_mk s) (v_Q (some (.int r)) s') := by
  unfold f_Cl_isUnder at h
  show s_Ek (s_rows 3 L xs) D s_e27.1 0 [(0, .int b), (1, .int c)] [] (v_mk s) _
  refine s_ek_bk 4 (P := 4) (ls' := [(3, .int 0), (2, .int b), (0, .int b), (1, .int c)]) (st' := []) (M' := v_mk s) rfl ?_
  refine v_ls (ls' := [(1, .int c), (2, .int b), (3, .int 0)]) ⟨rfl, rfl, rfl, trivial⟩ (show ([1, 2, 3] : List Nat).Nodup from by decide) ?_
  refine t_Cl_isUnder_L4 (by omega) (fun s1 h => ?_) 4096 _ _ _ h
  show s_Ek (s_rows 3 L xs) D s_e27.1 32 [] [] (v_mk s1) _
  refine s_ek_bk 1 (P := 33) (ls' := []) (st' := [.int 0]) (M' := v_mk s1) rfl ?_
  obtain ⟨rfl, rfl⟩ := v_so h
  exact v_ret (fun _ => rfl)
noncomputable def f_Cl_add (b : Int32) (s : vS) : Option (Int32 × vS) := (if (s.1 132 0).toInt < 0 then (some ((-1), s)) else (if (s.1 132 0).toInt < 50 then (if v_in (s.1 132 0) 50 then (v_let (v_w1 s 133 (Int32.toNatClampNeg (s.1 132 0)) b) (fun s4 => (v_let (v_w1 s4 132 0 ((s4.1 132 0) + (1 : Int32))) (fun s5 => (some (((s5.1 132 0) - (1 : Int32)), s5)))))) else none) else (some ((-1), s))))
set_option maxRecDepth 20000 in
set_option maxHeartbeats 4000000 in
theorem t_Cl_add {L : Nat} {xs : Nat → Int32} {b : Int32} {D : Nat} {r : Int32} {s s' : vS} (h : f_Cl_add b s = some (r, s')) (hD : 0 ≤ D) : s_Ek (s_rows 3 L xs) D s_e28.1 0 (lv_args 0 [.ref 132, .int b]) [] (v_mk s) (v_Q (some (.int r)) s') := by
  unfold f_Cl_add at h
  show s_Ek (s_rows 3 L xs) D s_e28.1 0 [(0, .ref 132), (1, .int b)] [] (v_mk s) _
  refine s_ek_bk 1 (P := 1) (ls' := [(0, .ref 132), (1, .int b)]) (st' := [.ref 132]) (M' := v_mk s) rfl ?_
  refine v_gf rfl (v_gi (rfl : v_kd 132 = 2) rfl ⟨rfl, rfl, by decide⟩) ?_
  rcases v_if h with ⟨c1, h⟩ | ⟨c1, h⟩
  · refine v_i1t (T := 19) rfl rfl c1 ?_
    refine s_ek_bk 1 (P := 20) (ls' := [(0, .ref 132), (1, .int b)]) (st' := [.int (-1)]) (M' := v_mk s) rfl ?_
    obtain ⟨rfl, rfl⟩ := v_so h
    exact v_ret (fun _ => rfl)
  · refine v_i1f (T := 19) rfl rfl c1 ?_
    refine s_ek_bk 1 (P := 8) (ls' := [(0, .ref 132), (1, .int b)]) (st' := [.ref 132]) (M' := v_mk s) rfl ?_
    refine v_gf rfl (v_gi (rfl : v_kd 132 = 2) rfl ⟨rfl, rfl, by decide⟩) ?_
    refine s_ek_bk 1 (P := 12) (ls' := [(0, .ref 132), (1, .int b)]) (st' := [.ref 132, .int (s.1 132 0)]) (M' := v_mk s) rfl ?_
    refine v_gf rfl (v_gr (rfl : v_kd 132 = 2) (rfl : v_sl 132 2 = .ref 133) ⟨rfl, rfl, by decide⟩) ?_
    refine v_alen (x := 50) rfl (by rw [v_len (rfl : v_kd 133 = 13) (by decide), (rfl : v_ln 133 = 50)]; rfl) ?_
    rcases v_if h with ⟨c2, h⟩ | ⟨c2, h⟩
    · refine v_i2t (T := 21) rfl rfl c2 ?_
      refine s_ek_bk 1 (P := 22) (ls' := [(0, .ref 132), (1, .int b)]) (st' := [.ref 132]) (M' := v_mk s) rfl ?_
      refine v_gf rfl (v_gr (rfl : v_kd 132 = 2) (rfl : v_sl 132 2 = .ref 133) ⟨rfl, rfl, by decide⟩) ?_
      refine s_ek_bk 1 (P := 26) (ls' := [(0, .ref 132), (1, .int b)]) (st' := [.ref 132, .ref 133]) (M' := v_mk s) rfl ?_
      refine v_gf rfl (v_gi (rfl : v_kd 132 = 2) rfl ⟨rfl, rfl, by decide⟩) ?_
      refine s_ek_bk 1 (P := 30) (ls' := [(0, .ref 132), (1, .int b)]) (st' := [.int b, .int (s.1 132 0), .ref 133]) (M' := v_mk s) rfl ?_
      obtain ⟨c3, h⟩ := v_ck h
      obtain ⟨s4, es4, h⟩ := v_ld h
      refine v_ist (M' := v_mk s4) (i := (s.1 132 0)) rfl (by rw [es4]; exact v_pai (rfl : v_kd 133 = 13) rfl (by decide) v_all13 (v_cn (rfl : v_ln 133 = 50) c3)) ?_
      refine s_ek_bk 2 (P := 33) (ls' := [(0, .ref 132), (1, .int b)]) (st' := [.ref 132, .ref 132]) (M' := v_mk s4) rfl ?_
      refine v_gf rfl (v_gi (rfl : v_kd 132 = 2) rfl ⟨rfl, rfl, by decide⟩) ?_
      refine s_ek_bk 2 (P := 38) (ls' := [(0, .ref 132), (1, .int b)]) (st' := [.int ((s4.1 132 0) + (1 : Int32)), .ref 132]) (M' := v_mk s4) rfl ?_
      obtain ⟨s5, es5, h⟩ := v_ld h
      refine v_pf (M' := v_mk s5) rfl (by rw [es5]; exact v_pi (rfl : v_kd 132 = 2) rfl ⟨rfl, rfl, by decide⟩ rfl) ?_
      refine s_ek_bk 1 (P := 42) (ls' := [(0, .ref 132), (1, .int b)]) (st' := [.ref 132]) (M' := v_mk s5) rfl ?_
      refine v_gf rfl (v_gi (rfl : v_kd 132 = 2) rfl ⟨rfl, rfl, by decide⟩) ?_
      refine s_ek_bk 2 (P := 47) (ls' := [(0, .ref 132), (1, .int b)]) (st' := [.int ((s5.1 132 0) - (1 : Int32))]) (M' := v_mk s5) rfl ?_
      obtain ⟨rfl, rfl⟩ := v_so h
      exact v_ret (fun _ => rfl)
    · refine v_i2f (T := 21) rfl rfl c2 ?_
      refine s_ek_bk 1 (P := 20) (ls' := [(0, .ref 132), (1, .int b)]) (st' := [.int (-1)]) (M' := v_mk s) rfl ?_
      obtain ⟨rfl, rfl⟩ := v_so h
      exact v_ret (fun _ => rfl)
noncomputable def f_Cl_knows (b : Int32) (s : vS) : Option (Int32 × vS) := (if b.toInt < 0 then (some (0, s)) else (if (s.1 132 0).toInt ≤ b.toInt then (some (0, s)) else (some (1, s))))
set_option maxRecDepth 20000 in
set_option maxHeartbeats 4000000 in
theorem t_Cl_knows {L : Nat} {xs : Nat → Int32} {b : Int32} {D : Nat} {r : Int32} {s s' : vS} (h : f_Cl_knows b s = some (r, s')) (hD : 0 ≤ D) : s_Ek (s_rows 3 L xs) D s_e29.1 0 (lv_args 0 [.ref 132, .int b]) [] (v_mk s) (v_Q (some (.int r)) s') := by
  unfold f_Cl_knows at h
  show s_Ek (s_rows 3 L xs) D s_e29.1 0 [(0, .ref 132), (1, .int b)] [] (v_mk s) _
  refine s_ek_bk 1 (P := 1) (ls' := [(0, .ref 132), (1, .int b)]) (st' := [.int b]) (M' := v_mk s) rfl ?_
  rcases v_if h with ⟨c1, h⟩ | ⟨c1, h⟩
  · refine v_i1t (T := 16) rfl rfl c1 ?_
    refine s_ek_bk 1 (P := 17) (ls' := [(0, .ref 132), (1, .int b)]) (st' := [.int 0]) (M' := v_mk s) rfl ?_
    obtain ⟨rfl, rfl⟩ := v_so h
    exact v_ret (fun _ => rfl)
  · refine v_i1f (T := 16) rfl rfl c1 ?_
    refine s_ek_bk 2 (P := 6) (ls' := [(0, .ref 132), (1, .int b)]) (st' := [.ref 132, .int b]) (M' := v_mk s) rfl ?_
    refine v_gf rfl (v_gi (rfl : v_kd 132 = 2) rfl ⟨rfl, rfl, by decide⟩) ?_
    rcases v_if h with ⟨c2, h⟩ | ⟨c2, h⟩
    · refine v_i2t (T := 16) rfl rfl c2 ?_
      refine s_ek_bk 1 (P := 17) (ls' := [(0, .ref 132), (1, .int b)]) (st' := [.int 0]) (M' := v_mk s) rfl ?_
      obtain ⟨rfl, rfl⟩ := v_so h
      exact v_ret (fun _ => rfl)
    · refine v_i2f (T := 16) rfl rfl c2 ?_
      refine s_ek_bk 2 (P := 17) (ls' := [(0, .ref 132), (1, .int b)]) (st' := [.int 1]) (M' := v_mk s) rfl ?_
      obtain ⟨rfl, rfl⟩ := v_so h
      exact v_ret (fun _ => rfl)
noncomputable def f_Cl_kindOf (b : Int32) (s : vS) : Option (Int32 × vS) := (if b.toInt < 0 then (some ((-1), s)) else (if 50 ≤ b.toInt then (some ((-1), s)) else (if v_in b 50 then (some ((s.1 133 (Int32.toNatClampNeg b)), s)) else none)))
set_option maxRecDepth 20000 in
set_option maxHeartbeats 4000000 in
theorem t_Cl_kindOf {L : Nat} {xs : Nat → Int32} {b : Int32} {D : Nat} {r : Int32} {s s' : vS} (h : f_Cl_kindOf b s = some (r, s')) (hD : 0 ≤ D) : s_Ek (s_rows 3 L xs) D s_e30.1 0 (lv_args 0 [.ref 132, .int b]) [] (v_mk s) (v_Q (some (.int r)) s') := by
  unfold f_Cl_kindOf at h
  show s_Ek (s_rows 3 L xs) D s_e30.1 0 [(0, .ref 132), (1, .int b)] [] (v_mk s) _
  refine s_ek_bk 1 (P := 1) (ls' := [(0, .ref 132), (1, .int b)]) (st' := [.int b]) (M' := v_mk s) rfl ?_
  rcases v_if h with ⟨c1, h⟩ | ⟨c1, h⟩
  · refine v_i1t (T := 22) rfl rfl c1 ?_
    refine s_ek_bk 1 (P := 23) (ls' := [(0, .ref 132), (1, .int b)]) (st' := [.int (-1)]) (M' := v_mk s) rfl ?_
    obtain ⟨rfl, rfl⟩ := v_so h
    exact v_ret (fun _ => rfl)
  · refine v_i1f (T := 22) rfl rfl c1 ?_
    refine s_ek_bk 2 (P := 6) (ls' := [(0, .ref 132), (1, .int b)]) (st' := [.ref 132, .int b]) (M' := v_mk s) rfl ?_
    refine v_gf rfl (v_gr (rfl : v_kd 132 = 2) (rfl : v_sl 132 2 = .ref 133) ⟨rfl, rfl, by decide⟩) ?_
    refine v_alen (x := 50) rfl (by rw [v_len (rfl : v_kd 133 = 13) (by decide), (rfl : v_ln 133 = 50)]; rfl) ?_
    rcases v_if h with ⟨c2, h⟩ | ⟨c2, h⟩
    · refine v_i2t (T := 22) rfl rfl c2 ?_
      refine s_ek_bk 1 (P := 23) (ls' := [(0, .ref 132), (1, .int b)]) (st' := [.int (-1)]) (M' := v_mk s) rfl ?_
      obtain ⟨rfl, rfl⟩ := v_so h
      exact v_ret (fun _ => rfl)
    · refine v_i2f (T := 22) rfl rfl c2 ?_
      refine s_ek_bk 1 (P := 14) (ls' := [(0, .ref 132), (1, .int b)]) (st' := [.ref 132]) (M' := v_mk s) rfl ?_
      refine v_gf rfl (v_gr (rfl : v_kd 132 = 2) (rfl : v_sl 132 2 = .ref 133) ⟨rfl, rfl, by decide⟩) ?_
      refine s_ek_bk 1 (P := 18) (ls' := [(0, .ref 132), (1, .int b)]) (st' := [.int b, .ref 133]) (M' := v_mk s) rfl ?_
      obtain ⟨c3, h⟩ := v_ck h
      refine v_ia (i := b) rfl (v_ai (rfl : v_kd 133 = 13) rfl (by decide) v_all13 (v_cn (rfl : v_ln 133 = 50) c3)) ?_
      refine s_ek_bk 1 (P := 23) (ls' := [(0, .ref 132), (1, .int b)]) (st' := [.int (s.1 133 (Int32.toNatClampNeg b))]) (M' := v_mk s) rfl ?_
      obtain ⟨rfl, rfl⟩ := v_so h
      exact v_ret (fun _ => rfl)
noncomputable def f_Cl_traced (b : Int32) (s : vS) : Option (Int32 × vS) := (if b.toInt < 0 then (some ((-1), s)) else (if (s.1 132 1).toInt ≤ b.toInt then (some ((-1), s)) else (if 24 ≤ b.toInt then (some ((-1), s)) else (if v_in b 24 then (some ((s.1 134 (Int32.toNatClampNeg b)), s)) else none))))
set_option maxRecDepth 20000 in
set_option maxHeartbeats 4000000 in
theorem t_Cl_traced {L : Nat} {xs : Nat → Int32} {b : Int32} {D : Nat} {r : Int32} {s s' : vS} (h : f_Cl_traced b s = some (r, s')) (hD : 0 ≤ D) : s_Ek (s_rows 3 L xs) D s_e31.1 0 (lv_args 0 [.ref 132, .int b]) [] (v_mk s) (v_Q (some (.int r)) s') := by
  unfold f_Cl_traced at h
  show s_Ek (s_rows 3 L xs) D s_e31.1 0 [(0, .ref 132), (1, .int b)] [] (v_mk s) _
  refine s_ek_bk 1 (P := 1) (ls' := [(0, .ref 132), (1, .int b)]) (st' := [.int b]) (M' := v_mk s) rfl ?_
  rcases v_if h with ⟨c1, h⟩ | ⟨c1, h⟩
  · refine v_i1t (T := 30) rfl rfl c1 ?_
    refine s_ek_bk 1 (P := 31) (ls' := [(0, .ref 132), (1, .int b)]) (st' := [.int (-1)]) (M' := v_mk s) rfl ?_
    obtain ⟨rfl, rfl⟩ := v_so h
    exact v_ret (fun _ => rfl)
  · refine v_i1f (T := 30) rfl rfl c1 ?_
    refine s_ek_bk 2 (P := 6) (ls' := [(0, .ref 132), (1, .int b)]) (st' := [.ref 132, .int b]) (M' := v_mk s) rfl ?_
    refine v_gf rfl (v_gi (rfl : v_kd 132 = 2) rfl ⟨rfl, rfl, by decide⟩) ?_
    rcases v_if h with ⟨c2, h⟩ | ⟨c2, h⟩
    · refine v_i2t (T := 30) rfl rfl c2 ?_
      refine s_ek_bk 1 (P := 31) (ls' := [(0, .ref 132), (1, .int b)]) (st' := [.int (-1)]) (M' := v_mk s) rfl ?_
      obtain ⟨rfl, rfl⟩ := v_so h
      exact v_ret (fun _ => rfl)
    · refine v_i2f (T := 30) rfl rfl c2 ?_
      refine s_ek_bk 2 (P := 14) (ls' := [(0, .ref 132), (1, .int b)]) (st' := [.ref 132, .int b]) (M' := v_mk s) rfl ?_
      refine v_gf rfl (v_gr (rfl : v_kd 132 = 2) (rfl : v_sl 132 3 = .ref 134) ⟨rfl, rfl, by decide⟩) ?_
      refine v_alen (x := 24) rfl (by rw [v_len (rfl : v_kd 134 = 13) (by decide), (rfl : v_ln 134 = 24)]; rfl) ?_
      rcases v_if h with ⟨c3, h⟩ | ⟨c3, h⟩
      · refine v_i2t (T := 30) rfl rfl c3 ?_
        refine s_ek_bk 1 (P := 31) (ls' := [(0, .ref 132), (1, .int b)]) (st' := [.int (-1)]) (M' := v_mk s) rfl ?_
        obtain ⟨rfl, rfl⟩ := v_so h
        exact v_ret (fun _ => rfl)
      · refine v_i2f (T := 30) rfl rfl c3 ?_
        refine s_ek_bk 1 (P := 22) (ls' := [(0, .ref 132), (1, .int b)]) (st' := [.ref 132]) (M' := v_mk s) rfl ?_
        refine v_gf rfl (v_gr (rfl : v_kd 132 = 2) (rfl : v_sl 132 3 = .ref 134) ⟨rfl, rfl, by decide⟩) ?_
        refine s_ek_bk 1 (P := 26) (ls' := [(0, .ref 132), (1, .int b)]) (st' := [.int b, .ref 134]) (M' := v_mk s) rfl ?_
        obtain ⟨c4, h⟩ := v_ck h
        refine v_ia (i := b) rfl (v_ai (rfl : v_kd 134 = 13) rfl (by decide) v_all13 (v_cn (rfl : v_ln 134 = 24) c4)) ?_
        refine s_ek_bk 1 (P := 31) (ls' := [(0, .ref 132), (1, .int b)]) (st' := [.int (s.1 134 (Int32.toNatClampNeg b))]) (M' := v_mk s) rfl ?_
        obtain ⟨rfl, rfl⟩ := v_so h
        exact v_ret (fun _ => rfl)
