/-! functions over the store, and the runs that they stand for: Md_changes Md_undo Md_redo Md_mend Md_moved Md_meaning Md_order Md_isOlder Md_isIn Md_findStands Md_wordIn Md_doesSpeak Md_findSpeaks Md_findAll -/
noncomputable def f_Md_changes_L34b (p1 : Int32) (p2 : Int32) (p3 : Int32) (p4 : Int32) (k111 : vS → Option (Int32 × vS)) (again : Int32 → vS → Option (Int32 × vS)) (v5 : Int32) (s : vS) : Option (Int32 × vS) := (if 40 ≤ v5.toInt then (k111 s) else (if v_in v5 40 then (if v_in (v5 - (1 : Int32)) 40 then (v_let (v_w1 s 166 (Int32.toNatClampNeg (v5 - (1 : Int32))) (s.1 166 (Int32.toNatClampNeg v5))) (fun s108 => (if v_in v5 40 then (if v_in (v5 - (1 : Int32)) 40 then (v_let (v_w1 s108 167 (Int32.toNatClampNeg (v5 - (1 : Int32))) (s108.1 167 (Int32.toNatClampNeg v5))) (fun s111 => (if v_in v5 40 then (if v_in (v5 - (1 : Int32)) 40 then (v_let (v_w1 s111 168 (Int32.toNatClampNeg (v5 - (1 : Int32))) (s111.1 168 (Int32.toNatClampNeg v5))) (fun s114 => (if v_in v5 40 then (if v_in (v5 - (1 : Int32)) 40 then (v_let (v_w1 s114 169 (Int32.toNatClampNeg (v5 - (1 : Int32))) (s114.1 169 (Int32.toNatClampNeg v5))) (fun s117 => (again (v5 + 1) s117))) else none) else none))) else none) else none))) else none) else none))) else none) else none))
noncomputable def f_Md_changes_L34 (p1 : Int32) (p2 : Int32) (p3 : Int32) (p4 : Int32) (k111 : vS → Option (Int32 × vS)) (n : Nat) : Int32 → vS → Option (Int32 × vS) := Nat.rec (motive := fun _ => Int32 → vS → Option (Int32 × vS)) (fun _ _ => none) (fun _ again => f_Md_changes_L34b p1 p2 p3 p4 k111 again) n
noncomputable def f_Md_changes (b : Int32) (c : Int32) (d : Int32) (s : vS) : Option (Int32 × vS) := (v_bi (f_Md_valueAt b c s) (fun r1 s1 => (if r1.toInt = d.toInt then (some (r1, s1)) else (v_let (v_w1 s1 151 24 0) (fun s3 => (if (s3.1 151 23).toInt = 40 then (f_Md_changes_L34 b c d r1 (fun s5 => (v_let (v_w1 s5 151 23 ((s5.1 151 23) - (1 : Int32))) (fun s6 => (if v_in (s6.1 151 23) 40 then (v_let (v_w1 s6 166 (Int32.toNatClampNeg (s6.1 151 23)) b) (fun s8 => (if v_in (s8.1 151 23) 40 then (v_let (v_w1 s8 167 (Int32.toNatClampNeg (s8.1 151 23)) c) (fun s10 => (if v_in (s10.1 151 23) 40 then (v_let (v_w1 s10 168 (Int32.toNatClampNeg (s10.1 151 23)) r1) (fun s12 => (if v_in (s12.1 151 23) 40 then (v_let (v_w1 s12 169 (Int32.toNatClampNeg (s12.1 151 23)) d) (fun s14 => (v_let (v_w1 s14 151 23 ((s14.1 151 23) + (1 : Int32))) (fun s15 => (v_bi (f_Md_lays b c d s15) (fun _ s16 => (some (r1, s16)))))))) else none))) else none))) else none))) else none)))) 4096 1 s3) else (if v_in (s3.1 151 23) 40 then (v_let (v_w1 s3 166 (Int32.toNatClampNeg (s3.1 151 23)) b) (fun s18 => (if v_in (s18.1 151 23) 40 then (v_let (v_w1 s18 167 (Int32.toNatClampNeg (s18.1 151 23)) c) (fun s20 => (if v_in (s20.1 151 23) 40 then (v_let (v_w1 s20 168 (Int32.toNatClampNeg (s20.1 151 23)) r1) (fun s22 => (if v_in (s22.1 151 23) 40 then (v_let (v_w1 s22 169 (Int32.toNatClampNeg (s22.1 151 23)) d) (fun s24 => (v_let (v_w1 s24 151 23 ((s24.1 151 23) + (1 : Int32))) (fun s25 => (v_bi (f_Md_lays b c d s25) (fun _ s26 => (some (r1, s26)))))))) else none))) else none))) else none))) else none)))))))
set_option maxRecDepth 20000 in
set_option maxHeartbeats 4000000 in
theorem t_Md_changes_L34 {L : Nat} {xs : Nat → Int32} {p1 : Int32} {p2 : Int32} {p3 : Int32} {p4 : Int32} {k111 : vS → Option (Int32 × vS)} {D : Nat} (hD : 1 ≤ D) {r : Int32} {s' : vS} (hk111 : ∀ (s : vS), k111 s = some (r, s') → s_Ek (s_rows 3 L xs) D s_e210.1 111 [(0, .ref 151), (1, .int p1), (2, .int p2), (3, .int p3), (4, .int p4)] [] (v_mk s) (v_Q (some (.int r)) s')) : ∀ (n : Nat) (v5 : Int32) (s : vS), f_Md_changes_L34 p1 p2 p3 p4 k111 n v5 s = some (r, s') → s_Ek (s_rows 3 L xs) D s_e210.1 34 [(0, .ref 151), (1, .int p1), (2, .int p2), (3, .int p3), (4, .int p4), (5, .int v5)] [] (v_mk s) (v_Q (some (.int r)) s') := by
  intro n
  induction n with
  | zero => intro v5 s h; exact nomatch (show (none : Option (Int32 × vS)) = some (r, s') from h)
  | succ n ih =>
    intro v5 s h
    replace h : f_Md_changes_L34b p1 p2 p3 p4 k111 (f_Md_changes_L34 p1 p2 p3 p4 k111 n) v5 s = some (r, s') := h
    unfold f_Md_changes_L34b at h
    refine s_ek_bk 2 (P := 38) (ls' := [(0, .ref 151), (1, .int p1), (2, .int p2), (3, .int p3), (4, .int p4), (5, .int v5)]) (st' := [.int 40, .int v5]) (M' := v_mk s) rfl ?_
    rcases v_if h with ⟨c105, h⟩ | ⟨c105, h⟩
    · refine v_i2t (T := 111) rfl rfl c105 ?_
      refine v_ls (ls' := [(0, .ref 151), (1, .int p1), (2, .int p2), (3, .int p3), (4, .int p4)]) ⟨rfl, rfl, rfl, rfl, rfl, trivial⟩ (show ([0, 1, 2, 3, 4] : List Nat).Nodup from by decide) ?_
      exact hk111 _ h
    · refine v_i2f (T := 111) rfl rfl c105 ?_
      refine s_ek_bk 1 (P := 42) (ls' := [(0, .ref 151), (1, .int p1), (2, .int p2), (3, .int p3), (4, .int p4), (5, .int v5)]) (st' := [.ref 151]) (M' := v_mk s) rfl ?_
      refine v_gf rfl (v_gr (rfl : v_kd 151 = 11) (rfl : v_sl 151 25 = .ref 166) ⟨rfl, rfl, by decide⟩) ?_
      refine s_ek_bk 4 (P := 50) (ls' := [(0, .ref 151), (1, .int p1), (2, .int p2), (3, .int p3), (4, .int p4), (5, .int v5)]) (st' := [.ref 151, .int (v5 - (1 : Int32)), .ref 166]) (M' := v_mk s) rfl ?_
      refine v_gf rfl (v_gr (rfl : v_kd 151 = 11) (rfl : v_sl 151 25 = .ref 166) ⟨rfl, rfl, by decide⟩) ?_
      refine s_ek_bk 1 (P := 55) (ls' := [(0, .ref 151), (1, .int p1), (2, .int p2), (3, .int p3), (4, .int p4), (5, .int v5)]) (st' := [.int v5, .ref 166, .int (v5 - (1 : Int32)), .ref 166]) (M' := v_mk s) rfl ?_
      obtain ⟨c106, h⟩ := v_ck h
      refine v_ia (i := v5) rfl (v_ai (rfl : v_kd 166 = 13) rfl (by decide) v_all13 (v_cn (rfl : v_ln 166 = 40) c106)) ?_
      obtain ⟨c107, h⟩ := v_ck h
      obtain ⟨s108, es108, h⟩ := v_ld h
      refine v_ist (M' := v_mk s108) (i := (v5 - (1 : Int32))) rfl (by rw [es108]; exact v_pai (rfl : v_kd 166 = 13) rfl (by decide) v_all13 (v_cn (rfl : v_ln 166 = 40) c107)) ?_
      refine s_ek_bk 1 (P := 58) (ls' := [(0, .ref 151), (1, .int p1), (2, .int p2), (3, .int p3), (4, .int p4), (5, .int v5)]) (st' := [.ref 151]) (M' := v_mk s108) rfl ?_
      refine v_gf rfl (v_gr (rfl : v_kd 151 = 11) (rfl : v_sl 151 26 = .ref 167) ⟨rfl, rfl, by decide⟩) ?_
      refine s_ek_bk 4 (P := 66) (ls' := [(0, .ref 151), (1, .int p1), (2, .int p2), (3, .int p3), (4, .int p4), (5, .int v5)]) (st' := [.ref 151, .int (v5 - (1 : Int32)), .ref 167]) (M' := v_mk s108) rfl ?_
      refine v_gf rfl (v_gr (rfl : v_kd 151 = 11) (rfl : v_sl 151 26 = .ref 167) ⟨rfl, rfl, by decide⟩) ?_
      refine s_ek_bk 1 (P := 71) (ls' := [(0, .ref 151), (1, .int p1), (2, .int p2), (3, .int p3), (4, .int p4), (5, .int v5)]) (st' := [.int v5, .ref 167, .int (v5 - (1 : Int32)), .ref 167]) (M' := v_mk s108) rfl ?_
      obtain ⟨c109, h⟩ := v_ck h
      refine v_ia (i := v5) rfl (v_ai (rfl : v_kd 167 = 13) rfl (by decide) v_all13 (v_cn (rfl : v_ln 167 = 40) c109)) ?_
      obtain ⟨c110, h⟩ := v_ck h
      obtain ⟨s111, es111, h⟩ := v_ld h
      refine v_ist (M' := v_mk s111) (i := (v5 - (1 : Int32))) rfl (by rw [es111]; exact v_pai (rfl : v_kd 167 = 13) rfl (by decide) v_all13 (v_cn (rfl : v_ln 167 = 40) c110)) ?_
      refine s_ek_bk 1 (P := 74) (ls' := [(0, .ref 151), (1, .int p1), (2, .int p2), (3, .int p3), (4, .int p4), (5, .int v5)]) (st' := [.ref 151]) (M' := v_mk s111) rfl ?_
      refine v_gf rfl (v_gr (rfl : v_kd 151 = 11) (rfl : v_sl 151 27 = .ref 168) ⟨rfl, rfl, by decide⟩) ?_
      refine s_ek_bk 4 (P := 82) (ls' := [(0, .ref 151), (1, .int p1), (2, .int p2), (3, .int p3), (4, .int p4), (5, .int v5)]) (st' := [.ref 151, .int (v5 - (1 : Int32)), .ref 168]) (M' := v_mk s111) rfl ?_
      refine v_gf rfl (v_gr (rfl : v_kd 151 = 11) (rfl : v_sl 151 27 = .ref 168) ⟨rfl, rfl, by decide⟩) ?_
      refine s_ek_bk 1 (P := 87) (ls' := [(0, .ref 151), (1, .int p1), (2, .int p2), (3, .int p3), (4, .int p4), (5, .int v5)]) (st' := [.int v5, .ref 168, .int (v5 - (1 : Int32)), .ref 168]) (M' := v_mk s111) rfl ?_
      obtain ⟨c112, h⟩ := v_ck h
      refine v_ia (i := v5) rfl (v_ai (rfl : v_kd 168 = 13) rfl (by decide) v_all13 (v_cn (rfl : v_ln 168 = 40) c112)) ?_
      obtain ⟨c113, h⟩ := v_ck h
      obtain ⟨s114, es114, h⟩ := v_ld h
      refine v_ist (M' := v_mk s114) (i := (v5 - (1 : Int32))) rfl (by rw [es114]; exact v_pai (rfl : v_kd 168 = 13) rfl (by decide) v_all13 (v_cn (rfl : v_ln 168 = 40) c113)) ?_
      refine s_ek_bk 1 (P := 90) (ls' := [(0, .ref 151), (1, .int p1), (2, .int p2), (3, .int p3), (4, .int p4), (5, .int v5)]) (st' := [.ref 151]) (M' := v_mk s114) rfl ?_
      refine v_gf rfl (v_gr (rfl : v_kd 151 = 11) (rfl : v_sl 151 28 = .ref 169) ⟨rfl, rfl, by decide⟩) ?_
      refine s_ek_bk 4 (P := 98) (ls' := [(0, .ref 151), (1, .int p1), (2, .int p2), (3, .int p3), (4, .int p4), (5, .int v5)]) (st' := [.ref 151, .int (v5 - (1 : Int32)), .ref 169]) (M' := v_mk s114) rfl ?_
      refine v_gf rfl (v_gr (rfl : v_kd 151 = 11) (rfl : v_sl 151 28 = .ref 169) ⟨rfl, rfl, by decide⟩) ?_
      refine s_ek_bk 1 (P := 103) (ls' := [(0, .ref 151), (1, .int p1), (2, .int p2), (3, .int p3), (4, .int p4), (5, .int v5)]) (st' := [.int v5, .ref 169, .int (v5 - (1 : Int32)), .ref 169]) (M' := v_mk s114) rfl ?_
      obtain ⟨c115, h⟩ := v_ck h
      refine v_ia (i := v5) rfl (v_ai (rfl : v_kd 169 = 13) rfl (by decide) v_all13 (v_cn (rfl : v_ln 169 = 40) c115)) ?_
      obtain ⟨c116, h⟩ := v_ck h
      obtain ⟨s117, es117, h⟩ := v_ld h
      refine v_ist (M' := v_mk s117) (i := (v5 - (1 : Int32))) rfl (by rw [es117]; exact v_pai (rfl : v_kd 169 = 13) rfl (by decide) v_all13 (v_cn (rfl : v_ln 169 = 40) c116)) ?_
      refine s_ek_bk 2 (P := 34) (ls' := [(5, .int (v5 + 1)), (0, .ref 151), (1, .int p1), (2, .int p2), (3, .int p3), (4, .int p4)]) (st' := []) (M' := v_mk s117) rfl ?_
      refine v_ls (ls' := [(0, .ref 151), (1, .int p1), (2, .int p2), (3, .int p3), (4, .int p4), (5, .int (v5 + 1))]) ⟨rfl, rfl, rfl, rfl, rfl, rfl, trivial⟩ (show ([0, 1, 2, 3, 4, 5] : List Nat).Nodup from by decide) ?_
      exact ih _ _ h
set_option maxRecDepth 20000 in
set_option maxHeartbeats 4000000 in
theorem t_Md_changes {L : Nat} {xs : Nat → Int32} {b : Int32} {c : Int32} {d : Int32} {D : Nat} {r : Int32} {s s' : vS} (h : f_Md_changes b c d s = some (r, s')) (hD : 1 ≤ D) : s_Ek (s_rows 3 L xs) D s_e210.1 0 (lv_args 0 [.ref 151, .int b, .int c, .int d]) [] (v_mk s) (v_Q (some (.int r)) s') := by
  unfold f_Md_changes at h
  show s_Ek (s_rows 3 L xs) D s_e210.1 0 [(0, .ref 151), (1, .int b), (2, .int c), (3, .int d)] [] (v_mk s) _
  refine s_ek_bk 3 (P := 3) (ls' := [(0, .ref 151), (1, .int b), (2, .int c), (3, .int d)]) (st' := [.int c, .int b, .ref 151]) (M' := v_mk s) rfl ?_
  obtain ⟨r1, s1, e1, h⟩ := v_bd h
  refine v_cV (ν := s_e208.1) (w := 1666) (a := 151) (as' := [.int b, .int c]) (r := []) (o := some (.int r1)) (by omega) rfl rfl rfl (v_mk_kd (k := 11) (rfl : v_kd 151 = 11) (by decide)) rfl (t_Md_valueAt e1 (by omega)) ?_
  show s_Ek (s_rows 3 L xs) D s_e210.1 6 [(0, .ref 151), (1, .int b), (2, .int c), (3, .int d)] [.int r1] (v_mk s1) _
  refine s_ek_bk 3 (P := 11) (ls' := [(4, .int r1), (0, .ref 151), (1, .int b), (2, .int c), (3, .int d)]) (st' := [.int d, .int r1]) (M' := v_mk s1) rfl ?_
  rcases v_if h with ⟨c2, h⟩ | ⟨c2, h⟩
  · refine v_i2f (T := 17) rfl rfl (fun q => q c2) ?_
    refine s_ek_bk 1 (P := 16) (ls' := [(4, .int r1), (0, .ref 151), (1, .int b), (2, .int c), (3, .int d)]) (st' := [.int r1]) (M' := v_mk s1) rfl ?_
    obtain ⟨rfl, rfl⟩ := v_so h
    exact v_ret (fun _ => rfl)
  · refine v_i2t (T := 17) rfl rfl c2 ?_
    refine s_ek_bk 2 (P := 19) (ls' := [(4, .int r1), (0, .ref 151), (1, .int b), (2, .int c), (3, .int d)]) (st' := [.int 0, .ref 151]) (M' := v_mk s1) rfl ?_
    obtain ⟨s3, es3, h⟩ := v_ld h
    refine v_pf (M' := v_mk s3) rfl (by rw [es3]; exact v_pi (rfl : v_kd 151 = 11) rfl ⟨rfl, rfl, by decide⟩ rfl) ?_
    refine s_ek_bk 1 (P := 23) (ls' := [(4, .int r1), (0, .ref 151), (1, .int b), (2, .int c), (3, .int d)]) (st' := [.ref 151]) (M' := v_mk s3) rfl ?_
    refine v_gf rfl (v_gi (rfl : v_kd 151 = 11) rfl ⟨rfl, rfl, by decide⟩) ?_
    refine s_ek_bk 1 (P := 28) (ls' := [(4, .int r1), (0, .ref 151), (1, .int b), (2, .int c), (3, .int d)]) (st' := [.int 40, .int (s3.1 151 23)]) (M' := v_mk s3) rfl ?_
    rcases v_if h with ⟨c4, h⟩ | ⟨c4, h⟩
    · refine v_i2f (T := 121) rfl rfl (fun q => q c4) ?_
      refine s_ek_bk 2 (P := 34) (ls' := [(5, .int 1), (4, .int r1), (0, .ref 151), (1, .int b), (2, .int c), (3, .int d)]) (st' := []) (M' := v_mk s3) rfl ?_
      refine v_ls (ls' := [(0, .ref 151), (1, .int b), (2, .int c), (3, .int d), (4, .int r1), (5, .int 1)]) ⟨rfl, rfl, rfl, rfl, rfl, rfl, trivial⟩ (show ([0, 1, 2, 3, 4, 5] : List Nat).Nodup from by decide) ?_
      refine t_Md_changes_L34 (by omega) (fun s5 h => ?_) 4096 _ _ h
      show s_Ek (s_rows 3 L xs) D s_e210.1 111 [(0, .ref 151), (1, .int b), (2, .int c), (3, .int d), (4, .int r1)] [] (v_mk s5) _
      refine s_ek_bk 2 (P := 113) (ls' := [(0, .ref 151), (1, .int b), (2, .int c), (3, .int d), (4, .int r1)]) (st' := [.ref 151, .ref 151]) (M' := v_mk s5) rfl ?_
      refine v_gf rfl (v_gi (rfl : v_kd 151 = 11) rfl ⟨rfl, rfl, by decide⟩) ?_
      refine s_ek_bk 2 (P := 118) (ls' := [(0, .ref 151), (1, .int b), (2, .int c), (3, .int d), (4, .int r1)]) (st' := [.int ((s5.1 151 23) - (1 : Int32)), .ref 151]) (M' := v_mk s5) rfl ?_
      obtain ⟨s6, es6, h⟩ := v_ld h
      refine v_pf (M' := v_mk s6) rfl (by rw [es6]; exact v_pi (rfl : v_kd 151 = 11) rfl ⟨rfl, rfl, by decide⟩ rfl) ?_
      refine s_ek_bk 1 (P := 122) (ls' := [(0, .ref 151), (1, .int b), (2, .int c), (3, .int d), (4, .int r1)]) (st' := [.ref 151]) (M' := v_mk s6) rfl ?_
      refine v_gf rfl (v_gr (rfl : v_kd 151 = 11) (rfl : v_sl 151 25 = .ref 166) ⟨rfl, rfl, by decide⟩) ?_
      refine s_ek_bk 1 (P := 126) (ls' := [(0, .ref 151), (1, .int b), (2, .int c), (3, .int d), (4, .int r1)]) (st' := [.ref 151, .ref 166]) (M' := v_mk s6) rfl ?_
      refine v_gf rfl (v_gi (rfl : v_kd 151 = 11) rfl ⟨rfl, rfl, by decide⟩) ?_
      refine s_ek_bk 1 (P := 130) (ls' := [(0, .ref 151), (1, .int b), (2, .int c), (3, .int d), (4, .int r1)]) (st' := [.int b, .int (s6.1 151 23), .ref 166]) (M' := v_mk s6) rfl ?_
      obtain ⟨c7, h⟩ := v_ck h
      obtain ⟨s8, es8, h⟩ := v_ld h
      refine v_ist (M' := v_mk s8) (i := (s6.1 151 23)) rfl (by rw [es8]; exact v_pai (rfl : v_kd 166 = 13) rfl (by decide) v_all13 (v_cn (rfl : v_ln 166 = 40) c7)) ?_
      refine s_ek_bk 1 (P := 132) (ls' := [(0, .ref 151), (1, .int b), (2, .int c), (3, .int d), (4, .int r1)]) (st' := [.ref 151]) (M' := v_mk s8) rfl ?_
      refine v_gf rfl (v_gr (rfl : v_kd 151 = 11) (rfl : v_sl 151 26 = .ref 167) ⟨rfl, rfl, by decide⟩) ?_
      refine s_ek_bk 1 (P := 136) (ls' := [(0, .ref 151), (1, .int b), (2, .int c), (3, .int d), (4, .int r1)]) (st' := [.ref 151, .ref 167]) (M' := v_mk s8) rfl ?_
      refine v_gf rfl (v_gi (rfl : v_kd 151 = 11) rfl ⟨rfl, rfl, by decide⟩) ?_
      refine s_ek_bk 1 (P := 140) (ls' := [(0, .ref 151), (1, .int b), (2, .int c), (3, .int d), (4, .int r1)]) (st' := [.int c, .int (s8.1 151 23), .ref 167]) (M' := v_mk s8) rfl ?_
      obtain ⟨c9, h⟩ := v_ck h
      obtain ⟨s10, es10, h⟩ := v_ld h
      refine v_ist (M' := v_mk s10) (i := (s8.1 151 23)) rfl (by rw [es10]; exact v_pai (rfl : v_kd 167 = 13) rfl (by decide) v_all13 (v_cn (rfl : v_ln 167 = 40) c9)) ?_
      refine s_ek_bk 1 (P := 142) (ls' := [(0, .ref 151), (1, .int b), (2, .int c), (3, .int d), (4, .int r1)]) (st' := [.ref 151]) (M' := v_mk s10) rfl ?_
      refine v_gf rfl (v_gr (rfl : v_kd 151 = 11) (rfl : v_sl 151 27 = .ref 168) ⟨rfl, rfl, by decide⟩) ?_
      refine s_ek_bk 1 (P := 146) (ls' := [(0, .ref 151), (1, .int b), (2, .int c), (3, .int d), (4, .int r1)]) (st' := [.ref 151, .ref 168]) (M' := v_mk s10) rfl ?_
      refine v_gf rfl (v_gi (rfl : v_kd 151 = 11) rfl ⟨rfl, rfl, by decide⟩) ?_
      refine s_ek_bk 1 (P := 151) (ls' := [(0, .ref 151), (1, .int b), (2, .int c), (3, .int d), (4, .int r1)]) (st' := [.int r1, .int (s10.1 151 23), .ref 168]) (M' := v_mk s10) rfl ?_
      obtain ⟨c11, h⟩ := v_ck h
      obtain ⟨s12, es12, h⟩ := v_ld h
      refine v_ist (M' := v_mk s12) (i := (s10.1 151 23)) rfl (by rw [es12]; exact v_pai (rfl : v_kd 168 = 13) rfl (by decide) v_all13 (v_cn (rfl : v_ln 168 = 40) c11)) ?_
      refine s_ek_bk 1 (P := 153) (ls' := [(0, .ref 151), (1, .int b), (2, .int c), (3, .int d), (4, .int r1)]) (st' := [.ref 151]) (M' := v_mk s12) rfl ?_
      refine v_gf rfl (v_gr (rfl : v_kd 151 = 11) (rfl : v_sl 151 28 = .ref 169) ⟨rfl, rfl, by decide⟩) ?_
      refine s_ek_bk 1 (P := 157) (ls' := [(0, .ref 151), (1, .int b), (2, .int c), (3, .int d), (4, .int r1)]) (st' := [.ref 151, .ref 169]) (M' := v_mk s12) rfl ?_
      refine v_gf rfl (v_gi (rfl : v_kd 151 = 11) rfl ⟨rfl, rfl, by decide⟩) ?_
      refine s_ek_bk 1 (P := 161) (ls' := [(0, .ref 151), (1, .int b), (2, .int c), (3, .int d), (4, .int r1)]) (st' := [.int d, .int (s12.1 151 23), .ref 169]) (M' := v_mk s12) rfl ?_
      obtain ⟨c13, h⟩ := v_ck h
      obtain ⟨s14, es14, h⟩ := v_ld h
      refine v_ist (M' := v_mk s14) (i := (s12.1 151 23)) rfl (by rw [es14]; exact v_pai (rfl : v_kd 169 = 13) rfl (by decide) v_all13 (v_cn (rfl : v_ln 169 = 40) c13)) ?_
      refine s_ek_bk 2 (P := 164) (ls' := [(0, .ref 151), (1, .int b), (2, .int c), (3, .int d), (4, .int r1)]) (st' := [.ref 151, .ref 151]) (M' := v_mk s14) rfl ?_
      refine v_gf rfl (v_gi (rfl : v_kd 151 = 11) rfl ⟨rfl, rfl, by decide⟩) ?_
      refine s_ek_bk 2 (P := 169) (ls' := [(0, .ref 151), (1, .int b), (2, .int c), (3, .int d), (4, .int r1)]) (st' := [.int ((s14.1 151 23) + (1 : Int32)), .ref 151]) (M' := v_mk s14) rfl ?_
      obtain ⟨s15, es15, h⟩ := v_ld h
      refine v_pf (M' := v_mk s15) rfl (by rw [es15]; exact v_pi (rfl : v_kd 151 = 11) rfl ⟨rfl, rfl, by decide⟩ rfl) ?_
      refine s_ek_bk 4 (P := 176) (ls' := [(0, .ref 151), (1, .int b), (2, .int c), (3, .int d), (4, .int r1)]) (st' := [.int d, .int c, .int b, .ref 151]) (M' := v_mk s15) rfl ?_
      obtain ⟨r16, s16, e16, h⟩ := v_bd h
      refine v_cV (ν := s_e209.1) (w := 1675) (a := 151) (as' := [.int b, .int c, .int d]) (r := []) (o := none) (by omega) rfl rfl rfl (v_mk_kd (k := 11) (rfl : v_kd 151 = 11) (by decide)) rfl (t_Md_lays e16 (by omega)) ?_
      show s_Ek (s_rows 3 L xs) D s_e210.1 179 [(0, .ref 151), (1, .int b), (2, .int c), (3, .int d), (4, .int r1)] [] (v_mk s16) _
      refine s_ek_bk 1 (P := 181) (ls' := [(0, .ref 151), (1, .int b), (2, .int c), (3, .int d), (4, .int r1)]) (st' := [.int r1]) (M' := v_mk s16) rfl ?_
      obtain ⟨rfl, rfl⟩ := v_so h
      exact v_ret (fun _ => rfl)
    · refine v_i2t (T := 121) rfl rfl c4 ?_
      refine s_ek_bk 1 (P := 122) (ls' := [(4, .int r1), (0, .ref 151), (1, .int b), (2, .int c), (3, .int d)]) (st' := [.ref 151]) (M' := v_mk s3) rfl ?_
      refine v_gf rfl (v_gr (rfl : v_kd 151 = 11) (rfl : v_sl 151 25 = .ref 166) ⟨rfl, rfl, by decide⟩) ?_
      refine s_ek_bk 1 (P := 126) (ls' := [(4, .int r1), (0, .ref 151), (1, .int b), (2, .int c), (3, .int d)]) (st' := [.ref 151, .ref 166]) (M' := v_mk s3) rfl ?_
      refine v_gf rfl (v_gi (rfl : v_kd 151 = 11) rfl ⟨rfl, rfl, by decide⟩) ?_
      refine s_ek_bk 1 (P := 130) (ls' := [(4, .int r1), (0, .ref 151), (1, .int b), (2, .int c), (3, .int d)]) (st' := [.int b, .int (s3.1 151 23), .ref 166]) (M' := v_mk s3) rfl ?_
      obtain ⟨c17, h⟩ := v_ck h
      obtain ⟨s18, es18, h⟩ := v_ld h
      refine v_ist (M' := v_mk s18) (i := (s3.1 151 23)) rfl (by rw [es18]; exact v_pai (rfl : v_kd 166 = 13) rfl (by decide) v_all13 (v_cn (rfl : v_ln 166 = 40) c17)) ?_
      refine s_ek_bk 1 (P := 132) (ls' := [(4, .int r1), (0, .ref 151), (1, .int b), (2, .int c), (3, .int d)]) (st' := [.ref 151]) (M' := v_mk s18) rfl ?_
      refine v_gf rfl (v_gr (rfl : v_kd 151 = 11) (rfl : v_sl 151 26 = .ref 167) ⟨rfl, rfl, by decide⟩) ?_
      refine s_ek_bk 1 (P := 136) (ls' := [(4, .int r1), (0, .ref 151), (1, .int b), (2, .int c), (3, .int d)]) (st' := [.ref 151, .ref 167]) (M' := v_mk s18) rfl ?_
      refine v_gf rfl (v_gi (rfl : v_kd 151 = 11) rfl ⟨rfl, rfl, by decide⟩) ?_
      refine s_ek_bk 1 (P := 140) (ls' := [(4, .int r1), (0, .ref 151), (1, .int b), (2, .int c), (3, .int d)]) (st' := [.int c, .int (s18.1 151 23), .ref 167]) (M' := v_mk s18) rfl ?_
      obtain ⟨c19, h⟩ := v_ck h
      obtain ⟨s20, es20, h⟩ := v_ld h
      refine v_ist (M' := v_mk s20) (i := (s18.1 151 23)) rfl (by rw [es20]; exact v_pai (rfl : v_kd 167 = 13) rfl (by decide) v_all13 (v_cn (rfl : v_ln 167 = 40) c19)) ?_
      refine s_ek_bk 1 (P := 142) (ls' := [(4, .int r1), (0, .ref 151), (1, .int b), (2, .int c), (3, .int d)]) (st' := [.ref 151]) (M' := v_mk s20) rfl ?_
      refine v_gf rfl (v_gr (rfl : v_kd 151 = 11) (rfl : v_sl 151 27 = .ref 168) ⟨rfl, rfl, by decide⟩) ?_
      refine s_ek_bk 1 (P := 146) (ls' := [(4, .int r1), (0, .ref 151), (1, .int b), (2, .int c), (3, .int d)]) (st' := [.ref 151, .ref 168]) (M' := v_mk s20) rfl ?_
      refine v_gf rfl (v_gi (rfl : v_kd 151 = 11) rfl ⟨rfl, rfl, by decide⟩) ?_
      refine s_ek_bk 1 (P := 151) (ls' := [(4, .int r1), (0, .ref 151), (1, .int b), (2, .int c), (3, .int d)]) (st' := [.int r1, .int (s20.1 151 23), .ref 168]) (M' := v_mk s20) rfl ?_
      obtain ⟨c21, h⟩ := v_ck h
      obtain ⟨s22, es22, h⟩ := v_ld h
      refine v_ist (M' := v_mk s22) (i := (s20.1 151 23)) rfl (by rw [es22]; exact v_pai (rfl : v_kd 168 = 13) rfl (by decide) v_all13 (v_cn (rfl : v_ln 168 = 40) c21)) ?_
      refine s_ek_bk 1 (P := 153) (ls' := [(4, .int r1), (0, .ref 151), (1, .int b), (2, .int c), (3, .int d)]) (st' := [.ref 151]) (M' := v_mk s22) rfl ?_
      refine v_gf rfl (v_gr (rfl : v_kd 151 = 11) (rfl : v_sl 151 28 = .ref 169) ⟨rfl, rfl, by decide⟩) ?_
      refine s_ek_bk 1 (P := 157) (ls' := [(4, .int r1), (0, .ref 151), (1, .int b), (2, .int c), (3, .int d)]) (st' := [.ref 151, .ref 169]) (M' := v_mk s22) rfl ?_
      refine v_gf rfl (v_gi (rfl : v_kd 151 = 11) rfl ⟨rfl, rfl, by decide⟩) ?_
      refine s_ek_bk 1 (P := 161) (ls' := [(4, .int r1), (0, .ref 151), (1, .int b), (2, .int c), (3, .int d)]) (st' := [.int d, .int (s22.1 151 23), .ref 169]) (M' := v_mk s22) rfl ?_
      obtain ⟨c23, h⟩ := v_ck h
      obtain ⟨s24, es24, h⟩ := v_ld h
      refine v_ist (M' := v_mk s24) (i := (s22.1 151 23)) rfl (by rw [es24]; exact v_pai (rfl : v_kd 169 = 13) rfl (by decide) v_all13 (v_cn (rfl : v_ln 169 = 40) c23)) ?_
      refine s_ek_bk 2 (P := 164) (ls' := [(4, .int r1), (0, .ref 151), (1, .int b), (2, .int c), (3, .int d)]) (st' := [.ref 151, .ref 151]) (M' := v_mk s24) rfl ?_
      refine v_gf rfl (v_gi (rfl : v_kd 151 = 11) rfl ⟨rfl, rfl, by decide⟩) ?_
      refine s_ek_bk 2 (P := 169) (ls' := [(4, .int r1), (0, .ref 151), (1, .int b), (2, .int c), (3, .int d)]) (st' := [.int ((s24.1 151 23) + (1 : Int32)), .ref 151]) (M' := v_mk s24) rfl ?_
      obtain ⟨s25, es25, h⟩ := v_ld h
      refine v_pf (M' := v_mk s25) rfl (by rw [es25]; exact v_pi (rfl : v_kd 151 = 11) rfl ⟨rfl, rfl, by decide⟩ rfl) ?_
      refine s_ek_bk 4 (P := 176) (ls' := [(4, .int r1), (0, .ref 151), (1, .int b), (2, .int c), (3, .int d)]) (st' := [.int d, .int c, .int b, .ref 151]) (M' := v_mk s25) rfl ?_
      obtain ⟨r26, s26, e26, h⟩ := v_bd h
      refine v_cV (ν := s_e209.1) (w := 1675) (a := 151) (as' := [.int b, .int c, .int d]) (r := []) (o := none) (by omega) rfl rfl rfl (v_mk_kd (k := 11) (rfl : v_kd 151 = 11) (by decide)) rfl (t_Md_lays e26 (by omega)) ?_
      show s_Ek (s_rows 3 L xs) D s_e210.1 179 [(4, .int r1), (0, .ref 151), (1, .int b), (2, .int c), (3, .int d)] [] (v_mk s26) _
      refine s_ek_bk 1 (P := 181) (ls' := [(4, .int r1), (0, .ref 151), (1, .int b), (2, .int c), (3, .int d)]) (st' := [.int r1]) (M' := v_mk s26) rfl ?_
      obtain ⟨rfl, rfl⟩ := v_so h
      exact v_ret (fun _ => rfl)
noncomputable def f_Md_undo (s : vS) : Option (Int32 × vS) := (if (s.1 151 23).toInt = 0 then (some ((-5), s)) else (v_let (v_w1 s 151 23 ((s.1 151 23) - (1 : Int32))) (fun s2 => (v_let (v_w1 s2 151 24 ((s2.1 151 24) + (1 : Int32))) (fun s3 => (if v_in (s3.1 151 23) 40 then (if v_in (s3.1 151 23) 40 then (if v_in (s3.1 151 23) 40 then (v_bi (f_Md_lays (s3.1 166 (Int32.toNatClampNeg (s3.1 151 23))) (s3.1 167 (Int32.toNatClampNeg (s3.1 151 23))) (s3.1 168 (Int32.toNatClampNeg (s3.1 151 23))) s3) (fun _ s7 => (some ((s7.1 151 23), s7)))) else none) else none) else none))))))
set_option maxRecDepth 20000 in
set_option maxHeartbeats 4000000 in
theorem t_Md_undo {L : Nat} {xs : Nat → Int32} {D : Nat} {r : Int32} {s s' : vS} (h : f_Md_undo s = some (r, s')) (hD : 1 ≤ D) : s_Ek (s_rows 3 L xs) D s_e211.1 0 (lv_args 0 [.ref 151]) [] (v_mk s) (v_Q (some (.int r)) s') := by
  unfold f_Md_undo at h
  show s_Ek (s_rows 3 L xs) D s_e211.1 0 [(0, .ref 151)] [] (v_mk s) _
  refine s_ek_bk 1 (P := 1) (ls' := [(0, .ref 151)]) (st' := [.ref 151]) (M' := v_mk s) rfl ?_
  refine v_gf rfl (v_gi (rfl : v_kd 151 = 11) rfl ⟨rfl, rfl, by decide⟩) ?_
  rcases v_if h with ⟨c1, h⟩ | ⟨c1, h⟩
  · refine v_i1f (T := 10) rfl rfl (fun q => q c1) ?_
    refine s_ek_bk 1 (P := 9) (ls' := [(0, .ref 151)]) (st' := [.int (-5)]) (M' := v_mk s) rfl ?_
    obtain ⟨rfl, rfl⟩ := v_so h
    exact v_ret (fun _ => rfl)
  · refine v_i1t (T := 10) rfl rfl c1 ?_
    refine s_ek_bk 2 (P := 12) (ls' := [(0, .ref 151)]) (st' := [.ref 151, .ref 151]) (M' := v_mk s) rfl ?_
    refine v_gf rfl (v_gi (rfl : v_kd 151 = 11) rfl ⟨rfl, rfl, by decide⟩) ?_
    refine s_ek_bk 2 (P := 17) (ls' := [(0, .ref 151)]) (st' := [.int ((s.1 151 23) - (1 : Int32)), .ref 151]) (M' := v_mk s) rfl ?_
    obtain ⟨s2, es2, h⟩ := v_ld h
    refine v_pf (M' := v_mk s2) rfl (by rw [es2]; exact v_pi (rfl : v_kd 151 = 11) rfl ⟨rfl, rfl, by decide⟩ rfl) ?_
    refine s_ek_bk 2 (P := 22) (ls' := [(0, .ref 151)]) (st' := [.ref 151, .ref 151]) (M' := v_mk s2) rfl ?_
    refine v_gf rfl (v_gi (rfl : v_kd 151 = 11) rfl ⟨rfl, rfl, by decide⟩) ?_
    refine s_ek_bk 2 (P := 27) (ls' := [(0, .ref 151)]) (st' := [.int ((s2.1 151 24) + (1 : Int32)), .ref 151]) (M' := v_mk s2) rfl ?_
    obtain ⟨s3, es3, h⟩ := v_ld h
    refine v_pf (M' := v_mk s3) rfl (by rw [es3]; exact v_pi (rfl : v_kd 151 = 11) rfl ⟨rfl, rfl, by decide⟩ rfl) ?_
    refine s_ek_bk 2 (P := 32) (ls' := [(0, .ref 151)]) (st' := [.ref 151, .ref 151]) (M' := v_mk s3) rfl ?_
    refine v_gf rfl (v_gr (rfl : v_kd 151 = 11) (rfl : v_sl 151 25 = .ref 166) ⟨rfl, rfl, by decide⟩) ?_
    refine s_ek_bk 1 (P := 36) (ls' := [(0, .ref 151)]) (st' := [.ref 151, .ref 166, .ref 151]) (M' := v_mk s3) rfl ?_
    refine v_gf rfl (v_gi (rfl : v_kd 151 = 11) rfl ⟨rfl, rfl, by decide⟩) ?_
    obtain ⟨c4, h⟩ := v_ck h
    refine v_ia (i := (s3.1 151 23)) rfl (v_ai (rfl : v_kd 166 = 13) rfl (by decide) v_all13 (v_cn (rfl : v_ln 166 = 40) c4)) ?_
    refine s_ek_bk 1 (P := 41) (ls' := [(0, .ref 151)]) (st' := [.ref 151, .int (s3.1 166 (Int32.toNatClampNeg (s3.1 151 23))), .ref 151]) (M' := v_mk s3) rfl ?_
    refine v_gf rfl (v_gr (rfl : v_kd 151 = 11) (rfl : v_sl 151 26 = .ref 167) ⟨rfl, rfl, by decide⟩) ?_
    refine s_ek_bk 1 (P := 45) (ls' := [(0, .ref 151)]) (st' := [.ref 151, .ref 167, .int (s3.1 166 (Int32.toNatClampNeg (s3.1 151 23))), .ref 151]) (M' := v_mk s3) rfl ?_
    refine v_gf rfl (v_gi (rfl : v_kd 151 = 11) rfl ⟨rfl, rfl, by decide⟩) ?_
    obtain ⟨c5, h⟩ := v_ck h
    refine v_ia (i := (s3.1 151 23)) rfl (v_ai (rfl : v_kd 167 = 13) rfl (by decide) v_all13 (v_cn (rfl : v_ln 167 = 40) c5)) ?_
    refine s_ek_bk 1 (P := 50) (ls' := [(0, .ref 151)]) (st' := [.ref 151, .int (s3.1 167 (Int32.toNatClampNeg (s3.1 151 23))), .int (s3.1 166 (Int32.toNatClampNeg (s3.1 151 23))), .ref 151]) (M' := v_mk s3) rfl ?_
    refine v_gf rfl (v_gr (rfl : v_kd 151 = 11) (rfl : v_sl 151 27 = .ref 168) ⟨rfl, rfl, by decide⟩) ?_
    refine s_ek_bk 1 (P := 54) (ls' := [(0, .ref 151)]) (st' := [.ref 151, .ref 168, .int (s3.1 167 (Int32.toNatClampNeg (s3.1 151 23))), .int (s3.1 166 (Int32.toNatClampNeg (s3.1 151 23))), .ref 151]) (M' := v_mk s3) rfl ?_
    refine v_gf rfl (v_gi (rfl : v_kd 151 = 11) rfl ⟨rfl, rfl, by decide⟩) ?_
    obtain ⟨c6, h⟩ := v_ck h
    refine v_ia (i := (s3.1 151 23)) rfl (v_ai (rfl : v_kd 168 = 13) rfl (by decide) v_all13 (v_cn (rfl : v_ln 168 = 40) c6)) ?_
    obtain ⟨r7, s7, e7, h⟩ := v_bd h
    refine v_cV (ν := s_e209.1) (w := 1675) (a := 151) (as' := [.int (s3.1 166 (Int32.toNatClampNeg (s3.1 151 23))), .int (s3.1 167 (Int32.toNatClampNeg (s3.1 151 23))), .int (s3.1 168 (Int32.toNatClampNeg (s3.1 151 23)))]) (r := []) (o := none) (by omega) rfl rfl rfl (v_mk_kd (k := 11) (rfl : v_kd 151 = 11) (by decide)) rfl (t_Md_lays e7 (by omega)) ?_
    show s_Ek (s_rows 3 L xs) D s_e211.1 61 [(0, .ref 151)] [] (v_mk s7) _
    refine s_ek_bk 1 (P := 62) (ls' := [(0, .ref 151)]) (st' := [.ref 151]) (M' := v_mk s7) rfl ?_
    refine v_gf rfl (v_gi (rfl : v_kd 151 = 11) rfl ⟨rfl, rfl, by decide⟩) ?_
    obtain ⟨rfl, rfl⟩ := v_so h
    exact v_ret (fun _ => rfl)
noncomputable def f_Md_redo (s : vS) : Option (Int32 × vS) := (if (s.1 151 24).toInt = 0 then (some ((-5), s)) else (if v_in (s.1 151 23) 40 then (if v_in (s.1 151 23) 40 then (if v_in (s.1 151 23) 40 then (v_bi (f_Md_lays (s.1 166 (Int32.toNatClampNeg (s.1 151 23))) (s.1 167 (Int32.toNatClampNeg (s.1 151 23))) (s.1 169 (Int32.toNatClampNeg (s.1 151 23))) s) (fun _ s5 => (v_let (v_w1 s5 151 23 ((s5.1 151 23) + (1 : Int32))) (fun s6 => (v_let (v_w1 s6 151 24 ((s6.1 151 24) - (1 : Int32))) (fun s7 => (some ((s7.1 151 24), s7)))))))) else none) else none) else none))
set_option maxRecDepth 20000 in
set_option maxHeartbeats 4000000 in
theorem t_Md_redo {L : Nat} {xs : Nat → Int32} {D : Nat} {r : Int32} {s s' : vS} (h : f_Md_redo s = some (r, s')) (hD : 1 ≤ D) : s_Ek (s_rows 3 L xs) D s_e212.1 0 (lv_args 0 [.ref 151]) [] (v_mk s) (v_Q (some (.int r)) s') := by
  unfold f_Md_redo at h
  show s_Ek (s_rows 3 L xs) D s_e212.1 0 [(0, .ref 151)] [] (v_mk s) _
  refine s_ek_bk 1 (P := 1) (ls' := [(0, .ref 151)]) (st' := [.ref 151]) (M' := v_mk s) rfl ?_
  refine v_gf rfl (v_gi (rfl : v_kd 151 = 11) rfl ⟨rfl, rfl, by decide⟩) ?_
  rcases v_if h with ⟨c1, h⟩ | ⟨c1, h⟩
  · refine v_i1f (T := 10) rfl rfl (fun q => q c1) ?_
    refine s_ek_bk 1 (P := 9) (ls' := [(0, .ref 151)]) (st' := [.int (-5)]) (M' := v_mk s) rfl ?_
    obtain ⟨rfl, rfl⟩ := v_so h
    exact v_ret (fun _ => rfl)
  · refine v_i1t (T := 10) rfl rfl c1 ?_
    refine s_ek_bk 2 (P := 12) (ls' := [(0, .ref 151)]) (st' := [.ref 151, .ref 151]) (M' := v_mk s) rfl ?_
    refine v_gf rfl (v_gr (rfl : v_kd 151 = 11) (rfl : v_sl 151 25 = .ref 166) ⟨rfl, rfl, by decide⟩) ?_
    refine s_ek_bk 1 (P := 16) (ls' := [(0, .ref 151)]) (st' := [.ref 151, .ref 166, .ref 151]) (M' := v_mk s) rfl ?_
    refine v_gf rfl (v_gi (rfl : v_kd 151 = 11) rfl ⟨rfl, rfl, by decide⟩) ?_
    obtain ⟨c2, h⟩ := v_ck h
    refine v_ia (i := (s.1 151 23)) rfl (v_ai (rfl : v_kd 166 = 13) rfl (by decide) v_all13 (v_cn (rfl : v_ln 166 = 40) c2)) ?_
    refine s_ek_bk 1 (P := 21) (ls' := [(0, .ref 151)]) (st' := [.ref 151, .int (s.1 166 (Int32.toNatClampNeg (s.1 151 23))), .ref 151]) (M' := v_mk s) rfl ?_
    refine v_gf rfl (v_gr (rfl : v_kd 151 = 11) (rfl : v_sl 151 26 = .ref 167) ⟨rfl, rfl, by decide⟩) ?_
    refine s_ek_bk 1 (P := 25) (ls' := [(0, .ref 151)]) (st' := [.ref 151, .ref 167, .int (s.1 166 (Int32.toNatClampNeg (s.1 151 23))), .ref 151]) (M' := v_mk s) rfl ?_
    refine v_gf rfl (v_gi (rfl : v_kd 151 = 11) rfl ⟨rfl, rfl, by decide⟩) ?_
    obtain ⟨c3, h⟩ := v_ck h
    refine v_ia (i := (s.1 151 23)) rfl (v_ai (rfl : v_kd 167 = 13) rfl (by decide) v_all13 (v_cn (rfl : v_ln 167 = 40) c3)) ?_
    refine s_ek_bk 1 (P := 30) (ls' := [(0, .ref 151)]) (st' := [.ref 151, .int (s.1 167 (Int32.toNatClampNeg (s.1 151 23))), .int (s.1 166 (Int32.toNatClampNeg (s.1 151 23))), .ref 151]) (M' := v_mk s) rfl ?_
    refine v_gf rfl (v_gr (rfl : v_kd 151 = 11) (rfl : v_sl 151 28 = .ref 169) ⟨rfl, rfl, by decide⟩) ?_
    refine s_ek_bk 1 (P := 34) (ls' := [(0, .ref 151)]) (st' := [.ref 151, .ref 169, .int (s.1 167 (Int32.toNatClampNeg (s.1 151 23))), .int (s.1 166 (Int32.toNatClampNeg (s.1 151 23))), .ref 151]) (M' := v_mk s) rfl ?_
    refine v_gf rfl (v_gi (rfl : v_kd 151 = 11) rfl ⟨rfl, rfl, by decide⟩) ?_
    obtain ⟨c4, h⟩ := v_ck h
    refine v_ia (i := (s.1 151 23)) rfl (v_ai (rfl : v_kd 169 = 13) rfl (by decide) v_all13 (v_cn (rfl : v_ln 169 = 40) c4)) ?_
    obtain ⟨r5, s5, e5, h⟩ := v_bd h
    refine v_cV (ν := s_e209.1) (w := 1675) (a := 151) (as' := [.int (s.1 166 (Int32.toNatClampNeg (s.1 151 23))), .int (s.1 167 (Int32.toNatClampNeg (s.1 151 23))), .int (s.1 169 (Int32.toNatClampNeg (s.1 151 23)))]) (r := []) (o := none) (by omega) rfl rfl rfl (v_mk_kd (k := 11) (rfl : v_kd 151 = 11) (by decide)) rfl (t_Md_lays e5 (by omega)) ?_
    show s_Ek (s_rows 3 L xs) D s_e212.1 41 [(0, .ref 151)] [] (v_mk s5) _
    refine s_ek_bk 2 (P := 43) (ls' := [(0, .ref 151)]) (st' := [.ref 151, .ref 151]) (M' := v_mk s5) rfl ?_
    refine v_gf rfl (v_gi (rfl : v_kd 151 = 11) rfl ⟨rfl, rfl, by decide⟩) ?_
    refine s_ek_bk 2 (P := 48) (ls' := [(0, .ref 151)]) (st' := [.int ((s5.1 151 23) + (1 : Int32)), .ref 151]) (M' := v_mk s5) rfl ?_
    obtain ⟨s6, es6, h⟩ := v_ld h
    refine v_pf (M' := v_mk s6) rfl (by rw [es6]; exact v_pi (rfl : v_kd 151 = 11) rfl ⟨rfl, rfl, by decide⟩ rfl) ?_
    refine s_ek_bk 2 (P := 53) (ls' := [(0, .ref 151)]) (st' := [.ref 151, .ref 151]) (M' := v_mk s6) rfl ?_
    refine v_gf rfl (v_gi (rfl : v_kd 151 = 11) rfl ⟨rfl, rfl, by decide⟩) ?_
    refine s_ek_bk 2 (P := 58) (ls' := [(0, .ref 151)]) (st' := [.int ((s6.1 151 24) - (1 : Int32)), .ref 151]) (M' := v_mk s6) rfl ?_
    obtain ⟨s7, es7, h⟩ := v_ld h
    refine v_pf (M' := v_mk s7) rfl (by rw [es7]; exact v_pi (rfl : v_kd 151 = 11) rfl ⟨rfl, rfl, by decide⟩ rfl) ?_
    refine s_ek_bk 1 (P := 62) (ls' := [(0, .ref 151)]) (st' := [.ref 151]) (M' := v_mk s7) rfl ?_
    refine v_gf rfl (v_gi (rfl : v_kd 151 = 11) rfl ⟨rfl, rfl, by decide⟩) ?_
    obtain ⟨rfl, rfl⟩ := v_so h
    exact v_ret (fun _ => rfl)
noncomputable def f_Md_mend (b : Int32) (c : Int32) (d : Int32) (s : vS) : Option (Int32 × vS) := (if c.toInt < 0 ∨ 4 < c.toInt then (some ((-2000000000), s)) else (if c.toInt = 0 then (v_bi (f_Md_isLaw b s) (fun r3 s3 => (if r3.toInt = 0 then (some ((-2000000000), s3)) else (v_bi (f_Md_in d 0 99 s3) (fun r5 s5 => (if r5.toInt = 0 then (some ((-2000000000), s5)) else (v_bi (f_Md_changes 0 b d s5) (fun r7 s7 => (some (r7, s7)))))))))) else (if c.toInt = 1 then (v_bi (f_Md_isLaw b s) (fun r9 s9 => (if r9.toInt = 0 then (some ((-2000000000), s9)) else (v_bi (f_Md_in d 0 2 s9) (fun r11 s11 => (if r11.toInt = 0 then (some ((-2000000000), s11)) else (v_bi (f_Md_changes 1 b d s11) (fun r13 s13 => (some (r13, s13)))))))))) else (if c.toInt = 2 then (v_bi (f_Md_isLaw b s) (fun r15 s15 => (if r15.toInt = 0 then (some ((-2000000000), s15)) else (v_bi (f_Md_in d (-1) 9 s15) (fun r17 s17 => (if r17.toInt = 0 then (some ((-2000000000), s17)) else (v_bi (f_Md_changes 2 b d s17) (fun r19 s19 => (some (r19, s19)))))))))) else (if c.toInt = 3 then (if b.toInt = 0 then (v_bi (f_Md_in d 0 3 s) (fun r22 s22 => (if r22.toInt = 0 then (some ((-2000000000), s22)) else (v_bi (f_Md_changes 3 0 d s22) (fun r24 s24 => (some (r24, s24))))))) else (some ((-2000000000), s))) else (if b.toInt = 0 then (v_bi (f_Md_in d 0 99 s) (fun r26 s26 => (if r26.toInt = 0 then (some ((-2000000000), s26)) else (v_bi (f_Md_changes 4 0 d s26) (fun r28 s28 => (some (r28, s28))))))) else (some ((-2000000000), s))))))))
set_option maxRecDepth 20000 in
set_option maxHeartbeats 4000000 in
theorem t_Md_mend {L : Nat} {xs : Nat → Int32} {b : Int32} {c : Int32} {d : Int32} {D : Nat} {r : Int32} {s s' : vS} (h : f_Md_mend b c d s = some (r, s')) (hD : 2 ≤ D) : s_Ek (s_rows 3 L xs) D s_e213.1 0 (lv_args 0 [.ref 151, .int b, .int c, .int d]) [] (v_mk s) (v_Q (some (.int r)) s') := by
  unfold f_Md_mend at h
  show s_Ek (s_rows 3 L xs) D s_e213.1 0 [(0, .ref 151), (1, .int b), (2, .int c), (3, .int d)] [] (v_mk s) _
  refine s_ek_bk 1 (P := 1) (ls' := [(0, .ref 151), (1, .int b), (2, .int c), (3, .int d)]) (st' := [.int c]) (M' := v_mk s) rfl ?_
  rcases v_if h with ⟨c1, h⟩ | ⟨c1, h⟩
  · refine v_tso (T := 181) rfl rfl c1 ?_
    refine s_ek_bk 1 (P := 183) (ls' := [(0, .ref 151), (1, .int b), (2, .int c), (3, .int d)]) (st' := [.int (-2000000000)]) (M' := v_mk s) rfl ?_
    obtain ⟨rfl, rfl⟩ := v_so h
    exact v_ret (fun _ => rfl)
  · rcases v_if h with ⟨c2, h⟩ | ⟨c2, h⟩
    · refine v_tsi (T := 36) (c := 0) rfl c2 rfl ?_
      refine s_ek_bk 2 (P := 38) (ls' := [(0, .ref 151), (1, .int b), (2, .int c), (3, .int d)]) (st' := [.int b, .ref 151]) (M' := v_mk s) rfl ?_
      obtain ⟨r3, s3, e3, h⟩ := v_bd h
      refine v_cV (ν := s_e201.1) (w := 1609) (a := 151) (as' := [.int b]) (r := []) (o := some (.int r3)) (by omega) rfl rfl rfl (v_mk_kd (k := 11) (rfl : v_kd 151 = 11) (by decide)) rfl (t_Md_isLaw e3 (by omega)) ?_
      show s_Ek (s_rows 3 L xs) D s_e213.1 41 [(0, .ref 151), (1, .int b), (2, .int c), (3, .int d)] [.int r3] (v_mk s3) _
      rcases v_if h with ⟨c4, h⟩ | ⟨c4, h⟩
      · refine v_i1t (T := 64) rfl rfl c4 ?_
        refine s_ek_bk 1 (P := 66) (ls' := [(0, .ref 151), (1, .int b), (2, .int c), (3, .int d)]) (st' := [.int (-2000000000)]) (M' := v_mk s3) rfl ?_
        obtain ⟨rfl, rfl⟩ := v_so h
        exact v_ret (fun _ => rfl)
      · refine v_i1f (T := 64) rfl rfl c4 ?_
        refine s_ek_bk 3 (P := 48) (ls' := [(0, .ref 151), (1, .int b), (2, .int c), (3, .int d)]) (st' := [.int 99, .int 0, .int d]) (M' := v_mk s3) rfl ?_
        obtain ⟨r5, s5, e5, h⟩ := v_bd h
        refine v_cS (ν := s_e181.1) (w := 1451) (as := [.int d, .int 0, .int 99]) (r := []) (o := some (.int r5)) (by omega) rfl rfl rfl rfl (t_Md_in e5 (by omega)) ?_
        show s_Ek (s_rows 3 L xs) D s_e213.1 51 [(0, .ref 151), (1, .int b), (2, .int c), (3, .int d)] [.int r5] (v_mk s5) _
        rcases v_if h with ⟨c6, h⟩ | ⟨c6, h⟩
        · refine v_i1t (T := 64) rfl rfl c6 ?_
          refine s_ek_bk 1 (P := 66) (ls' := [(0, .ref 151), (1, .int b), (2, .int c), (3, .int d)]) (st' := [.int (-2000000000)]) (M' := v_mk s5) rfl ?_
          obtain ⟨rfl, rfl⟩ := v_so h
          exact v_ret (fun _ => rfl)
        · refine v_i1f (T := 64) rfl rfl c6 ?_
          refine s_ek_bk 4 (P := 58) (ls' := [(0, .ref 151), (1, .int b), (2, .int c), (3, .int d)]) (st' := [.int d, .int b, .int 0, .ref 151]) (M' := v_mk s5) rfl ?_
          obtain ⟨r7, s7, e7, h⟩ := v_bd h
          refine v_cV (ν := s_e210.1) (w := 1683) (a := 151) (as' := [.int 0, .int b, .int d]) (r := []) (o := some (.int r7)) (by omega) rfl rfl rfl (v_mk_kd (k := 11) (rfl : v_kd 151 = 11) (by decide)) rfl (t_Md_changes e7 (by omega)) ?_
          show s_Ek (s_rows 3 L xs) D s_e213.1 61 [(0, .ref 151), (1, .int b), (2, .int c), (3, .int d)] [.int r7] (v_mk s7) _
          refine s_ek_bk 1 (P := 66) (ls' := [(0, .ref 151), (1, .int b), (2, .int c), (3, .int d)]) (st' := [.int r7]) (M' := v_mk s7) rfl ?_
          obtain ⟨rfl, rfl⟩ := v_so h
          exact v_ret (fun _ => rfl)
    · rcases v_if h with ⟨c8, h⟩ | ⟨c8, h⟩
      · refine v_tsi (T := 67) (c := 1) rfl c8 rfl ?_
        refine s_ek_bk 2 (P := 69) (ls' := [(0, .ref 151), (1, .int b), (2, .int c), (3, .int d)]) (st' := [.int b, .ref 151]) (M' := v_mk s) rfl ?_
        obtain ⟨r9, s9, e9, h⟩ := v_bd h
        refine v_cV (ν := s_e201.1) (w := 1609) (a := 151) (as' := [.int b]) (r := []) (o := some (.int r9)) (by omega) rfl rfl rfl (v_mk_kd (k := 11) (rfl : v_kd 151 = 11) (by decide)) rfl (t_Md_isLaw e9 (by omega)) ?_
        show s_Ek (s_rows 3 L xs) D s_e213.1 72 [(0, .ref 151), (1, .int b), (2, .int c), (3, .int d)] [.int r9] (v_mk s9) _
        rcases v_if h with ⟨c10, h⟩ | ⟨c10, h⟩
        · refine v_i1t (T := 94) rfl rfl c10 ?_
          refine s_ek_bk 1 (P := 96) (ls' := [(0, .ref 151), (1, .int b), (2, .int c), (3, .int d)]) (st' := [.int (-2000000000)]) (M' := v_mk s9) rfl ?_
          obtain ⟨rfl, rfl⟩ := v_so h
          exact v_ret (fun _ => rfl)
        · refine v_i1f (T := 94) rfl rfl c10 ?_
          refine s_ek_bk 3 (P := 78) (ls' := [(0, .ref 151), (1, .int b), (2, .int c), (3, .int d)]) (st' := [.int 2, .int 0, .int d]) (M' := v_mk s9) rfl ?_
          obtain ⟨r11, s11, e11, h⟩ := v_bd h
          refine v_cS (ν := s_e181.1) (w := 1451) (as := [.int d, .int 0, .int 2]) (r := []) (o := some (.int r11)) (by omega) rfl rfl rfl rfl (t_Md_in e11 (by omega)) ?_
          show s_Ek (s_rows 3 L xs) D s_e213.1 81 [(0, .ref 151), (1, .int b), (2, .int c), (3, .int d)] [.int r11] (v_mk s11) _
          rcases v_if h with ⟨c12, h⟩ | ⟨c12, h⟩
          · refine v_i1t (T := 94) rfl rfl c12 ?_
            refine s_ek_bk 1 (P := 96) (ls' := [(0, .ref 151), (1, .int b), (2, .int c), (3, .int d)]) (st' := [.int (-2000000000)]) (M' := v_mk s11) rfl ?_
            obtain ⟨rfl, rfl⟩ := v_so h
            exact v_ret (fun _ => rfl)
          · refine v_i1f (T := 94) rfl rfl c12 ?_
            refine s_ek_bk 4 (P := 88) (ls' := [(0, .ref 151), (1, .int b), (2, .int c), (3, .int d)]) (st' := [.int d, .int b, .int 1, .ref 151]) (M' := v_mk s11) rfl ?_
            obtain ⟨r13, s13, e13, h⟩ := v_bd h
            refine v_cV (ν := s_e210.1) (w := 1683) (a := 151) (as' := [.int 1, .int b, .int d]) (r := []) (o := some (.int r13)) (by omega) rfl rfl rfl (v_mk_kd (k := 11) (rfl : v_kd 151 = 11) (by decide)) rfl (t_Md_changes e13 (by omega)) ?_
            show s_Ek (s_rows 3 L xs) D s_e213.1 91 [(0, .ref 151), (1, .int b), (2, .int c), (3, .int d)] [.int r13] (v_mk s13) _
            refine s_ek_bk 1 (P := 96) (ls' := [(0, .ref 151), (1, .int b), (2, .int c), (3, .int d)]) (st' := [.int r13]) (M' := v_mk s13) rfl ?_
            obtain ⟨rfl, rfl⟩ := v_so h
            exact v_ret (fun _ => rfl)
      · rcases v_if h with ⟨c14, h⟩ | ⟨c14, h⟩
        · refine v_tsi (T := 97) (c := 2) rfl c14 rfl ?_
          refine s_ek_bk 2 (P := 99) (ls' := [(0, .ref 151), (1, .int b), (2, .int c), (3, .int d)]) (st' := [.int b, .ref 151]) (M' := v_mk s) rfl ?_
          obtain ⟨r15, s15, e15, h⟩ := v_bd h
          refine v_cV (ν := s_e201.1) (w := 1609) (a := 151) (as' := [.int b]) (r := []) (o := some (.int r15)) (by omega) rfl rfl rfl (v_mk_kd (k := 11) (rfl : v_kd 151 = 11) (by decide)) rfl (t_Md_isLaw e15 (by omega)) ?_
          show s_Ek (s_rows 3 L xs) D s_e213.1 102 [(0, .ref 151), (1, .int b), (2, .int c), (3, .int d)] [.int r15] (v_mk s15) _
          rcases v_if h with ⟨c16, h⟩ | ⟨c16, h⟩
          · refine v_i1t (T := 125) rfl rfl c16 ?_
            refine s_ek_bk 1 (P := 127) (ls' := [(0, .ref 151), (1, .int b), (2, .int c), (3, .int d)]) (st' := [.int (-2000000000)]) (M' := v_mk s15) rfl ?_
            obtain ⟨rfl, rfl⟩ := v_so h
            exact v_ret (fun _ => rfl)
          · refine v_i1f (T := 125) rfl rfl c16 ?_
            refine s_ek_bk 3 (P := 109) (ls' := [(0, .ref 151), (1, .int b), (2, .int c), (3, .int d)]) (st' := [.int 9, .int (-1), .int d]) (M' := v_mk s15) rfl ?_
            obtain ⟨r17, s17, e17, h⟩ := v_bd h
            refine v_cS (ν := s_e181.1) (w := 1451) (as := [.int d, .int (-1), .int 9]) (r := []) (o := some (.int r17)) (by omega) rfl rfl rfl rfl (t_Md_in e17 (by omega)) ?_
            show s_Ek (s_rows 3 L xs) D s_e213.1 112 [(0, .ref 151), (1, .int b), (2, .int c), (3, .int d)] [.int r17] (v_mk s17) _
            rcases v_if h with ⟨c18, h⟩ | ⟨c18, h⟩
            · refine v_i1t (T := 125) rfl rfl c18 ?_
              refine s_ek_bk 1 (P := 127) (ls' := [(0, .ref 151), (1, .int b), (2, .int c), (3, .int d)]) (st' := [.int (-2000000000)]) (M' := v_mk s17) rfl ?_
              obtain ⟨rfl, rfl⟩ := v_so h
              exact v_ret (fun _ => rfl)
            · refine v_i1f (T := 125) rfl rfl c18 ?_
              refine s_ek_bk 4 (P := 119) (ls' := [(0, .ref 151), (1, .int b), (2, .int c), (3, .int d)]) (st' := [.int d, .int b, .int 2, .ref 151]) (M' := v_mk s17) rfl ?_
              obtain ⟨r19, s19, e19, h⟩ := v_bd h
              refine v_cV (ν := s_e210.1) (w := 1683) (a := 151) (as' := [.int 2, .int b, .int d]) (r := []) (o := some (.int r19)) (by omega) rfl rfl rfl (v_mk_kd (k := 11) (rfl : v_kd 151 = 11) (by decide)) rfl (t_Md_changes e19 (by omega)) ?_
              show s_Ek (s_rows 3 L xs) D s_e213.1 122 [(0, .ref 151), (1, .int b), (2, .int c), (3, .int d)] [.int r19] (v_mk s19) _
              refine s_ek_bk 1 (P := 127) (ls' := [(0, .ref 151), (1, .int b), (2, .int c), (3, .int d)]) (st' := [.int r19]) (M' := v_mk s19) rfl ?_
              obtain ⟨rfl, rfl⟩ := v_so h
              exact v_ret (fun _ => rfl)
        · rcases v_if h with ⟨c20, h⟩ | ⟨c20, h⟩
          · refine v_tsi (T := 128) (c := 3) rfl c20 rfl ?_
            refine s_ek_bk 1 (P := 129) (ls' := [(0, .ref 151), (1, .int b), (2, .int c), (3, .int d)]) (st' := [.int b]) (M' := v_mk s) rfl ?_
            rcases v_if h with ⟨c21, h⟩ | ⟨c21, h⟩
            · refine v_i1f (T := 151) rfl rfl (fun q => q c21) ?_
              refine s_ek_bk 3 (P := 135) (ls' := [(0, .ref 151), (1, .int b), (2, .int c), (3, .int d)]) (st' := [.int 3, .int 0, .int d]) (M' := v_mk s) rfl ?_
              obtain ⟨r22, s22, e22, h⟩ := v_bd h
              refine v_cS (ν := s_e181.1) (w := 1451) (as := [.int d, .int 0, .int 3]) (r := []) (o := some (.int r22)) (by omega) rfl rfl rfl rfl (t_Md_in e22 (by omega)) ?_
              show s_Ek (s_rows 3 L xs) D s_e213.1 138 [(0, .ref 151), (1, .int b), (2, .int c), (3, .int d)] [.int r22] (v_mk s22) _
              rcases v_if h with ⟨c23, h⟩ | ⟨c23, h⟩
              · refine v_i1t (T := 151) rfl rfl c23 ?_
                refine s_ek_bk 1 (P := 153) (ls' := [(0, .ref 151), (1, .int b), (2, .int c), (3, .int d)]) (st' := [.int (-2000000000)]) (M' := v_mk s22) rfl ?_
                obtain ⟨rfl, rfl⟩ := v_so h
                exact v_ret (fun _ => rfl)
              · refine v_i1f (T := 151) rfl rfl c23 ?_
                refine s_ek_bk 4 (P := 145) (ls' := [(0, .ref 151), (1, .int b), (2, .int c), (3, .int d)]) (st' := [.int d, .int 0, .int 3, .ref 151]) (M' := v_mk s22) rfl ?_
                obtain ⟨r24, s24, e24, h⟩ := v_bd h
                refine v_cV (ν := s_e210.1) (w := 1683) (a := 151) (as' := [.int 3, .int 0, .int d]) (r := []) (o := some (.int r24)) (by omega) rfl rfl rfl (v_mk_kd (k := 11) (rfl : v_kd 151 = 11) (by decide)) rfl (t_Md_changes e24 (by omega)) ?_
                show s_Ek (s_rows 3 L xs) D s_e213.1 148 [(0, .ref 151), (1, .int b), (2, .int c), (3, .int d)] [.int r24] (v_mk s24) _
                refine s_ek_bk 1 (P := 153) (ls' := [(0, .ref 151), (1, .int b), (2, .int c), (3, .int d)]) (st' := [.int r24]) (M' := v_mk s24) rfl ?_
                obtain ⟨rfl, rfl⟩ := v_so h
                exact v_ret (fun _ => rfl)
            · refine v_i1t (T := 151) rfl rfl c21 ?_
              refine s_ek_bk 1 (P := 153) (ls' := [(0, .ref 151), (1, .int b), (2, .int c), (3, .int d)]) (st' := [.int (-2000000000)]) (M' := v_mk s) rfl ?_
              obtain ⟨rfl, rfl⟩ := v_so h
              exact v_ret (fun _ => rfl)
          · refine v_tsi (T := 154) (c := 4) rfl (by omega) rfl ?_
            refine s_ek_bk 1 (P := 155) (ls' := [(0, .ref 151), (1, .int b), (2, .int c), (3, .int d)]) (st' := [.int b]) (M' := v_mk s) rfl ?_
            rcases v_if h with ⟨c25, h⟩ | ⟨c25, h⟩
            · refine v_i1f (T := 178) rfl rfl (fun q => q c25) ?_
              refine s_ek_bk 3 (P := 162) (ls' := [(0, .ref 151), (1, .int b), (2, .int c), (3, .int d)]) (st' := [.int 99, .int 0, .int d]) (M' := v_mk s) rfl ?_
              obtain ⟨r26, s26, e26, h⟩ := v_bd h
              refine v_cS (ν := s_e181.1) (w := 1451) (as := [.int d, .int 0, .int 99]) (r := []) (o := some (.int r26)) (by omega) rfl rfl rfl rfl (t_Md_in e26 (by omega)) ?_
              show s_Ek (s_rows 3 L xs) D s_e213.1 165 [(0, .ref 151), (1, .int b), (2, .int c), (3, .int d)] [.int r26] (v_mk s26) _
              rcases v_if h with ⟨c27, h⟩ | ⟨c27, h⟩
              · refine v_i1t (T := 178) rfl rfl c27 ?_
                refine s_ek_bk 1 (P := 180) (ls' := [(0, .ref 151), (1, .int b), (2, .int c), (3, .int d)]) (st' := [.int (-2000000000)]) (M' := v_mk s26) rfl ?_
                obtain ⟨rfl, rfl⟩ := v_so h
                exact v_ret (fun _ => rfl)
              · refine v_i1f (T := 178) rfl rfl c27 ?_
                refine s_ek_bk 4 (P := 172) (ls' := [(0, .ref 151), (1, .int b), (2, .int c), (3, .int d)]) (st' := [.int d, .int 0, .int 4, .ref 151]) (M' := v_mk s26) rfl ?_
                obtain ⟨r28, s28, e28, h⟩ := v_bd h
                refine v_cV (ν := s_e210.1) (w := 1683) (a := 151) (as' := [.int 4, .int 0, .int d]) (r := []) (o := some (.int r28)) (by omega) rfl rfl rfl (v_mk_kd (k := 11) (rfl : v_kd 151 = 11) (by decide)) rfl (t_Md_changes e28 (by omega)) ?_
                show s_Ek (s_rows 3 L xs) D s_e213.1 175 [(0, .ref 151), (1, .int b), (2, .int c), (3, .int d)] [.int r28] (v_mk s28) _
                refine s_ek_bk 1 (P := 180) (ls' := [(0, .ref 151), (1, .int b), (2, .int c), (3, .int d)]) (st' := [.int r28]) (M' := v_mk s28) rfl ?_
                obtain ⟨rfl, rfl⟩ := v_so h
                exact v_ret (fun _ => rfl)
            · refine v_i1t (T := 178) rfl rfl c25 ?_
              refine s_ek_bk 1 (P := 180) (ls' := [(0, .ref 151), (1, .int b), (2, .int c), (3, .int d)]) (st' := [.int (-2000000000)]) (M' := v_mk s) rfl ?_
              obtain ⟨rfl, rfl⟩ := v_so h
              exact v_ret (fun _ => rfl)
noncomputable def f_Md_moved (b : Int32) (c : Int32) (d : Int32) (s : vS) : Option (Int32 × vS) := (v_bi (f_Md_in b 0 2 s) (fun r1 s1 => (if r1.toInt = 0 then (some ((-1), s1)) else (if c.toInt = (-1) then (if v_in b 3 then (v_let (v_w1 s1 163 (Int32.toNatClampNeg b) (-1)) (fun s5 => (some (1, s5)))) else none) else (v_bi (f_Md_in c 0 2 s1) (fun r6 s6 => (if r6.toInt = 0 then (some ((-1), s6)) else (if c.toInt = b.toInt then (some ((-1), s6)) else (v_bi (f_Md_in d 0 99 s6) (fun r9 s9 => (if r9.toInt = 0 then (some ((-1), s9)) else (if v_in b 3 then (v_let (v_w1 s9 163 (Int32.toNatClampNeg b) c) (fun s12 => (if v_in b 3 then (v_let (v_w1 s12 164 (Int32.toNatClampNeg b) d) (fun s14 => (some (1, s14)))) else none))) else none))))))))))))
set_option maxRecDepth 20000 in
set_option maxHeartbeats 4000000 in
theorem t_Md_moved {L : Nat} {xs : Nat → Int32} {b : Int32} {c : Int32} {d : Int32} {D : Nat} {r : Int32} {s s' : vS} (h : f_Md_moved b c d s = some (r, s')) (hD : 1 ≤ D) : s_Ek (s_rows 3 L xs) D s_e214.1 0 (lv_args 0 [.ref 151, .int b, .int c, .int d]) [] (v_mk s) (v_Q (some (.int r)) s') := by
  unfold f_Md_moved at h
  show s_Ek (s_rows 3 L xs) D s_e214.1 0 [(0, .ref 151), (1, .int b), (2, .int c), (3, .int d)] [] (v_mk s) _
  refine s_ek_bk 3 (P := 3) (ls' := [(0, .ref 151), (1, .int b), (2, .int c), (3, .int d)]) (st' := [.int 2, .int 0, .int b]) (M' := v_mk s) rfl ?_
  obtain ⟨r1, s1, e1, h⟩ := v_bd h
  refine v_cS (ν := s_e181.1) (w := 1451) (as := [.int b, .int 0, .int 2]) (r := []) (o := some (.int r1)) (by omega) rfl rfl rfl rfl (t_Md_in e1 (by omega)) ?_
  show s_Ek (s_rows 3 L xs) D s_e214.1 6 [(0, .ref 151), (1, .int b), (2, .int c), (3, .int d)] [.int r1] (v_mk s1) _
  rcases v_if h with ⟨c2, h⟩ | ⟨c2, h⟩
  · refine v_i1f (T := 11) rfl rfl (fun q => q c2) ?_
    refine s_ek_bk 1 (P := 10) (ls' := [(0, .ref 151), (1, .int b), (2, .int c), (3, .int d)]) (st' := [.int (-1)]) (M' := v_mk s1) rfl ?_
    obtain ⟨rfl, rfl⟩ := v_so h
    exact v_ret (fun _ => rfl)
  · refine v_i1t (T := 11) rfl rfl c2 ?_
    refine s_ek_bk 2 (P := 13) (ls' := [(0, .ref 151), (1, .int b), (2, .int c), (3, .int d)]) (st' := [.int (-1), .int c]) (M' := v_mk s1) rfl ?_
    rcases v_if h with ⟨c3, h⟩ | ⟨c3, h⟩
    · refine v_i2f (T := 25) rfl rfl (fun q => q c3) ?_
      refine s_ek_bk 1 (P := 17) (ls' := [(0, .ref 151), (1, .int b), (2, .int c), (3, .int d)]) (st' := [.ref 151]) (M' := v_mk s1) rfl ?_
      refine v_gf rfl (v_gr (rfl : v_kd 151 = 11) (rfl : v_sl 151 20 = .ref 163) ⟨rfl, rfl, by decide⟩) ?_
      refine s_ek_bk 2 (P := 22) (ls' := [(0, .ref 151), (1, .int b), (2, .int c), (3, .int d)]) (st' := [.int (-1), .int b, .ref 163]) (M' := v_mk s1) rfl ?_
      obtain ⟨c4, h⟩ := v_ck h
      obtain ⟨s5, es5, h⟩ := v_ld h
      refine v_ist (M' := v_mk s5) (i := b) rfl (by rw [es5]; exact v_pai (rfl : v_kd 163 = 13) rfl (by decide) v_all13 (v_cn (rfl : v_ln 163 = 3) c4)) ?_
      refine s_ek_bk 1 (P := 24) (ls' := [(0, .ref 151), (1, .int b), (2, .int c), (3, .int d)]) (st' := [.int 1]) (M' := v_mk s5) rfl ?_
      obtain ⟨rfl, rfl⟩ := v_so h
      exact v_ret (fun _ => rfl)
    · refine v_i2t (T := 25) rfl rfl c3 ?_
      refine s_ek_bk 3 (P := 28) (ls' := [(0, .ref 151), (1, .int b), (2, .int c), (3, .int d)]) (st' := [.int 2, .int 0, .int c]) (M' := v_mk s1) rfl ?_
      obtain ⟨r6, s6, e6, h⟩ := v_bd h
      refine v_cS (ν := s_e181.1) (w := 1451) (as := [.int c, .int 0, .int 2]) (r := []) (o := some (.int r6)) (by omega) rfl rfl rfl rfl (t_Md_in e6 (by omega)) ?_
      show s_Ek (s_rows 3 L xs) D s_e214.1 31 [(0, .ref 151), (1, .int b), (2, .int c), (3, .int d)] [.int r6] (v_mk s6) _
      rcases v_if h with ⟨c7, h⟩ | ⟨c7, h⟩
      · refine v_i1t (T := 49) rfl rfl c7 ?_
        refine s_ek_bk 1 (P := 50) (ls' := [(0, .ref 151), (1, .int b), (2, .int c), (3, .int d)]) (st' := [.int (-1)]) (M' := v_mk s6) rfl ?_
        obtain ⟨rfl, rfl⟩ := v_so h
        exact v_ret (fun _ => rfl)
      · refine v_i1f (T := 49) rfl rfl c7 ?_
        refine s_ek_bk 2 (P := 36) (ls' := [(0, .ref 151), (1, .int b), (2, .int c), (3, .int d)]) (st' := [.int b, .int c]) (M' := v_mk s6) rfl ?_
        rcases v_if h with ⟨c8, h⟩ | ⟨c8, h⟩
        · refine v_i2t (T := 49) rfl rfl c8 ?_
          refine s_ek_bk 1 (P := 50) (ls' := [(0, .ref 151), (1, .int b), (2, .int c), (3, .int d)]) (st' := [.int (-1)]) (M' := v_mk s6) rfl ?_
          obtain ⟨rfl, rfl⟩ := v_so h
          exact v_ret (fun _ => rfl)
        · refine v_i2f (T := 49) rfl rfl c8 ?_
          refine s_ek_bk 3 (P := 43) (ls' := [(0, .ref 151), (1, .int b), (2, .int c), (3, .int d)]) (st' := [.int 99, .int 0, .int d]) (M' := v_mk s6) rfl ?_
          obtain ⟨r9, s9, e9, h⟩ := v_bd h
          refine v_cS (ν := s_e181.1) (w := 1451) (as := [.int d, .int 0, .int 99]) (r := []) (o := some (.int r9)) (by omega) rfl rfl rfl rfl (t_Md_in e9 (by omega)) ?_
          show s_Ek (s_rows 3 L xs) D s_e214.1 46 [(0, .ref 151), (1, .int b), (2, .int c), (3, .int d)] [.int r9] (v_mk s9) _
          rcases v_if h with ⟨c10, h⟩ | ⟨c10, h⟩
          · refine v_i1f (T := 51) rfl rfl (fun q => q c10) ?_
            refine s_ek_bk 1 (P := 50) (ls' := [(0, .ref 151), (1, .int b), (2, .int c), (3, .int d)]) (st' := [.int (-1)]) (M' := v_mk s9) rfl ?_
            obtain ⟨rfl, rfl⟩ := v_so h
            exact v_ret (fun _ => rfl)
          · refine v_i1t (T := 51) rfl rfl c10 ?_
            refine s_ek_bk 1 (P := 52) (ls' := [(0, .ref 151), (1, .int b), (2, .int c), (3, .int d)]) (st' := [.ref 151]) (M' := v_mk s9) rfl ?_
            refine v_gf rfl (v_gr (rfl : v_kd 151 = 11) (rfl : v_sl 151 20 = .ref 163) ⟨rfl, rfl, by decide⟩) ?_
            refine s_ek_bk 2 (P := 57) (ls' := [(0, .ref 151), (1, .int b), (2, .int c), (3, .int d)]) (st' := [.int c, .int b, .ref 163]) (M' := v_mk s9) rfl ?_
            obtain ⟨c11, h⟩ := v_ck h
            obtain ⟨s12, es12, h⟩ := v_ld h
            refine v_ist (M' := v_mk s12) (i := b) rfl (by rw [es12]; exact v_pai (rfl : v_kd 163 = 13) rfl (by decide) v_all13 (v_cn (rfl : v_ln 163 = 3) c11)) ?_
            refine s_ek_bk 1 (P := 59) (ls' := [(0, .ref 151), (1, .int b), (2, .int c), (3, .int d)]) (st' := [.ref 151]) (M' := v_mk s12) rfl ?_
            refine v_gf rfl (v_gr (rfl : v_kd 151 = 11) (rfl : v_sl 151 21 = .ref 164) ⟨rfl, rfl, by decide⟩) ?_
            refine s_ek_bk 2 (P := 64) (ls' := [(0, .ref 151), (1, .int b), (2, .int c), (3, .int d)]) (st' := [.int d, .int b, .ref 164]) (M' := v_mk s12) rfl ?_
            obtain ⟨c13, h⟩ := v_ck h
            obtain ⟨s14, es14, h⟩ := v_ld h
            refine v_ist (M' := v_mk s14) (i := b) rfl (by rw [es14]; exact v_pai (rfl : v_kd 164 = 13) rfl (by decide) v_all13 (v_cn (rfl : v_ln 164 = 3) c13)) ?_
            refine s_ek_bk 1 (P := 66) (ls' := [(0, .ref 151), (1, .int b), (2, .int c), (3, .int d)]) (st' := [.int 1]) (M' := v_mk s14) rfl ?_
            obtain ⟨rfl, rfl⟩ := v_so h
            exact v_ret (fun _ => rfl)
noncomputable def f_Md_meaning (b : Int32) (s : vS) : Option (Int32 × vS) := (if v_in b 3 then (if (s.1 163 (Int32.toNatClampNeg b)).toInt < 0 then (some (b, s)) else (if v_in b 3 then (if (s.1 151 19).toInt < (s.1 164 (Int32.toNatClampNeg b)).toInt then (some (b, s)) else (if v_in b 3 then (some ((s.1 163 (Int32.toNatClampNeg b)), s)) else none)) else none)) else none)
set_option maxRecDepth 20000 in
set_option maxHeartbeats 4000000 in
theorem t_Md_meaning {L : Nat} {xs : Nat → Int32} {b : Int32} {D : Nat} {r : Int32} {s s' : vS} (h : f_Md_meaning b s = some (r, s')) (hD : 0 ≤ D) : s_Ek (s_rows 3 L xs) D s_e215.1 0 (lv_args 0 [.ref 151, .int b]) [] (v_mk s) (v_Q (some (.int r)) s') := by
  unfold f_Md_meaning at h
  show s_Ek (s_rows 3 L xs) D s_e215.1 0 [(0, .ref 151), (1, .int b)] [] (v_mk s) _
  refine s_ek_bk 1 (P := 1) (ls' := [(0, .ref 151), (1, .int b)]) (st' := [.ref 151]) (M' := v_mk s) rfl ?_
  refine v_gf rfl (v_gr (rfl : v_kd 151 = 11) (rfl : v_sl 151 20 = .ref 163) ⟨rfl, rfl, by decide⟩) ?_
  refine s_ek_bk 1 (P := 5) (ls' := [(0, .ref 151), (1, .int b)]) (st' := [.int b, .ref 163]) (M' := v_mk s) rfl ?_
  obtain ⟨c1, h⟩ := v_ck h
  refine v_ia (i := b) rfl (v_ai (rfl : v_kd 163 = 13) rfl (by decide) v_all13 (v_cn (rfl : v_ln 163 = 3) c1)) ?_
  rcases v_if h with ⟨c2, h⟩ | ⟨c2, h⟩
  · refine v_i1t (T := 31) rfl rfl c2 ?_
    refine s_ek_bk 1 (P := 32) (ls' := [(0, .ref 151), (1, .int b)]) (st' := [.int b]) (M' := v_mk s) rfl ?_
    obtain ⟨rfl, rfl⟩ := v_so h
    exact v_ret (fun _ => rfl)
  · refine v_i1f (T := 31) rfl rfl c2 ?_
    refine s_ek_bk 1 (P := 10) (ls' := [(0, .ref 151), (1, .int b)]) (st' := [.ref 151]) (M' := v_mk s) rfl ?_
    refine v_gf rfl (v_gr (rfl : v_kd 151 = 11) (rfl : v_sl 151 21 = .ref 164) ⟨rfl, rfl, by decide⟩) ?_
    refine s_ek_bk 1 (P := 14) (ls' := [(0, .ref 151), (1, .int b)]) (st' := [.int b, .ref 164]) (M' := v_mk s) rfl ?_
    obtain ⟨c3, h⟩ := v_ck h
    refine v_ia (i := b) rfl (v_ai (rfl : v_kd 164 = 13) rfl (by decide) v_all13 (v_cn (rfl : v_ln 164 = 3) c3)) ?_
    refine s_ek_bk 1 (P := 16) (ls' := [(0, .ref 151), (1, .int b)]) (st' := [.ref 151, .int (s.1 164 (Int32.toNatClampNeg b))]) (M' := v_mk s) rfl ?_
    refine v_gf rfl (v_gi (rfl : v_kd 151 = 11) rfl ⟨rfl, rfl, by decide⟩) ?_
    rcases v_if h with ⟨c4, h⟩ | ⟨c4, h⟩
    · refine v_i2t (T := 31) rfl rfl c4 ?_
      refine s_ek_bk 1 (P := 32) (ls' := [(0, .ref 151), (1, .int b)]) (st' := [.int b]) (M' := v_mk s) rfl ?_
      obtain ⟨rfl, rfl⟩ := v_so h
      exact v_ret (fun _ => rfl)
    · refine v_i2f (T := 31) rfl rfl c4 ?_
      refine s_ek_bk 1 (P := 23) (ls' := [(0, .ref 151), (1, .int b)]) (st' := [.ref 151]) (M' := v_mk s) rfl ?_
      refine v_gf rfl (v_gr (rfl : v_kd 151 = 11) (rfl : v_sl 151 20 = .ref 163) ⟨rfl, rfl, by decide⟩) ?_
      refine s_ek_bk 1 (P := 27) (ls' := [(0, .ref 151), (1, .int b)]) (st' := [.int b, .ref 163]) (M' := v_mk s) rfl ?_
      obtain ⟨c5, h⟩ := v_ck h
      refine v_ia (i := b) rfl (v_ai (rfl : v_kd 163 = 13) rfl (by decide) v_all13 (v_cn (rfl : v_ln 163 = 3) c5)) ?_
      refine s_ek_bk 1 (P := 32) (ls' := [(0, .ref 151), (1, .int b)]) (st' := [.int (s.1 163 (Int32.toNatClampNeg b))]) (M' := v_mk s) rfl ?_
      obtain ⟨rfl, rfl⟩ := v_so h
      exact v_ret (fun _ => rfl)
noncomputable def f_Md_order (b : Int32) (s : vS) : Option (Int32 × vS) := (if b.toInt = (s.1 151 31).toInt then (some ((-1), s)) else (if v_in b 11 then (some ((((11 : Int32) * (s.1 160 (Int32.toNatClampNeg b))) + b), s)) else none))
set_option maxRecDepth 20000 in
set_option maxHeartbeats 4000000 in
theorem t_Md_order {L : Nat} {xs : Nat → Int32} {b : Int32} {D : Nat} {r : Int32} {s s' : vS} (h : f_Md_order b s = some (r, s')) (hD : 0 ≤ D) : s_Ek (s_rows 3 L xs) D s_e216.1 0 (lv_args 0 [.ref 151, .int b]) [] (v_mk s) (v_Q (some (.int r)) s') := by
  unfold f_Md_order at h
  show s_Ek (s_rows 3 L xs) D s_e216.1 0 [(0, .ref 151), (1, .int b)] [] (v_mk s) _
  refine s_ek_bk 2 (P := 2) (ls' := [(0, .ref 151), (1, .int b)]) (st' := [.ref 151, .int b]) (M' := v_mk s) rfl ?_
  refine v_gf rfl (v_gi (rfl : v_kd 151 = 11) rfl ⟨rfl, rfl, by decide⟩) ?_
  rcases v_if h with ⟨c1, h⟩ | ⟨c1, h⟩
  · refine v_i2f (T := 12) rfl rfl (fun q => q c1) ?_
    refine s_ek_bk 2 (P := 23) (ls' := [(0, .ref 151), (1, .int b)]) (st' := [.int (-1)]) (M' := v_mk s) rfl ?_
    obtain ⟨rfl, rfl⟩ := v_so h
    exact v_ret (fun _ => rfl)
  · refine v_i2t (T := 12) rfl rfl c1 ?_
    refine s_ek_bk 2 (P := 15) (ls' := [(0, .ref 151), (1, .int b)]) (st' := [.ref 151, .int 11]) (M' := v_mk s) rfl ?_
    refine v_gf rfl (v_gr (rfl : v_kd 151 = 11) (rfl : v_sl 151 15 = .ref 160) ⟨rfl, rfl, by decide⟩) ?_
    refine s_ek_bk 1 (P := 19) (ls' := [(0, .ref 151), (1, .int b)]) (st' := [.int b, .ref 160, .int 11]) (M' := v_mk s) rfl ?_
    obtain ⟨c2, h⟩ := v_ck h
    refine v_ia (i := b) rfl (v_ai (rfl : v_kd 160 = 13) rfl (by decide) v_all13 (v_cn (rfl : v_ln 160 = 11) c2)) ?_
    refine s_ek_bk 3 (P := 23) (ls' := [(0, .ref 151), (1, .int b)]) (st' := [.int (((11 : Int32) * (s.1 160 (Int32.toNatClampNeg b))) + b)]) (M' := v_mk s) rfl ?_
    obtain ⟨rfl, rfl⟩ := v_so h
    exact v_ret (fun _ => rfl)
noncomputable def f_Md_isOlder (b : Int32) (c : Int32) (s : vS) : Option (Int32 × vS) := (v_bi (f_Md_order b s) (fun r1 s1 => (v_bi (f_Md_order c s1) (fun r2 s2 => (if r2.toInt ≤ r1.toInt then (some (0, s2)) else (some (1, s2)))))))
set_option maxRecDepth 20000 in
set_option maxHeartbeats 4000000 in
theorem t_Md_isOlder {L : Nat} {xs : Nat → Int32} {b : Int32} {c : Int32} {D : Nat} {r : Int32} {s s' : vS} (h : f_Md_isOlder b c s = some (r, s')) (hD : 1 ≤ D) : s_Ek (s_rows 3 L xs) D s_e217.1 0 (lv_args 0 [.ref 151, .int b, .int c]) [] (v_mk s) (v_Q (some (.int r)) s') := by
  unfold f_Md_isOlder at h
  show s_Ek (s_rows 3 L xs) D s_e217.1 0 [(0, .ref 151), (1, .int b), (2, .int c)] [] (v_mk s) _
  refine s_ek_bk 2 (P := 2) (ls' := [(0, .ref 151), (1, .int b), (2, .int c)]) (st' := [.int b, .ref 151]) (M' := v_mk s) rfl ?_
  obtain ⟨r1, s1, e1, h⟩ := v_bd h
  refine v_cV (ν := s_e216.1) (w := 1729) (a := 151) (as' := [.int b]) (r := []) (o := some (.int r1)) (by omega) rfl rfl rfl (v_mk_kd (k := 11) (rfl : v_kd 151 = 11) (by decide)) rfl (t_Md_order e1 (by omega)) ?_
  show s_Ek (s_rows 3 L xs) D s_e217.1 5 [(0, .ref 151), (1, .int b), (2, .int c)] [.int r1] (v_mk s1) _
  refine s_ek_bk 2 (P := 7) (ls' := [(0, .ref 151), (1, .int b), (2, .int c)]) (st' := [.int c, .ref 151, .int r1]) (M' := v_mk s1) rfl ?_
  obtain ⟨r2, s2, e2, h⟩ := v_bd h
  refine v_cV (ν := s_e216.1) (w := 1729) (a := 151) (as' := [.int c]) (r := [.int r1]) (o := some (.int r2)) (by omega) rfl rfl rfl (v_mk_kd (k := 11) (rfl : v_kd 151 = 11) (by decide)) rfl (t_Md_order e2 (by omega)) ?_
  show s_Ek (s_rows 3 L xs) D s_e217.1 10 [(0, .ref 151), (1, .int b), (2, .int c)] [.int r2, .int r1] (v_mk s2) _
  rcases v_if h with ⟨c3, h⟩ | ⟨c3, h⟩
  · refine v_i2t (T := 17) rfl rfl c3 ?_
    refine s_ek_bk 1 (P := 18) (ls' := [(0, .ref 151), (1, .int b), (2, .int c)]) (st' := [.int 0]) (M' := v_mk s2) rfl ?_
    obtain ⟨rfl, rfl⟩ := v_so h
    exact v_ret (fun _ => rfl)
  · refine v_i2f (T := 17) rfl rfl c3 ?_
    refine s_ek_bk 2 (P := 18) (ls' := [(0, .ref 151), (1, .int b), (2, .int c)]) (st' := [.int 1]) (M' := v_mk s2) rfl ?_
    obtain ⟨rfl, rfl⟩ := v_so h
    exact v_ret (fun _ => rfl)
noncomputable def f_Md_isIn (b : Int32) (s : vS) : Option (Int32 × vS) := (v_bi (f_Md_isThere b s) (fun r1 s1 => (if r1.toInt = 0 then (some (0, s1)) else (if (((s1.1 151 30) >>> (b &&& 31)) &&& (1 : Int32)).toInt = 0 then (some (1, s1)) else (some (0, s1))))))
set_option maxRecDepth 20000 in
set_option maxHeartbeats 4000000 in
theorem t_Md_isIn {L : Nat} {xs : Nat → Int32} {b : Int32} {D : Nat} {r : Int32} {s s' : vS} (h : f_Md_isIn b s = some (r, s')) (hD : 1 ≤ D) : s_Ek (s_rows 3 L xs) D s_e218.1 0 (lv_args 0 [.ref 151, .int b]) [] (v_mk s) (v_Q (some (.int r)) s') := by
  unfold f_Md_isIn at h
  show s_Ek (s_rows 3 L xs) D s_e218.1 0 [(0, .ref 151), (1, .int b)] [] (v_mk s) _
  refine s_ek_bk 2 (P := 2) (ls' := [(0, .ref 151), (1, .int b)]) (st' := [.int b, .ref 151]) (M' := v_mk s) rfl ?_
  obtain ⟨r1, s1, e1, h⟩ := v_bd h
  refine v_cV (ν := s_e202.1) (w := 1617) (a := 151) (as' := [.int b]) (r := []) (o := some (.int r1)) (by omega) rfl rfl rfl (v_mk_kd (k := 11) (rfl : v_kd 151 = 11) (by decide)) rfl (t_Md_isThere e1 (by omega)) ?_
  show s_Ek (s_rows 3 L xs) D s_e218.1 5 [(0, .ref 151), (1, .int b)] [.int r1] (v_mk s1) _
  rcases v_if h with ⟨c2, h⟩ | ⟨c2, h⟩
  · refine v_i1t (T := 23) rfl rfl c2 ?_
    refine s_ek_bk 1 (P := 24) (ls' := [(0, .ref 151), (1, .int b)]) (st' := [.int 0]) (M' := v_mk s1) rfl ?_
    obtain ⟨rfl, rfl⟩ := v_so h
    exact v_ret (fun _ => rfl)
  · refine v_i1f (T := 23) rfl rfl c2 ?_
    refine s_ek_bk 1 (P := 9) (ls' := [(0, .ref 151), (1, .int b)]) (st' := [.ref 151]) (M' := v_mk s1) rfl ?_
    refine v_gf rfl (v_gi (rfl : v_kd 151 = 11) rfl ⟨rfl, rfl, by decide⟩) ?_
    refine s_ek_bk 4 (P := 16) (ls' := [(0, .ref 151), (1, .int b)]) (st' := [.int (((s1.1 151 30) >>> (b &&& 31)) &&& (1 : Int32))]) (M' := v_mk s1) rfl ?_
    rcases v_if h with ⟨c3, h⟩ | ⟨c3, h⟩
    · refine v_i1f (T := 23) rfl rfl (fun q => q c3) ?_
      refine s_ek_bk 2 (P := 24) (ls' := [(0, .ref 151), (1, .int b)]) (st' := [.int 1]) (M' := v_mk s1) rfl ?_
      obtain ⟨rfl, rfl⟩ := v_so h
      exact v_ret (fun _ => rfl)
    · refine v_i1t (T := 23) rfl rfl c3 ?_
      refine s_ek_bk 1 (P := 24) (ls' := [(0, .ref 151), (1, .int b)]) (st' := [.int 0]) (M' := v_mk s1) rfl ?_
      obtain ⟨rfl, rfl⟩ := v_so h
      exact v_ret (fun _ => rfl)
noncomputable def f_Md_findStands_L12b (k33 : vS → Option (Unit × vS)) (again : Int32 → vS → Option (Unit × vS)) (v3 : Int32) (s : vS) : Option (Unit × vS) := (if (s.1 151 14).toInt ≤ v3.toInt then (k33 s) else (if v_in v3 11 then (v_let (v_w1 s 170 (Int32.toNatClampNeg v3) (vp_nar .boolean 0)) (fun s105 => (again (v3 + 1) s105))) else none))
noncomputable def f_Md_findStands_L12 (k33 : vS → Option (Unit × vS)) (n : Nat) : Int32 → vS → Option (Unit × vS) := Nat.rec (motive := fun _ => Int32 → vS → Option (Unit × vS)) (fun _ _ => none) (fun _ again => f_Md_findStands_L12b k33 again) n
noncomputable def f_Md_findStands_L53b (p3 : Int32) (p4 : Int32) (k97 : Int32 → vS → Option (Unit × vS)) (again : Int32 → Int32 → vS → Option (Unit × vS)) (v5 : Int32) (v6 : Int32) (s : vS) : Option (Unit × vS) := (if (s.1 151 14).toInt ≤ v6.toInt then (k97 v5 s) else (if ((p3 >>> (v6 &&& 31)) &&& (1 : Int32)).toInt = 0 then (if v5.toInt < 0 then (again v6 (v6 + 1) s) else (v_bi (f_Md_isOlder v6 v5 s) (fun r508 s508 => (if r508.toInt = 0 then (again v5 (v6 + 1) s508) else (again v6 (v6 + 1) s508))))) else (again v5 (v6 + 1) s)))
noncomputable def f_Md_findStands_L53 (p3 : Int32) (p4 : Int32) (k97 : Int32 → vS → Option (Unit × vS)) (n : Nat) : Int32 → Int32 → vS → Option (Unit × vS) := Nat.rec (motive := fun _ => Int32 → Int32 → vS → Option (Unit × vS)) (fun _ _ _ => none) (fun _ again => f_Md_findStands_L53b p3 p4 k97 again) n
noncomputable def f_Md_findStands_L115b (p3 : Int32) (p4 : Int32) (p5 : Int32) (k166 : Int32 → vS → Option (Unit × vS)) (again : Int32 → Int32 → vS → Option (Unit × vS)) (v6 : Int32) (v7 : Int32) (s : vS) : Option (Unit × vS) := (if (s.1 151 14).toInt ≤ v7.toInt then (k166 v6 s) else (if v_in v7 11 then (if (s.1 170 (Int32.toNatClampNeg v7)).toInt = 0 then (again v6 (v7 + 1) s) else (if v_in v7 11 then (if (s.1 162 (Int32.toNatClampNeg v7)).toInt = p5.toInt then (v_bi (f_Md_isOlder v7 p5 s) (fun r613 s613 => (if r613.toInt = 0 then (again v6 (v7 + 1) s613) else (again 0 (v7 + 1) s613)))) else (again v6 (v7 + 1) s)) else none)) else none))
noncomputable def f_Md_findStands_L115 (p3 : Int32) (p4 : Int32) (p5 : Int32) (k166 : Int32 → vS → Option (Unit × vS)) (n : Nat) : Int32 → Int32 → vS → Option (Unit × vS) := Nat.rec (motive := fun _ => Int32 → Int32 → vS → Option (Unit × vS)) (fun _ _ _ => none) (fun _ again => f_Md_findStands_L115b p3 p4 p5 k166 again) n
noncomputable def f_Md_findStands_L38b (k181 : vS → Option (Unit × vS)) (again : Int32 → Int32 → vS → Option (Unit × vS)) (v3 : Int32) (v4 : Int32) (s : vS) : Option (Unit × vS) := (if (s.1 151 14).toInt ≤ v4.toInt then (k181 s) else (f_Md_findStands_L53 v3 v4 (fun w205 s206 => (v_bi (f_Md_isIn w205 s206) (fun r207 s207 => (f_Md_findStands_L115 (v3 ||| ((1 : Int32) <<< (w205 &&& 31))) v4 w205 (fun w208 s209 => (if v_in w205 11 then (v_let (v_w1 s209 170 (Int32.toNatClampNeg w205) (vp_nar .boolean w208)) (fun s211 => (again (v3 ||| ((1 : Int32) <<< (w205 &&& 31))) (v4 + 1) s211))) else none)) 4096 r207 0 s207)))) 4096 (-1) 0 s))
noncomputable def f_Md_findStands_L38 (k181 : vS → Option (Unit × vS)) (n : Nat) : Int32 → Int32 → vS → Option (Unit × vS) := Nat.rec (motive := fun _ => Int32 → Int32 → vS → Option (Unit × vS)) (fun _ _ _ => none) (fun _ again => f_Md_findStands_L38b k181 again) n
noncomputable def f_Md_findStands (b : Int32) (c : Int32) (s : vS) : Option (Unit × vS) := (v_let (v_w1 s 151 30 b) (fun s1 => (v_let (v_w1 s1 151 31 c) (fun s2 => (f_Md_findStands_L12 (fun s3 => (f_Md_findStands_L38 (fun s4 => (some ((), s4))) 4096 0 0 s3)) 4096 0 s2)))))
set_option maxRecDepth 20000 in
set_option maxHeartbeats 4000000 in
theorem t_Md_findStands_L12 {L : Nat} {xs : Nat → Int32} {k33 : vS → Option (Unit × vS)} {D : Nat} (hD : 2 ≤ D) {r : Unit} {s' : vS} (hk33 : ∀ (s : vS), k33 s = some (r, s') → s_Ek (s_rows 3 L xs) D s_e219.1 33 [(0, .ref 151)] [] (v_mk s) (v_Q none s')) : ∀ (n : Nat) (v3 : Int32) (s : vS), f_Md_findStands_L12 k33 n v3 s = some (r, s') → s_Ek (s_rows 3 L xs) D s_e219.1 12 [(0, .ref 151), (3, .int v3)] [] (v_mk s) (v_Q none s') := by
  intro n
  induction n with
  | zero => intro v3 s h; exact nomatch (show (none : Option (Unit × vS)) = some (r, s') from h)
  | succ n ih =>
    intro v3 s h
    replace h : f_Md_findStands_L12b k33 (f_Md_findStands_L12 k33 n) v3 s = some (r, s') := h
    unfold f_Md_findStands_L12b at h
    refine s_ek_bk 2 (P := 14) (ls' := [(0, .ref 151), (3, .int v3)]) (st' := [.ref 151, .int v3]) (M' := v_mk s) rfl ?_
    refine v_gf rfl (v_gi (rfl : v_kd 151 = 11) rfl ⟨rfl, rfl, by decide⟩) ?_
    rcases v_if h with ⟨c103, h⟩ | ⟨c103, h⟩
    · refine v_i2t (T := 33) rfl rfl c103 ?_
      refine v_ls (ls' := [(0, .ref 151)]) ⟨rfl, trivial⟩ (show ([0] : List Nat).Nodup from by decide) ?_
      exact hk33 _ h
    · refine v_i2f (T := 33) rfl rfl c103 ?_
      refine s_ek_bk 1 (P := 21) (ls' := [(0, .ref 151), (3, .int v3)]) (st' := [.ref 151]) (M' := v_mk s) rfl ?_
      refine v_gf rfl (v_gr (rfl : v_kd 151 = 11) (rfl : v_sl 151 29 = .ref 170) ⟨rfl, rfl, by decide⟩) ?_
      refine s_ek_bk 2 (P := 26) (ls' := [(0, .ref 151), (3, .int v3)]) (st' := [.int 0, .int v3, .ref 170]) (M' := v_mk s) rfl ?_
      obtain ⟨c104, h⟩ := v_ck h
      obtain ⟨s105, es105, h⟩ := v_ld h
      refine v_zst (M' := v_mk s105) (i := v3) rfl (v_mk_kd (rfl : v_kd 170 = 16) (by decide)) (by rw [es105]; exact v_pai (rfl : v_kd 170 = 16) rfl (by decide) v_all16 (v_cn (rfl : v_ln 170 = 11) c104)) ?_
      refine s_ek_bk 2 (P := 12) (ls' := [(3, .int (v3 + 1)), (0, .ref 151)]) (st' := []) (M' := v_mk s105) rfl ?_
      refine v_ls (ls' := [(0, .ref 151), (3, .int (v3 + 1))]) ⟨rfl, rfl, trivial⟩ (show ([0, 3] : List Nat).Nodup from by decide) ?_
      exact ih _ _ h
set_option maxRecDepth 20000 in
set_option maxHeartbeats 4000000 in
theorem t_Md_findStands_L53 {L : Nat} {xs : Nat → Int32} {p3 : Int32} {p4 : Int32} {k97 : Int32 → vS → Option (Unit × vS)} {D : Nat} (hD : 2 ≤ D) {r : Unit} {s' : vS} (hk97 : ∀ (v5 : Int32) (s : vS), k97 v5 s = some (r, s') → s_Ek (s_rows 3 L xs) D s_e219.1 97 [(0, .ref 151), (3, .int p3), (4, .int p4), (5, .int v5)] [] (v_mk s) (v_Q none s')) : ∀ (n : Nat) (v5 : Int32) (v6 : Int32) (s : vS), f_Md_findStands_L53 p3 p4 k97 n v5 v6 s = some (r, s') → s_Ek (s_rows 3 L xs) D s_e219.1 53 [(0, .ref 151), (3, .int p3), (4, .int p4), (5, .int v5), (6, .int v6)] [] (v_mk s) (v_Q none s') := by
  intro n
  induction n with
  | zero => intro v5 v6 s h; exact nomatch (show (none : Option (Unit × vS)) = some (r, s') from h)
  | succ n ih =>
    intro v5 v6 s h
    replace h : f_Md_findStands_L53b p3 p4 k97 (f_Md_findStands_L53 p3 p4 k97 n) v5 v6 s = some (r, s') := h
    unfold f_Md_findStands_L53b at h
    refine s_ek_bk 2 (P := 56) (ls' := [(0, .ref 151), (3, .int p3), (4, .int p4), (5, .int v5), (6, .int v6)]) (st' := [.ref 151, .int v6]) (M' := v_mk s) rfl ?_
    refine v_gf rfl (v_gi (rfl : v_kd 151 = 11) rfl ⟨rfl, rfl, by decide⟩) ?_
    rcases v_if h with ⟨c505, h⟩ | ⟨c505, h⟩
    · refine v_i2t (T := 97) rfl rfl c505 ?_
      refine v_ls (ls' := [(0, .ref 151), (3, .int p3), (4, .int p4), (5, .int v5)]) ⟨rfl, rfl, rfl, rfl, trivial⟩ (show ([0, 3, 4, 5] : List Nat).Nodup from by decide) ?_
      exact hk97 _ _ h
    · refine v_i2f (T := 97) rfl rfl c505 ?_
      refine s_ek_bk 5 (P := 68) (ls' := [(0, .ref 151), (3, .int p3), (4, .int p4), (5, .int v5), (6, .int v6)]) (st' := [.int ((p3 >>> (v6 &&& 31)) &&& (1 : Int32))]) (M' := v_mk s) rfl ?_
      rcases v_if h with ⟨c506, h⟩ | ⟨c506, h⟩
      · refine v_i1f (T := 91) rfl rfl (fun q => q c506) ?_
        refine s_ek_bk 1 (P := 73) (ls' := [(0, .ref 151), (3, .int p3), (4, .int p4), (5, .int v5), (6, .int v6)]) (st' := [.int v5]) (M' := v_mk s) rfl ?_
        rcases v_if h with ⟨c507, h⟩ | ⟨c507, h⟩
        · refine v_i1t (T := 87) rfl rfl c507 ?_
          refine s_ek_bk 4 (P := 53) (ls' := [(6, .int (v6 + 1)), (5, .int v6), (0, .ref 151), (3, .int p3), (4, .int p4)]) (st' := []) (M' := v_mk s) rfl ?_
          refine v_ls (ls' := [(0, .ref 151), (3, .int p3), (4, .int p4), (5, .int v6), (6, .int (v6 + 1))]) ⟨rfl, rfl, rfl, rfl, rfl, trivial⟩ (show ([0, 3, 4, 5, 6] : List Nat).Nodup from by decide) ?_
          exact ih _ _ _ h
        · refine v_i1f (T := 87) rfl rfl c507 ?_
          refine s_ek_bk 3 (P := 81) (ls' := [(0, .ref 151), (3, .int p3), (4, .int p4), (5, .int v5), (6, .int v6)]) (st' := [.int v5, .int v6, .ref 151]) (M' := v_mk s) rfl ?_
          obtain ⟨r508, s508, e508, h⟩ := v_bd h
          refine v_cV (ν := s_e217.1) (w := 1738) (a := 151) (as' := [.int v6, .int v5]) (r := []) (o := some (.int r508)) (by omega) rfl rfl rfl (v_mk_kd (k := 11) (rfl : v_kd 151 = 11) (by decide)) rfl (t_Md_isOlder e508 (by omega)) ?_
          show s_Ek (s_rows 3 L xs) D s_e219.1 84 [(0, .ref 151), (3, .int p3), (4, .int p4), (5, .int v5), (6, .int v6)] [.int r508] (v_mk s508) _
          rcases v_if h with ⟨c509, h⟩ | ⟨c509, h⟩
          · refine v_i1t (T := 91) rfl rfl c509 ?_
            refine s_ek_bk 2 (P := 53) (ls' := [(6, .int (v6 + 1)), (0, .ref 151), (3, .int p3), (4, .int p4), (5, .int v5)]) (st' := []) (M' := v_mk s508) rfl ?_
            refine v_ls (ls' := [(0, .ref 151), (3, .int p3), (4, .int p4), (5, .int v5), (6, .int (v6 + 1))]) ⟨rfl, rfl, rfl, rfl, rfl, trivial⟩ (show ([0, 3, 4, 5, 6] : List Nat).Nodup from by decide) ?_
            exact ih _ _ _ h
          · refine v_i1f (T := 91) rfl rfl c509 ?_
            refine s_ek_bk 4 (P := 53) (ls' := [(6, .int (v6 + 1)), (5, .int v6), (0, .ref 151), (3, .int p3), (4, .int p4)]) (st' := []) (M' := v_mk s508) rfl ?_
            refine v_ls (ls' := [(0, .ref 151), (3, .int p3), (4, .int p4), (5, .int v6), (6, .int (v6 + 1))]) ⟨rfl, rfl, rfl, rfl, rfl, trivial⟩ (show ([0, 3, 4, 5, 6] : List Nat).Nodup from by decide) ?_
            exact ih _ _ _ h
      · refine v_i1t (T := 91) rfl rfl c506 ?_
        refine s_ek_bk 2 (P := 53) (ls' := [(6, .int (v6 + 1)), (0, .ref 151), (3, .int p3), (4, .int p4), (5, .int v5)]) (st' := []) (M' := v_mk s) rfl ?_
        refine v_ls (ls' := [(0, .ref 151), (3, .int p3), (4, .int p4), (5, .int v5), (6, .int (v6 + 1))]) ⟨rfl, rfl, rfl, rfl, rfl, trivial⟩ (show ([0, 3, 4, 5, 6] : List Nat).Nodup from by decide) ?_
        exact ih _ _ _ h
set_option maxRecDepth 20000 in
set_option maxHeartbeats 4000000 in
theorem t_Md_findStands_L115 {L : Nat} {xs : Nat → Int32} {p3 : Int32} {p4 : Int32} {p5 : Int32} {k166 : Int32 → vS → Option (Unit × vS)} {D : Nat} (hD : 2 ≤ D) {r : Unit} {s' : vS} (hk166 : ∀ (v6 : Int32) (s : vS), k166 v6 s = some (r, s') → s_Ek (s_rows 3 L xs) D s_e219.1 166 [(0, .ref 151), (3, .int p3), (4, .int p4), (5, .int p5), (6, .int v6)] [] (v_mk s) (v_Q none s')) : ∀ (n : Nat) (v6 : Int32) (v7 : Int32) (s : vS), f_Md_findStands_L115 p3 p4 p5 k166 n v6 v7 s = some (r, s') → s_Ek (s_rows 3 L xs) D s_e219.1 115 [(0, .ref 151), (3, .int p3), (4, .int p4), (5, .int p5), (6, .int v6), (7, .int v7)] [] (v_mk s) (v_Q none s') := by
  intro n
  induction n with
  | zero => intro v6 v7 s h; exact nomatch (show (none : Option (Unit × vS)) = some (r, s') from h)
  | succ n ih =>
    intro v6 v7 s h
    replace h : f_Md_findStands_L115b p3 p4 p5 k166 (f_Md_findStands_L115 p3 p4 p5 k166 n) v6 v7 s = some (r, s') := h
    unfold f_Md_findStands_L115b at h
    refine s_ek_bk 2 (P := 118) (ls' := [(0, .ref 151), (3, .int p3), (4, .int p4), (5, .int p5), (6, .int v6), (7, .int v7)]) (st' := [.ref 151, .int v7]) (M' := v_mk s) rfl ?_
    refine v_gf rfl (v_gi (rfl : v_kd 151 = 11) rfl ⟨rfl, rfl, by decide⟩) ?_
    rcases v_if h with ⟨c608, h⟩ | ⟨c608, h⟩
    · refine v_i2t (T := 166) rfl rfl c608 ?_
      refine v_ls (ls' := [(0, .ref 151), (3, .int p3), (4, .int p4), (5, .int p5), (6, .int v6)]) ⟨rfl, rfl, rfl, rfl, rfl, trivial⟩ (show ([0, 3, 4, 5, 6] : List Nat).Nodup from by decide) ?_
      exact hk166 _ _ h
    · refine v_i2f (T := 166) rfl rfl c608 ?_
      refine s_ek_bk 1 (P := 125) (ls' := [(0, .ref 151), (3, .int p3), (4, .int p4), (5, .int p5), (6, .int v6), (7, .int v7)]) (st' := [.ref 151]) (M' := v_mk s) rfl ?_
      refine v_gf rfl (v_gr (rfl : v_kd 151 = 11) (rfl : v_sl 151 29 = .ref 170) ⟨rfl, rfl, by decide⟩) ?_
      refine s_ek_bk 1 (P := 130) (ls' := [(0, .ref 151), (3, .int p3), (4, .int p4), (5, .int p5), (6, .int v6), (7, .int v7)]) (st' := [.int v7, .ref 170]) (M' := v_mk s) rfl ?_
      obtain ⟨c609, h⟩ := v_ck h
      refine v_ba (i := v7) rfl (v_ai (rfl : v_kd 170 = 16) rfl (by decide) v_all16 (v_cn (rfl : v_ln 170 = 11) c609)) ?_
      rcases v_if h with ⟨c610, h⟩ | ⟨c610, h⟩
      · refine v_i1t (T := 160) rfl rfl c610 ?_
        refine s_ek_bk 2 (P := 115) (ls' := [(7, .int (v7 + 1)), (0, .ref 151), (3, .int p3), (4, .int p4), (5, .int p5), (6, .int v6)]) (st' := []) (M' := v_mk s) rfl ?_
        refine v_ls (ls' := [(0, .ref 151), (3, .int p3), (4, .int p4), (5, .int p5), (6, .int v6), (7, .int (v7 + 1))]) ⟨rfl, rfl, rfl, rfl, rfl, rfl, trivial⟩ (show ([0, 3, 4, 5, 6, 7] : List Nat).Nodup from by decide) ?_
        exact ih _ _ _ h
      · refine v_i1f (T := 160) rfl rfl c610 ?_
        refine s_ek_bk 1 (P := 135) (ls' := [(0, .ref 151), (3, .int p3), (4, .int p4), (5, .int p5), (6, .int v6), (7, .int v7)]) (st' := [.ref 151]) (M' := v_mk s) rfl ?_
        refine v_gf rfl (v_gr (rfl : v_kd 151 = 11) (rfl : v_sl 151 17 = .ref 162) ⟨rfl, rfl, by decide⟩) ?_
        refine s_ek_bk 1 (P := 140) (ls' := [(0, .ref 151), (3, .int p3), (4, .int p4), (5, .int p5), (6, .int v6), (7, .int v7)]) (st' := [.int v7, .ref 162]) (M' := v_mk s) rfl ?_
        obtain ⟨c611, h⟩ := v_ck h
        refine v_ia (i := v7) rfl (v_ai (rfl : v_kd 162 = 13) rfl (by decide) v_all13 (v_cn (rfl : v_ln 162 = 11) c611)) ?_
        refine s_ek_bk 1 (P := 143) (ls' := [(0, .ref 151), (3, .int p3), (4, .int p4), (5, .int p5), (6, .int v6), (7, .int v7)]) (st' := [.int p5, .int (s.1 162 (Int32.toNatClampNeg v7))]) (M' := v_mk s) rfl ?_
        rcases v_if h with ⟨c612, h⟩ | ⟨c612, h⟩
        · refine v_i2f (T := 160) rfl rfl (fun q => q c612) ?_
          refine s_ek_bk 3 (P := 151) (ls' := [(0, .ref 151), (3, .int p3), (4, .int p4), (5, .int p5), (6, .int v6), (7, .int v7)]) (st' := [.int p5, .int v7, .ref 151]) (M' := v_mk s) rfl ?_
          obtain ⟨r613, s613, e613, h⟩ := v_bd h
          refine v_cV (ν := s_e217.1) (w := 1738) (a := 151) (as' := [.int v7, .int p5]) (r := []) (o := some (.int r613)) (by omega) rfl rfl rfl (v_mk_kd (k := 11) (rfl : v_kd 151 = 11) (by decide)) rfl (t_Md_isOlder e613 (by omega)) ?_
          show s_Ek (s_rows 3 L xs) D s_e219.1 154 [(0, .ref 151), (3, .int p3), (4, .int p4), (5, .int p5), (6, .int v6), (7, .int v7)] [.int r613] (v_mk s613) _
          rcases v_if h with ⟨c614, h⟩ | ⟨c614, h⟩
          · refine v_i1t (T := 160) rfl rfl c614 ?_
            refine s_ek_bk 2 (P := 115) (ls' := [(7, .int (v7 + 1)), (0, .ref 151), (3, .int p3), (4, .int p4), (5, .int p5), (6, .int v6)]) (st' := []) (M' := v_mk s613) rfl ?_
            refine v_ls (ls' := [(0, .ref 151), (3, .int p3), (4, .int p4), (5, .int p5), (6, .int v6), (7, .int (v7 + 1))]) ⟨rfl, rfl, rfl, rfl, rfl, rfl, trivial⟩ (show ([0, 3, 4, 5, 6, 7] : List Nat).Nodup from by decide) ?_
            exact ih _ _ _ h
          · refine v_i1f (T := 160) rfl rfl c614 ?_
            refine s_ek_bk 4 (P := 115) (ls' := [(7, .int (v7 + 1)), (6, .int 0), (0, .ref 151), (3, .int p3), (4, .int p4), (5, .int p5)]) (st' := []) (M' := v_mk s613) rfl ?_
            refine v_ls (ls' := [(0, .ref 151), (3, .int p3), (4, .int p4), (5, .int p5), (6, .int 0), (7, .int (v7 + 1))]) ⟨rfl, rfl, rfl, rfl, rfl, rfl, trivial⟩ (show ([0, 3, 4, 5, 6, 7] : List Nat).Nodup from by decide) ?_
            exact ih _ _ _ h
        · refine v_i2t (T := 160) rfl rfl c612 ?_
          refine s_ek_bk 2 (P := 115) (ls' := [(7, .int (v7 + 1)), (0, .ref 151), (3, .int p3), (4, .int p4), (5, .int p5), (6, .int v6)]) (st' := []) (M' := v_mk s) rfl ?_
          refine v_ls (ls' := [(0, .ref 151), (3, .int p3), (4, .int p4), (5, .int p5), (6, .int v6), (7, .int (v7 + 1))]) ⟨rfl, rfl, rfl, rfl, rfl, rfl, trivial⟩ (show ([0, 3, 4, 5, 6, 7] : List Nat).Nodup from by decide) ?_
          exact ih _ _ _ h
set_option maxRecDepth 20000 in
set_option maxHeartbeats 4000000 in
theorem t_Md_findStands_L38 {L : Nat} {xs : Nat → Int32} {k181 : vS → Option (Unit × vS)} {D : Nat} (hD : 2 ≤ D) {r : Unit} {s' : vS} (hk181 : ∀ (s : vS), k181 s = some (r, s') → s_Ek (s_rows 3 L xs) D s_e219.1 181 [] [] (v_mk s) (v_Q none s')) : ∀ (n : Nat) (v3 : Int32) (v4 : Int32) (s : vS), f_Md_findStands_L38 k181 n v3 v4 s = some (r, s') → s_Ek (s_rows 3 L xs) D s_e219.1 38 [(0, .ref 151), (3, .int v3), (4, .int v4)] [] (v_mk s) (v_Q none s') := by
  intro n
  induction n with
  | zero => intro v3 v4 s h; exact nomatch (show (none : Option (Unit × vS)) = some (r, s') from h)
  | succ n ih =>
    intro v3 v4 s h
    replace h : f_Md_findStands_L38b k181 (f_Md_findStands_L38 k181 n) v3 v4 s = some (r, s') := h
    unfold f_Md_findStands_L38b at h
    refine s_ek_bk 2 (P := 41) (ls' := [(0, .ref 151), (3, .int v3), (4, .int v4)]) (st' := [.ref 151, .int v4]) (M' := v_mk s) rfl ?_
    refine v_gf rfl (v_gi (rfl : v_kd 151 = 11) rfl ⟨rfl, rfl, by decide⟩) ?_
    rcases v_if h with ⟨c204, h⟩ | ⟨c204, h⟩
    · refine v_i2t (T := 181) rfl rfl c204 ?_
      refine v_ls (ls' := []) trivial (show ([] : List Nat).Nodup from by decide) ?_
      exact hk181 _ h
    · refine v_i2f (T := 181) rfl rfl c204 ?_
      refine s_ek_bk 4 (P := 53) (ls' := [(6, .int 0), (5, .int (-1)), (0, .ref 151), (3, .int v3), (4, .int v4)]) (st' := []) (M' := v_mk s) rfl ?_
      refine v_ls (ls' := [(0, .ref 151), (3, .int v3), (4, .int v4), (5, .int (-1)), (6, .int 0)]) ⟨rfl, rfl, rfl, rfl, rfl, trivial⟩ (show ([0, 3, 4, 5, 6] : List Nat).Nodup from by decide) ?_
      refine t_Md_findStands_L53 (by omega) (fun w205 s206 h => ?_) 4096 _ _ _ h
      show s_Ek (s_rows 3 L xs) D s_e219.1 97 [(0, .ref 151), (3, .int v3), (4, .int v4), (5, .int w205)] [] (v_mk s206) _
      refine s_ek_bk 8 (P := 107) (ls' := [(3, .int (v3 ||| ((1 : Int32) <<< (w205 &&& 31)))), (0, .ref 151), (4, .int v4), (5, .int w205)]) (st' := [.int w205, .ref 151]) (M' := v_mk s206) rfl ?_
      obtain ⟨r207, s207, e207, h⟩ := v_bd h
      refine v_cV (ν := s_e218.1) (w := 1745) (a := 151) (as' := [.int w205]) (r := []) (o := some (.int r207)) (by omega) rfl rfl rfl (v_mk_kd (k := 11) (rfl : v_kd 151 = 11) (by decide)) rfl (t_Md_isIn e207 (by omega)) ?_
      show s_Ek (s_rows 3 L xs) D s_e219.1 110 [(3, .int (v3 ||| ((1 : Int32) <<< (w205 &&& 31)))), (0, .ref 151), (4, .int v4), (5, .int w205)] [.int r207] (v_mk s207) _
      refine s_ek_bk 3 (P := 115) (ls' := [(7, .int 0), (6, .int r207), (3, .int (v3 ||| ((1 : Int32) <<< (w205 &&& 31)))), (0, .ref 151), (4, .int v4), (5, .int w205)]) (st' := []) (M' := v_mk s207) rfl ?_
      refine v_ls (ls' := [(0, .ref 151), (3, .int (v3 ||| ((1 : Int32) <<< (w205 &&& 31)))), (4, .int v4), (5, .int w205), (6, .int r207), (7, .int 0)]) ⟨rfl, rfl, rfl, rfl, rfl, rfl, trivial⟩ (show ([0, 3, 4, 5, 6, 7] : List Nat).Nodup from by decide) ?_
      refine t_Md_findStands_L115 (by omega) (fun w208 s209 h => ?_) 4096 _ _ _ h
      show s_Ek (s_rows 3 L xs) D s_e219.1 166 [(0, .ref 151), (3, .int (v3 ||| ((1 : Int32) <<< (w205 &&& 31)))), (4, .int v4), (5, .int w205), (6, .int w208)] [] (v_mk s209) _
      refine s_ek_bk 1 (P := 167) (ls' := [(0, .ref 151), (3, .int (v3 ||| ((1 : Int32) <<< (w205 &&& 31)))), (4, .int v4), (5, .int w205), (6, .int w208)]) (st' := [.ref 151]) (M' := v_mk s209) rfl ?_
      refine v_gf rfl (v_gr (rfl : v_kd 151 = 11) (rfl : v_sl 151 29 = .ref 170) ⟨rfl, rfl, by decide⟩) ?_
      refine s_ek_bk 2 (P := 174) (ls' := [(0, .ref 151), (3, .int (v3 ||| ((1 : Int32) <<< (w205 &&& 31)))), (4, .int v4), (5, .int w205), (6, .int w208)]) (st' := [.int w208, .int w205, .ref 170]) (M' := v_mk s209) rfl ?_
      obtain ⟨c210, h⟩ := v_ck h
      obtain ⟨s211, es211, h⟩ := v_ld h
      refine v_zst (M' := v_mk s211) (i := w205) rfl (v_mk_kd (rfl : v_kd 170 = 16) (by decide)) (by rw [es211]; exact v_pai (rfl : v_kd 170 = 16) rfl (by decide) v_all16 (v_cn (rfl : v_ln 170 = 11) c210)) ?_
      refine s_ek_bk 2 (P := 38) (ls' := [(4, .int (v4 + 1)), (0, .ref 151), (3, .int (v3 ||| ((1 : Int32) <<< (w205 &&& 31)))), (5, .int w205), (6, .int w208)]) (st' := []) (M' := v_mk s211) rfl ?_
      refine v_ls (ls' := [(0, .ref 151), (3, .int (v3 ||| ((1 : Int32) <<< (w205 &&& 31)))), (4, .int (v4 + 1))]) ⟨rfl, rfl, rfl, trivial⟩ (show ([0, 3, 4] : List Nat).Nodup from by decide) ?_
      exact ih _ _ _ h
set_option maxRecDepth 20000 in
set_option maxHeartbeats 4000000 in
theorem t_Md_findStands {L : Nat} {xs : Nat → Int32} {b : Int32} {c : Int32} {D : Nat} {r : Unit} {s s' : vS} (h : f_Md_findStands b c s = some (r, s')) (hD : 2 ≤ D) : s_Ek (s_rows 3 L xs) D s_e219.1 0 (lv_args 0 [.ref 151, .int b, .int c]) [] (v_mk s) (v_Q none s') := by
  unfold f_Md_findStands at h
  show s_Ek (s_rows 3 L xs) D s_e219.1 0 [(0, .ref 151), (1, .int b), (2, .int c)] [] (v_mk s) _
  refine s_ek_bk 2 (P := 2) (ls' := [(0, .ref 151), (1, .int b), (2, .int c)]) (st' := [.int b, .ref 151]) (M' := v_mk s) rfl ?_
  obtain ⟨s1, es1, h⟩ := v_ld h
  refine v_pf (M' := v_mk s1) rfl (by rw [es1]; exact v_pi (rfl : v_kd 151 = 11) rfl ⟨rfl, rfl, by decide⟩ rfl) ?_
  refine s_ek_bk 2 (P := 7) (ls' := [(0, .ref 151), (1, .int b), (2, .int c)]) (st' := [.int c, .ref 151]) (M' := v_mk s1) rfl ?_
  obtain ⟨s2, es2, h⟩ := v_ld h
  refine v_pf (M' := v_mk s2) rfl (by rw [es2]; exact v_pi (rfl : v_kd 151 = 11) rfl ⟨rfl, rfl, by decide⟩ rfl) ?_
  refine s_ek_bk 2 (P := 12) (ls' := [(3, .int 0), (0, .ref 151), (1, .int b), (2, .int c)]) (st' := []) (M' := v_mk s2) rfl ?_
  refine v_ls (ls' := [(0, .ref 151), (3, .int 0)]) ⟨rfl, rfl, trivial⟩ (show ([0, 3] : List Nat).Nodup from by decide) ?_
  refine t_Md_findStands_L12 (by omega) (fun s3 h => ?_) 4096 _ _ h
  show s_Ek (s_rows 3 L xs) D s_e219.1 33 [(0, .ref 151)] [] (v_mk s3) _
  refine s_ek_bk 4 (P := 38) (ls' := [(4, .int 0), (3, .int 0), (0, .ref 151)]) (st' := []) (M' := v_mk s3) rfl ?_
  refine v_ls (ls' := [(0, .ref 151), (3, .int 0), (4, .int 0)]) ⟨rfl, rfl, rfl, trivial⟩ (show ([0, 3, 4] : List Nat).Nodup from by decide) ?_
  refine t_Md_findStands_L38 (by omega) (fun s4 h => ?_) 4096 _ _ _ h
  show s_Ek (s_rows 3 L xs) D s_e219.1 181 [] [] (v_mk s4) _
  obtain ⟨rfl, rfl⟩ := v_so h
  exact v_ret (fun _ => rfl)
noncomputable def f_Md_wordIn (b : Int32) (c : Int32) (s : vS) : Option (Int32 × vS) := (if c.toInt = 0 then (some ((b / (25 : Int32)), s)) else (if c.toInt = 1 then (some (((b / (5 : Int32)) - (b / (5 : Int32)) / (5 : Int32) * (5 : Int32)), s)) else (some ((b - b / (5 : Int32) * (5 : Int32)), s))))
set_option maxRecDepth 20000 in
set_option maxHeartbeats 4000000 in
theorem t_Md_wordIn {L : Nat} {xs : Nat → Int32} {b : Int32} {c : Int32} {D : Nat} {r : Int32} {s s' : vS} (h : f_Md_wordIn b c s = some (r, s')) (hD : 0 ≤ D) : s_Ek (s_rows 3 L xs) D s_e220.1 0 (lv_args 0 [.int b, .int c]) [] (v_mk s) (v_Q (some (.int r)) s') := by
  unfold f_Md_wordIn at h
  show s_Ek (s_rows 3 L xs) D s_e220.1 0 [(0, .int b), (1, .int c)] [] (v_mk s) _
  refine s_ek_bk 1 (P := 1) (ls' := [(0, .int b), (1, .int c)]) (st' := [.int c]) (M' := v_mk s) rfl ?_
  rcases v_if h with ⟨c1, h⟩ | ⟨c1, h⟩
  · refine v_i1f (T := 11) rfl rfl (fun q => q c1) ?_
    refine s_ek_bk 4 (P := 27) (ls' := [(0, .int b), (1, .int c)]) (st' := [.int (b / (25 : Int32))]) (M' := v_mk s) rfl ?_
    obtain ⟨rfl, rfl⟩ := v_so h
    exact v_ret (fun _ => rfl)
  · refine v_i1t (T := 11) rfl rfl c1 ?_
    refine s_ek_bk 2 (P := 13) (ls' := [(0, .int b), (1, .int c)]) (st' := [.int 1, .int c]) (M' := v_mk s) rfl ?_
    rcases v_if h with ⟨c2, h⟩ | ⟨c2, h⟩
    · refine v_i2f (T := 24) rfl rfl (fun q => q c2) ?_
      refine s_ek_bk 6 (P := 27) (ls' := [(0, .int b), (1, .int c)]) (st' := [.int ((b / (5 : Int32)) - (b / (5 : Int32)) / (5 : Int32) * (5 : Int32))]) (M' := v_mk s) rfl ?_
      obtain ⟨rfl, rfl⟩ := v_so h
      exact v_ret (fun _ => rfl)
    · refine v_i2t (T := 24) rfl rfl c2 ?_
      refine s_ek_bk 3 (P := 27) (ls' := [(0, .int b), (1, .int c)]) (st' := [.int (b - b / (5 : Int32) * (5 : Int32))]) (M' := v_mk s) rfl ?_
      obtain ⟨rfl, rfl⟩ := v_so h
      exact v_ret (fun _ => rfl)
noncomputable def f_Md_doesSpeak_L2b (p1 : Int32) (p2 : Int32) (k28 : vS → Option (Int32 × vS)) (again : Int32 → vS → Option (Int32 × vS)) (v3 : Int32) (s : vS) : Option (Int32 × vS) := (if 3 ≤ v3.toInt then (k28 s) else (v_bi (f_Md_meaning v3 s) (fun r102 s102 => (v_bi (f_Md_wordIn p2 r102 s102) (fun r103 s103 => (if v_in v3 6 then (v_let (v_w1 s103 158 (Int32.toNatClampNeg v3) r103) (fun s105 => (again (v3 + 1) s105))) else none))))))
noncomputable def f_Md_doesSpeak_L2 (p1 : Int32) (p2 : Int32) (k28 : vS → Option (Int32 × vS)) (n : Nat) : Int32 → vS → Option (Int32 × vS) := Nat.rec (motive := fun _ => Int32 → vS → Option (Int32 × vS)) (fun _ _ => none) (fun _ again => f_Md_doesSpeak_L2b p1 p2 k28 again) n
noncomputable def f_Md_doesSpeak (b : Int32) (c : Int32) (s : vS) : Option (Int32 × vS) := (f_Md_doesSpeak_L2 b c (fun s1 => (if v_in b 11 then (v_let (v_w1 s1 158 3 (s1.1 160 (Int32.toNatClampNeg b))) (fun s3 => (v_let (v_w1 s3 158 4 (s3.1 151 19)) (fun s4 => (v_let (v_w1 s4 158 5 b) (fun s5 => (v_bi (f_Md_gives b s5) (fun r6 s6 => (if r6.toInt = 0 then (some (0, s6)) else (some (1, s6))))))))))) else none)) 4096 0 s)
set_option maxRecDepth 20000 in
set_option maxHeartbeats 4000000 in
theorem t_Md_doesSpeak_L2 {L : Nat} {xs : Nat → Int32} {p1 : Int32} {p2 : Int32} {k28 : vS → Option (Int32 × vS)} {D : Nat} (hD : 3 ≤ D) {r : Int32} {s' : vS} (hk28 : ∀ (s : vS), k28 s = some (r, s') → s_Ek (s_rows 3 L xs) D s_e221.1 28 [(0, .ref 151), (1, .int p1)] [] (v_mk s) (v_Q (some (.int r)) s')) : ∀ (n : Nat) (v3 : Int32) (s : vS), f_Md_doesSpeak_L2 p1 p2 k28 n v3 s = some (r, s') → s_Ek (s_rows 3 L xs) D s_e221.1 2 [(0, .ref 151), (1, .int p1), (2, .int p2), (3, .int v3)] [] (v_mk s) (v_Q (some (.int r)) s') := by
  intro n
  induction n with
  | zero => intro v3 s h; exact nomatch (show (none : Option (Int32 × vS)) = some (r, s') from h)
  | succ n ih =>
    intro v3 s h
    replace h : f_Md_doesSpeak_L2b p1 p2 k28 (f_Md_doesSpeak_L2 p1 p2 k28 n) v3 s = some (r, s') := h
    unfold f_Md_doesSpeak_L2b at h
    refine s_ek_bk 2 (P := 4) (ls' := [(0, .ref 151), (1, .int p1), (2, .int p2), (3, .int v3)]) (st' := [.int 3, .int v3]) (M' := v_mk s) rfl ?_
    rcases v_if h with ⟨c101, h⟩ | ⟨c101, h⟩
    · refine v_i2t (T := 28) rfl rfl c101 ?_
      refine v_ls (ls' := [(0, .ref 151), (1, .int p1)]) ⟨rfl, rfl, trivial⟩ (show ([0, 1] : List Nat).Nodup from by decide) ?_
      exact hk28 _ h
    · refine v_i2f (T := 28) rfl rfl c101 ?_
      refine s_ek_bk 1 (P := 8) (ls' := [(0, .ref 151), (1, .int p1), (2, .int p2), (3, .int v3)]) (st' := [.ref 151]) (M' := v_mk s) rfl ?_
      refine v_gf rfl (v_gr (rfl : v_kd 151 = 11) (rfl : v_sl 151 12 = .ref 158) ⟨rfl, rfl, by decide⟩) ?_
      refine s_ek_bk 4 (P := 15) (ls' := [(0, .ref 151), (1, .int p1), (2, .int p2), (3, .int v3)]) (st' := [.int v3, .ref 151, .int p2, .int v3, .ref 158]) (M' := v_mk s) rfl ?_
      obtain ⟨r102, s102, e102, h⟩ := v_bd h
      refine v_cV (ν := s_e215.1) (w := 1721) (a := 151) (as' := [.int v3]) (r := [.int p2, .int v3, .ref 158]) (o := some (.int r102)) (by omega) rfl rfl rfl (v_mk_kd (k := 11) (rfl : v_kd 151 = 11) (by decide)) rfl (t_Md_meaning e102 (by omega)) ?_
      show s_Ek (s_rows 3 L xs) D s_e221.1 18 [(0, .ref 151), (1, .int p1), (2, .int p2), (3, .int v3)] [.int r102, .int p2, .int v3, .ref 158] (v_mk s102) _
      obtain ⟨r103, s103, e103, h⟩ := v_bd h
      refine v_cS (ν := s_e220.1) (w := 1762) (as := [.int p2, .int r102]) (r := [.int v3, .ref 158]) (o := some (.int r103)) (by omega) rfl rfl rfl rfl (t_Md_wordIn e103 (by omega)) ?_
      show s_Ek (s_rows 3 L xs) D s_e221.1 21 [(0, .ref 151), (1, .int p1), (2, .int p2), (3, .int v3)] [.int r103, .int v3, .ref 158] (v_mk s103) _
      obtain ⟨c104, h⟩ := v_ck h
      obtain ⟨s105, es105, h⟩ := v_ld h
      refine v_ist (M' := v_mk s105) (i := v3) rfl (by rw [es105]; exact v_pai (rfl : v_kd 158 = 13) rfl (by decide) v_all13 (v_cn (rfl : v_ln 158 = 6) c104)) ?_
      refine s_ek_bk 2 (P := 2) (ls' := [(3, .int (v3 + 1)), (0, .ref 151), (1, .int p1), (2, .int p2)]) (st' := []) (M' := v_mk s105) rfl ?_
      refine v_ls (ls' := [(0, .ref 151), (1, .int p1), (2, .int p2), (3, .int (v3 + 1))]) ⟨rfl, rfl, rfl, rfl, trivial⟩ (show ([0, 1, 2, 3] : List Nat).Nodup from by decide) ?_
      exact ih _ _ h
set_option maxRecDepth 20000 in
set_option maxHeartbeats 4000000 in
theorem t_Md_doesSpeak {L : Nat} {xs : Nat → Int32} {b : Int32} {c : Int32} {D : Nat} {r : Int32} {s s' : vS} (h : f_Md_doesSpeak b c s = some (r, s')) (hD : 3 ≤ D) : s_Ek (s_rows 3 L xs) D s_e221.1 0 (lv_args 0 [.ref 151, .int b, .int c]) [] (v_mk s) (v_Q (some (.int r)) s') := by
  unfold f_Md_doesSpeak at h
  show s_Ek (s_rows 3 L xs) D s_e221.1 0 [(0, .ref 151), (1, .int b), (2, .int c)] [] (v_mk s) _
  refine s_ek_bk 2 (P := 2) (ls' := [(3, .int 0), (0, .ref 151), (1, .int b), (2, .int c)]) (st' := []) (M' := v_mk s) rfl ?_
  refine v_ls (ls' := [(0, .ref 151), (1, .int b), (2, .int c), (3, .int 0)]) ⟨rfl, rfl, rfl, rfl, trivial⟩ (show ([0, 1, 2, 3] : List Nat).Nodup from by decide) ?_
  refine t_Md_doesSpeak_L2 (by omega) (fun s1 h => ?_) 4096 _ _ h
  show s_Ek (s_rows 3 L xs) D s_e221.1 28 [(0, .ref 151), (1, .int b)] [] (v_mk s1) _
  refine s_ek_bk 1 (P := 29) (ls' := [(0, .ref 151), (1, .int b)]) (st' := [.ref 151]) (M' := v_mk s1) rfl ?_
  refine v_gf rfl (v_gr (rfl : v_kd 151 = 11) (rfl : v_sl 151 12 = .ref 158) ⟨rfl, rfl, by decide⟩) ?_
  refine s_ek_bk 2 (P := 34) (ls' := [(0, .ref 151), (1, .int b)]) (st' := [.ref 151, .int 3, .ref 158]) (M' := v_mk s1) rfl ?_
  refine v_gf rfl (v_gr (rfl : v_kd 151 = 11) (rfl : v_sl 151 15 = .ref 160) ⟨rfl, rfl, by decide⟩) ?_
  refine s_ek_bk 1 (P := 38) (ls' := [(0, .ref 151), (1, .int b)]) (st' := [.int b, .ref 160, .int 3, .ref 158]) (M' := v_mk s1) rfl ?_
  obtain ⟨c2, h⟩ := v_ck h
  refine v_ia (i := b) rfl (v_ai (rfl : v_kd 160 = 13) rfl (by decide) v_all13 (v_cn (rfl : v_ln 160 = 11) c2)) ?_
  obtain ⟨s3, es3, h⟩ := v_ld h
  refine v_ist (M' := v_mk s3) (i := 3) rfl (by rw [es3]; exact v_pai (rfl : v_kd 158 = 13) rfl (by decide) v_all13 (v_cn (rfl : v_ln 158 = 6) (by decide : v_in 3 6))) ?_
  refine s_ek_bk 1 (P := 41) (ls' := [(0, .ref 151), (1, .int b)]) (st' := [.ref 151]) (M' := v_mk s3) rfl ?_
  refine v_gf rfl (v_gr (rfl : v_kd 151 = 11) (rfl : v_sl 151 12 = .ref 158) ⟨rfl, rfl, by decide⟩) ?_
  refine s_ek_bk 2 (P := 46) (ls' := [(0, .ref 151), (1, .int b)]) (st' := [.ref 151, .int 4, .ref 158]) (M' := v_mk s3) rfl ?_
  refine v_gf rfl (v_gi (rfl : v_kd 151 = 11) rfl ⟨rfl, rfl, by decide⟩) ?_
  obtain ⟨s4, es4, h⟩ := v_ld h
  refine v_ist (M' := v_mk s4) (i := 4) rfl (by rw [es4]; exact v_pai (rfl : v_kd 158 = 13) rfl (by decide) v_all13 (v_cn (rfl : v_ln 158 = 6) (by decide : v_in 4 6))) ?_
  refine s_ek_bk 1 (P := 51) (ls' := [(0, .ref 151), (1, .int b)]) (st' := [.ref 151]) (M' := v_mk s4) rfl ?_
  refine v_gf rfl (v_gr (rfl : v_kd 151 = 11) (rfl : v_sl 151 12 = .ref 158) ⟨rfl, rfl, by decide⟩) ?_
  refine s_ek_bk 2 (P := 56) (ls' := [(0, .ref 151), (1, .int b)]) (st' := [.int b, .int 5, .ref 158]) (M' := v_mk s4) rfl ?_
  obtain ⟨s5, es5, h⟩ := v_ld h
  refine v_ist (M' := v_mk s5) (i := 5) rfl (by rw [es5]; exact v_pai (rfl : v_kd 158 = 13) rfl (by decide) v_all13 (v_cn (rfl : v_ln 158 = 6) (by decide : v_in 5 6))) ?_
  refine s_ek_bk 2 (P := 59) (ls' := [(0, .ref 151), (1, .int b)]) (st' := [.int b, .ref 151]) (M' := v_mk s5) rfl ?_
  obtain ⟨r6, s6, e6, h⟩ := v_bd h
  refine v_cV (ν := s_e200.1) (w := 1601) (a := 151) (as' := [.int b]) (r := []) (o := some (.int r6)) (by omega) rfl rfl rfl (v_mk_kd (k := 11) (rfl : v_kd 151 = 11) (by decide)) rfl (t_Md_gives e6 (by omega)) ?_
  show s_Ek (s_rows 3 L xs) D s_e221.1 62 [(0, .ref 151), (1, .int b)] [.int r6] (v_mk s6) _
  rcases v_if h with ⟨c7, h⟩ | ⟨c7, h⟩
  · refine v_i1t (T := 69) rfl rfl c7 ?_
    refine s_ek_bk 1 (P := 70) (ls' := [(0, .ref 151), (1, .int b)]) (st' := [.int 0]) (M' := v_mk s6) rfl ?_
    obtain ⟨rfl, rfl⟩ := v_so h
    exact v_ret (fun _ => rfl)
  · refine v_i1f (T := 69) rfl rfl c7 ?_
    refine s_ek_bk 2 (P := 70) (ls' := [(0, .ref 151), (1, .int b)]) (st' := [.int 1]) (M' := v_mk s6) rfl ?_
    obtain ⟨rfl, rfl⟩ := v_so h
    exact v_ret (fun _ => rfl)
noncomputable def f_Md_findSpeaks_L19b (p1 : Int32) (k72 : vS → Option (Unit × vS)) (again : Int32 → vS → Option (Unit × vS)) (v2 : Int32) (s : vS) : Option (Unit × vS) := (if 125 ≤ v2.toInt then (k72 s) else (v_bi (f_Md_doesSpeak p1 v2 s) (fun r305 s305 => (if v_in (((125 : Int32) * p1) + v2) 1375 then (v_let (v_w1 s305 171 (Int32.toNatClampNeg (((125 : Int32) * p1) + v2)) (vp_nar .boolean r305)) (fun s307 => (if v_in (((125 : Int32) * p1) + v2) 1375 then (if (s307.1 171 (Int32.toNatClampNeg (((125 : Int32) * p1) + v2))).toInt = 0 then (again (v2 + 1) s307) else (if v_in p1 11 then (if v_in p1 11 then (v_let (v_w1 s307 172 (Int32.toNatClampNeg p1) ((s307.1 172 (Int32.toNatClampNeg p1)) + (1 : Int32))) (fun s312 => (again (v2 + 1) s312))) else none) else none)) else none))) else none))))
noncomputable def f_Md_findSpeaks_L19 (p1 : Int32) (k72 : vS → Option (Unit × vS)) (n : Nat) : Int32 → vS → Option (Unit × vS) := Nat.rec (motive := fun _ => Int32 → vS → Option (Unit × vS)) (fun _ _ => none) (fun _ again => f_Md_findSpeaks_L19b p1 k72 again) n
noncomputable def f_Md_findSpeaks_L2b (k78 : vS → Option (Unit × vS)) (again : Int32 → vS → Option (Unit × vS)) (v1 : Int32) (s : vS) : Option (Unit × vS) := (if (s.1 151 14).toInt ≤ v1.toInt then (k78 s) else (if v_in v1 11 then (v_let (v_w1 s 172 (Int32.toNatClampNeg v1) 0) (fun s103 => (f_Md_findSpeaks_L19 v1 (fun s104 => (again (v1 + 1) s104)) 4096 0 s103))) else none))
noncomputable def f_Md_findSpeaks_L2 (k78 : vS → Option (Unit × vS)) (n : Nat) : Int32 → vS → Option (Unit × vS) := Nat.rec (motive := fun _ => Int32 → vS → Option (Unit × vS)) (fun _ _ => none) (fun _ again => f_Md_findSpeaks_L2b k78 again) n
noncomputable def f_Md_findSpeaks (s : vS) : Option (Unit × vS) := (f_Md_findSpeaks_L2 (fun s1 => (some ((), s1))) 4096 0 s)
set_option maxRecDepth 20000 in
set_option maxHeartbeats 4000000 in
theorem t_Md_findSpeaks_L19 {L : Nat} {xs : Nat → Int32} {p1 : Int32} {k72 : vS → Option (Unit × vS)} {D : Nat} (hD : 4 ≤ D) {r : Unit} {s' : vS} (hk72 : ∀ (s : vS), k72 s = some (r, s') → s_Ek (s_rows 3 L xs) D s_e222.1 72 [(0, .ref 151), (1, .int p1)] [] (v_mk s) (v_Q none s')) : ∀ (n : Nat) (v2 : Int32) (s : vS), f_Md_findSpeaks_L19 p1 k72 n v2 s = some (r, s') → s_Ek (s_rows 3 L xs) D s_e222.1 19 [(0, .ref 151), (1, .int p1), (2, .int v2)] [] (v_mk s) (v_Q none s') := by
  intro n
  induction n with
  | zero => intro v2 s h; exact nomatch (show (none : Option (Unit × vS)) = some (r, s') from h)
  | succ n ih =>
    intro v2 s h
    replace h : f_Md_findSpeaks_L19b p1 k72 (f_Md_findSpeaks_L19 p1 k72 n) v2 s = some (r, s') := h
    unfold f_Md_findSpeaks_L19b at h
    refine s_ek_bk 2 (P := 22) (ls' := [(0, .ref 151), (1, .int p1), (2, .int v2)]) (st' := [.int 125, .int v2]) (M' := v_mk s) rfl ?_
    rcases v_if h with ⟨c304, h⟩ | ⟨c304, h⟩
    · refine v_i2t (T := 72) rfl rfl c304 ?_
      refine v_ls (ls' := [(0, .ref 151), (1, .int p1)]) ⟨rfl, rfl, trivial⟩ (show ([0, 1] : List Nat).Nodup from by decide) ?_
      exact hk72 _ h
    · refine v_i2f (T := 72) rfl rfl c304 ?_
      refine s_ek_bk 1 (P := 26) (ls' := [(0, .ref 151), (1, .int p1), (2, .int v2)]) (st' := [.ref 151]) (M' := v_mk s) rfl ?_
      refine v_gf rfl (v_gr (rfl : v_kd 151 = 11) (rfl : v_sl 151 32 = .ref 171) ⟨rfl, rfl, by decide⟩) ?_
      refine s_ek_bk 8 (P := 38) (ls' := [(0, .ref 151), (1, .int p1), (2, .int v2)]) (st' := [.int v2, .int p1, .ref 151, .int (((125 : Int32) * p1) + v2), .ref 171]) (M' := v_mk s) rfl ?_
      obtain ⟨r305, s305, e305, h⟩ := v_bd h
      refine v_cV (ν := s_e221.1) (w := 1770) (a := 151) (as' := [.int p1, .int v2]) (r := [.int (((125 : Int32) * p1) + v2), .ref 171]) (o := some (.int r305)) (by omega) rfl rfl rfl (v_mk_kd (k := 11) (rfl : v_kd 151 = 11) (by decide)) rfl (t_Md_doesSpeak e305 (by omega)) ?_
      show s_Ek (s_rows 3 L xs) D s_e222.1 41 [(0, .ref 151), (1, .int p1), (2, .int v2)] [.int r305, .int (((125 : Int32) * p1) + v2), .ref 171] (v_mk s305) _
      obtain ⟨c306, h⟩ := v_ck h
      obtain ⟨s307, es307, h⟩ := v_ld h
      refine v_zst (M' := v_mk s307) (i := (((125 : Int32) * p1) + v2)) rfl (v_mk_kd (rfl : v_kd 171 = 16) (by decide)) (by rw [es307]; exact v_pai (rfl : v_kd 171 = 16) rfl (by decide) v_all16 (v_cn (rfl : v_ln 171 = 1375) c306)) ?_
      refine s_ek_bk 1 (P := 43) (ls' := [(0, .ref 151), (1, .int p1), (2, .int v2)]) (st' := [.ref 151]) (M' := v_mk s307) rfl ?_
      refine v_gf rfl (v_gr (rfl : v_kd 151 = 11) (rfl : v_sl 151 32 = .ref 171) ⟨rfl, rfl, by decide⟩) ?_
      refine s_ek_bk 5 (P := 52) (ls' := [(0, .ref 151), (1, .int p1), (2, .int v2)]) (st' := [.int (((125 : Int32) * p1) + v2), .ref 171]) (M' := v_mk s307) rfl ?_
      obtain ⟨c308, h⟩ := v_ck h
      refine v_ba (i := (((125 : Int32) * p1) + v2)) rfl (v_ai (rfl : v_kd 171 = 16) rfl (by decide) v_all16 (v_cn (rfl : v_ln 171 = 1375) c308)) ?_
      rcases v_if h with ⟨c309, h⟩ | ⟨c309, h⟩
      · refine v_i1t (T := 66) rfl rfl c309 ?_
        refine s_ek_bk 2 (P := 19) (ls' := [(2, .int (v2 + 1)), (0, .ref 151), (1, .int p1)]) (st' := []) (M' := v_mk s307) rfl ?_
        refine v_ls (ls' := [(0, .ref 151), (1, .int p1), (2, .int (v2 + 1))]) ⟨rfl, rfl, rfl, trivial⟩ (show ([0, 1, 2] : List Nat).Nodup from by decide) ?_
        exact ih _ _ h
      · refine v_i1f (T := 66) rfl rfl c309 ?_
        refine s_ek_bk 1 (P := 57) (ls' := [(0, .ref 151), (1, .int p1), (2, .int v2)]) (st' := [.ref 151]) (M' := v_mk s307) rfl ?_
        refine v_gf rfl (v_gr (rfl : v_kd 151 = 11) (rfl : v_sl 151 33 = .ref 172) ⟨rfl, rfl, by decide⟩) ?_
        refine s_ek_bk 2 (P := 62) (ls' := [(0, .ref 151), (1, .int p1), (2, .int v2)]) (st' := [.int p1, .ref 172, .int p1, .ref 172]) (M' := v_mk s307) rfl ?_
        obtain ⟨c310, h⟩ := v_ck h
        refine v_ia (i := p1) rfl (v_ai (rfl : v_kd 172 = 13) rfl (by decide) v_all13 (v_cn (rfl : v_ln 172 = 11) c310)) ?_
        refine s_ek_bk 2 (P := 65) (ls' := [(0, .ref 151), (1, .int p1), (2, .int v2)]) (st' := [.int ((s307.1 172 (Int32.toNatClampNeg p1)) + (1 : Int32)), .int p1, .ref 172]) (M' := v_mk s307) rfl ?_
        obtain ⟨c311, h⟩ := v_ck h
        obtain ⟨s312, es312, h⟩ := v_ld h
        refine v_ist (M' := v_mk s312) (i := p1) rfl (by rw [es312]; exact v_pai (rfl : v_kd 172 = 13) rfl (by decide) v_all13 (v_cn (rfl : v_ln 172 = 11) c311)) ?_
        refine s_ek_bk 2 (P := 19) (ls' := [(2, .int (v2 + 1)), (0, .ref 151), (1, .int p1)]) (st' := []) (M' := v_mk s312) rfl ?_
        refine v_ls (ls' := [(0, .ref 151), (1, .int p1), (2, .int (v2 + 1))]) ⟨rfl, rfl, rfl, trivial⟩ (show ([0, 1, 2] : List Nat).Nodup from by decide) ?_
        exact ih _ _ h
set_option maxRecDepth 20000 in
set_option maxHeartbeats 4000000 in
theorem t_Md_findSpeaks_L2 {L : Nat} {xs : Nat → Int32} {k78 : vS → Option (Unit × vS)} {D : Nat} (hD : 4 ≤ D) {r : Unit} {s' : vS} (hk78 : ∀ (s : vS), k78 s = some (r, s') → s_Ek (s_rows 3 L xs) D s_e222.1 78 [] [] (v_mk s) (v_Q none s')) : ∀ (n : Nat) (v1 : Int32) (s : vS), f_Md_findSpeaks_L2 k78 n v1 s = some (r, s') → s_Ek (s_rows 3 L xs) D s_e222.1 2 [(0, .ref 151), (1, .int v1)] [] (v_mk s) (v_Q none s') := by
  intro n
  induction n with
  | zero => intro v1 s h; exact nomatch (show (none : Option (Unit × vS)) = some (r, s') from h)
  | succ n ih =>
    intro v1 s h
    replace h : f_Md_findSpeaks_L2b k78 (f_Md_findSpeaks_L2 k78 n) v1 s = some (r, s') := h
    unfold f_Md_findSpeaks_L2b at h
    refine s_ek_bk 2 (P := 4) (ls' := [(0, .ref 151), (1, .int v1)]) (st' := [.ref 151, .int v1]) (M' := v_mk s) rfl ?_
    refine v_gf rfl (v_gi (rfl : v_kd 151 = 11) rfl ⟨rfl, rfl, by decide⟩) ?_
    rcases v_if h with ⟨c101, h⟩ | ⟨c101, h⟩
    · refine v_i2t (T := 78) rfl rfl c101 ?_
      refine v_ls (ls' := []) trivial (show ([] : List Nat).Nodup from by decide) ?_
      exact hk78 _ h
    · refine v_i2f (T := 78) rfl rfl c101 ?_
      refine s_ek_bk 1 (P := 11) (ls' := [(0, .ref 151), (1, .int v1)]) (st' := [.ref 151]) (M' := v_mk s) rfl ?_
      refine v_gf rfl (v_gr (rfl : v_kd 151 = 11) (rfl : v_sl 151 33 = .ref 172) ⟨rfl, rfl, by decide⟩) ?_
      refine s_ek_bk 2 (P := 16) (ls' := [(0, .ref 151), (1, .int v1)]) (st' := [.int 0, .int v1, .ref 172]) (M' := v_mk s) rfl ?_
      obtain ⟨c102, h⟩ := v_ck h
      obtain ⟨s103, es103, h⟩ := v_ld h
      refine v_ist (M' := v_mk s103) (i := v1) rfl (by rw [es103]; exact v_pai (rfl : v_kd 172 = 13) rfl (by decide) v_all13 (v_cn (rfl : v_ln 172 = 11) c102)) ?_
      refine s_ek_bk 2 (P := 19) (ls' := [(2, .int 0), (0, .ref 151), (1, .int v1)]) (st' := []) (M' := v_mk s103) rfl ?_
      refine v_ls (ls' := [(0, .ref 151), (1, .int v1), (2, .int 0)]) ⟨rfl, rfl, rfl, trivial⟩ (show ([0, 1, 2] : List Nat).Nodup from by decide) ?_
      refine t_Md_findSpeaks_L19 (by omega) (fun s104 h => ?_) 4096 _ _ h
      show s_Ek (s_rows 3 L xs) D s_e222.1 72 [(0, .ref 151), (1, .int v1)] [] (v_mk s104) _
      refine s_ek_bk 2 (P := 2) (ls' := [(1, .int (v1 + 1)), (0, .ref 151)]) (st' := []) (M' := v_mk s104) rfl ?_
      refine v_ls (ls' := [(0, .ref 151), (1, .int (v1 + 1))]) ⟨rfl, rfl, trivial⟩ (show ([0, 1] : List Nat).Nodup from by decide) ?_
      exact ih _ _ h
set_option maxRecDepth 20000 in
set_option maxHeartbeats 4000000 in
theorem t_Md_findSpeaks {L : Nat} {xs : Nat → Int32} {D : Nat} {r : Unit} {s s' : vS} (h : f_Md_findSpeaks s = some (r, s')) (hD : 4 ≤ D) : s_Ek (s_rows 3 L xs) D s_e222.1 0 (lv_args 0 [.ref 151]) [] (v_mk s) (v_Q none s') := by
  unfold f_Md_findSpeaks at h
  show s_Ek (s_rows 3 L xs) D s_e222.1 0 [(0, .ref 151)] [] (v_mk s) _
  refine s_ek_bk 2 (P := 2) (ls' := [(1, .int 0), (0, .ref 151)]) (st' := []) (M' := v_mk s) rfl ?_
  refine v_ls (ls' := [(0, .ref 151), (1, .int 0)]) ⟨rfl, rfl, trivial⟩ (show ([0, 1] : List Nat).Nodup from by decide) ?_
  refine t_Md_findSpeaks_L2 (by omega) (fun s1 h => ?_) 4096 _ _ h
  show s_Ek (s_rows 3 L xs) D s_e222.1 78 [] [] (v_mk s1) _
  obtain ⟨rfl, rfl⟩ := v_so h
  exact v_ret (fun _ => rfl)
noncomputable def f_Md_findAll (s : vS) : Option (Unit × vS) := (v_bi (f_Md_findSpeaks s) (fun _ s1 => (v_bi (f_Md_findStands 0 (-1) s1) (fun _ s2 => (some ((), s2))))))
set_option maxRecDepth 20000 in
set_option maxHeartbeats 4000000 in
theorem t_Md_findAll {L : Nat} {xs : Nat → Int32} {D : Nat} {r : Unit} {s s' : vS} (h : f_Md_findAll s = some (r, s')) (hD : 5 ≤ D) : s_Ek (s_rows 3 L xs) D s_e223.1 0 (lv_args 0 [.ref 151]) [] (v_mk s) (v_Q none s') := by
  unfold f_Md_findAll at h
  show s_Ek (s_rows 3 L xs) D s_e223.1 0 [(0, .ref 151)] [] (v_mk s) _
  refine s_ek_bk 1 (P := 1) (ls' := [(0, .ref 151)]) (st' := [.ref 151]) (M' := v_mk s) rfl ?_
  obtain ⟨r1, s1, e1, h⟩ := v_bd h
  refine v_cV (ν := s_e222.1) (w := 1776) (a := 151) (as' := []) (r := []) (o := none) (by omega) rfl rfl rfl (v_mk_kd (k := 11) (rfl : v_kd 151 = 11) (by decide)) rfl (t_Md_findSpeaks e1 (by omega)) ?_
  show s_Ek (s_rows 3 L xs) D s_e223.1 4 [(0, .ref 151)] [] (v_mk s1) _
  refine s_ek_bk 3 (P := 7) (ls' := [(0, .ref 151)]) (st' := [.int (-1), .int 0, .ref 151]) (M' := v_mk s1) rfl ?_
  obtain ⟨r2, s2, e2, h⟩ := v_bd h
  refine v_cV (ν := s_e219.1) (w := 1754) (a := 151) (as' := [.int 0, .int (-1)]) (r := []) (o := none) (by omega) rfl rfl rfl (v_mk_kd (k := 11) (rfl : v_kd 151 = 11) (by decide)) rfl (t_Md_findStands e2 (by omega)) ?_
  show s_Ek (s_rows 3 L xs) D s_e223.1 10 [(0, .ref 151)] [] (v_mk s2) _
  obtain ⟨rfl, rfl⟩ := v_so h
  exact v_ret (fun _ => rfl)
