/-! functions over the store, and the runs that they stand for: Md_readText Md_twoOf Md_worked Md_gives -/
noncomputable def f_Md_readText_L32b (p1 : Int32) (k65 : vS → Option (Int32 × vS)) (again : vS → Option (Int32 × vS)) (s : vS) : Option (Int32 × vS) := (if 0 ≤ (s.1 151 4).toInt then (k65 s) else (v_bi (f_Md_look s) (fun r108 s108 => (if r108.toInt = 59 then (v_let (v_w1 s108 151 3 ((s108.1 151 3) + (1 : Int32))) (fun s110 => (v_bi (f_Md_line s110) (fun _ s111 => (again s111))))) else (k65 s108)))))
noncomputable def f_Md_readText_L32 (p1 : Int32) (k65 : vS → Option (Int32 × vS)) (n : Nat) : vS → Option (Int32 × vS) := Nat.rec (motive := fun _ => vS → Option (Int32 × vS)) (fun _ => none) (fun _ again => f_Md_readText_L32b p1 k65 again) n
noncomputable def f_Md_readText_L106b (p1 : Int32) (k164 : vS → Option (Int32 × vS)) (again : Int32 → vS → Option (Int32 × vS)) (v2 : Int32) (s : vS) : Option (Int32 × vS) := (if (s.1 151 6).toInt ≤ v2.toInt then (k164 s) else (if v_in ((1300 : Int32) + v2) 1430 then (if v_in (((130 : Int32) * p1) + v2) 1430 then (v_let (v_w1 s 153 (Int32.toNatClampNeg (((130 : Int32) * p1) + v2)) (vp_nar .byte (s.1 153 (Int32.toNatClampNeg ((1300 : Int32) + v2))))) (fun s214 => (if v_in ((1300 : Int32) + v2) 1430 then (if v_in (((130 : Int32) * p1) + v2) 1430 then (v_let (v_w1 s214 154 (Int32.toNatClampNeg (((130 : Int32) * p1) + v2)) (s214.1 154 (Int32.toNatClampNeg ((1300 : Int32) + v2)))) (fun s217 => (again (v2 + 1) s217))) else none) else none))) else none) else none))
noncomputable def f_Md_readText_L106 (p1 : Int32) (k164 : vS → Option (Int32 × vS)) (n : Nat) : Int32 → vS → Option (Int32 × vS) := Nat.rec (motive := fun _ => Int32 → vS → Option (Int32 × vS)) (fun _ _ => none) (fun _ again => f_Md_readText_L106b p1 k164 again) n
noncomputable def f_Md_readText_L179b (p1 : Int32) (k237 : vS → Option (Int32 × vS)) (again : Int32 → vS → Option (Int32 × vS)) (v2 : Int32) (s : vS) : Option (Int32 × vS) := (if v_in p1 11 then (if (s.1 155 (Int32.toNatClampNeg p1)).toInt ≤ v2.toInt then (k237 s) else (if v_in ((610 : Int32) + v2) 671 then (if v_in (((61 : Int32) * p1) + v2) 671 then (v_let (v_w1 s 156 (Int32.toNatClampNeg (((61 : Int32) * p1) + v2)) (vp_nar .short (s.1 156 (Int32.toNatClampNeg ((610 : Int32) + v2))))) (fun s318 => (if v_in ((610 : Int32) + v2) 671 then (if v_in (((61 : Int32) * p1) + v2) 671 then (v_let (v_w1 s318 157 (Int32.toNatClampNeg (((61 : Int32) * p1) + v2)) (vp_nar .short (s318.1 157 (Int32.toNatClampNeg ((610 : Int32) + v2))))) (fun s321 => (again (v2 + 1) s321))) else none) else none))) else none) else none)) else none)
noncomputable def f_Md_readText_L179 (p1 : Int32) (k237 : vS → Option (Int32 × vS)) (n : Nat) : Int32 → vS → Option (Int32 × vS) := Nat.rec (motive := fun _ => Int32 → vS → Option (Int32 × vS)) (fun _ _ => none) (fun _ again => f_Md_readText_L179b p1 k237 again) n
noncomputable def f_Md_readText (b : Int32) (s : vS) : Option (Int32 × vS) := (v_let (v_w1 s 151 3 0) (fun s1 => (v_let (v_w1 s1 151 4 (-1)) (fun s2 => (v_let (v_w1 s2 151 5 0) (fun s3 => (v_let (v_w1 s3 151 6 0) (fun s4 => (v_let (v_w1 s4 155 10 0) (fun s5 => (v_bi (f_Md_line s5) (fun _ s6 => (f_Md_readText_L32 b (fun s7 => (if 0 ≤ (s7.1 151 4).toInt then (v_let (v_w1 s7 151 2 0) (fun s9 => (if (s9.1 151 4).toInt < 0 then (f_Md_readText_L106 b (fun s11 => (if v_in b 11 then (v_let (v_w1 s11 155 (Int32.toNatClampNeg b) (s11.1 155 10)) (fun s13 => (f_Md_readText_L179 b (fun s14 => (some ((-1), s14))) 4096 0 s13))) else none)) 4096 0 s9) else (some ((s9.1 151 4), s9))))) else (if (s7.1 151 2).toInt ≤ (s7.1 151 3).toInt then (v_let (v_w1 s7 151 2 0) (fun s16 => (if (s16.1 151 4).toInt < 0 then (f_Md_readText_L106 b (fun s18 => (if v_in b 11 then (v_let (v_w1 s18 155 (Int32.toNatClampNeg b) (s18.1 155 10)) (fun s20 => (f_Md_readText_L179 b (fun s21 => (some ((-1), s21))) 4096 0 s20))) else none)) 4096 0 s16) else (some ((s16.1 151 4), s16))))) else (v_bi (f_Md_faulty s7) (fun _ s22 => (v_let (v_w1 s22 151 2 0) (fun s23 => (if (s23.1 151 4).toInt < 0 then (f_Md_readText_L106 b (fun s25 => (if v_in b 11 then (v_let (v_w1 s25 155 (Int32.toNatClampNeg b) (s25.1 155 10)) (fun s27 => (f_Md_readText_L179 b (fun s28 => (some ((-1), s28))) 4096 0 s27))) else none)) 4096 0 s23) else (some ((s23.1 151 4), s23)))))))))) 4096 s6)))))))))))))
set_option maxRecDepth 20000 in
set_option maxHeartbeats 4000000 in
theorem t_Md_readText_L32 {L : Nat} {xs : Nat → Int32} {p1 : Int32} {k65 : vS → Option (Int32 × vS)} {D : Nat} (hD : 391 ≤ D) {r : Int32} {s' : vS} (hk65 : ∀ (s : vS), k65 s = some (r, s') → s_Ek (s_rows 3 L xs) D s_e197.1 65 [(0, .ref 151), (1, .int p1)] [] (v_mk s) (v_Q (some (.int r)) s')) : ∀ (n : Nat) (s : vS), f_Md_readText_L32 p1 k65 n s = some (r, s') → s_Ek (s_rows 3 L xs) D s_e197.1 32 [(0, .ref 151), (1, .int p1)] [] (v_mk s) (v_Q (some (.int r)) s') := by
  intro n
  induction n with
  | zero => intro s h; exact nomatch (show (none : Option (Int32 × vS)) = some (r, s') from h)
  | succ n ih =>
    intro s h
    replace h : f_Md_readText_L32b p1 k65 (f_Md_readText_L32 p1 k65 n) s = some (r, s') := h
    unfold f_Md_readText_L32b at h
    refine s_ek_bk 1 (P := 33) (ls' := [(0, .ref 151), (1, .int p1)]) (st' := [.ref 151]) (M' := v_mk s) rfl ?_
    refine v_gf rfl (v_gi (rfl : v_kd 151 = 11) rfl ⟨rfl, rfl, by decide⟩) ?_
    rcases v_if h with ⟨c107, h⟩ | ⟨c107, h⟩
    · refine v_i1t (T := 65) rfl rfl c107 ?_
      refine v_ls (ls' := [(0, .ref 151), (1, .int p1)]) ⟨rfl, rfl, trivial⟩ (show ([0, 1] : List Nat).Nodup from by decide) ?_
      exact hk65 _ h
    · refine v_i1f (T := 65) rfl rfl c107 ?_
      refine s_ek_bk 1 (P := 40) (ls' := [(0, .ref 151), (1, .int p1)]) (st' := [.ref 151]) (M' := v_mk s) rfl ?_
      obtain ⟨r108, s108, e108, h⟩ := v_bd h
      refine v_cV (ν := s_e184.1) (w := 1472) (a := 151) (as' := []) (r := []) (o := some (.int r108)) (by omega) rfl rfl rfl (v_mk_kd (k := 11) (rfl : v_kd 151 = 11) (by decide)) rfl (t_Md_look e108 (by omega)) ?_
      show s_Ek (s_rows 3 L xs) D s_e197.1 43 [(0, .ref 151), (1, .int p1)] [.int r108] (v_mk s108) _
      refine s_ek_bk 1 (P := 45) (ls' := [(0, .ref 151), (1, .int p1)]) (st' := [.int 59, .int r108]) (M' := v_mk s108) rfl ?_
      rcases v_if h with ⟨c109, h⟩ | ⟨c109, h⟩
      · refine v_i2f (T := 65) rfl rfl (fun q => q c109) ?_
        refine s_ek_bk 2 (P := 50) (ls' := [(0, .ref 151), (1, .int p1)]) (st' := [.ref 151, .ref 151]) (M' := v_mk s108) rfl ?_
        refine v_gf rfl (v_gi (rfl : v_kd 151 = 11) rfl ⟨rfl, rfl, by decide⟩) ?_
        refine s_ek_bk 2 (P := 55) (ls' := [(0, .ref 151), (1, .int p1)]) (st' := [.int ((s108.1 151 3) + (1 : Int32)), .ref 151]) (M' := v_mk s108) rfl ?_
        obtain ⟨s110, es110, h⟩ := v_ld h
        refine v_pf (M' := v_mk s110) rfl (by rw [es110]; exact v_pi (rfl : v_kd 151 = 11) rfl ⟨rfl, rfl, by decide⟩ rfl) ?_
        refine s_ek_bk 1 (P := 59) (ls' := [(0, .ref 151), (1, .int p1)]) (st' := [.ref 151]) (M' := v_mk s110) rfl ?_
        obtain ⟨r111, s111, e111, h⟩ := v_bd h
        refine v_cV (ν := s_e196.1) (w := 1568) (a := 151) (as' := []) (r := []) (o := none) (by omega) rfl rfl rfl (v_mk_kd (k := 11) (rfl : v_kd 151 = 11) (by decide)) rfl (t_Md_line e111 (by omega)) ?_
        show s_Ek (s_rows 3 L xs) D s_e197.1 62 [(0, .ref 151), (1, .int p1)] [] (v_mk s111) _
        refine s_ek_bk 1 (P := 32) (ls' := [(0, .ref 151), (1, .int p1)]) (st' := []) (M' := v_mk s111) rfl ?_
        refine v_ls (ls' := [(0, .ref 151), (1, .int p1)]) ⟨rfl, rfl, trivial⟩ (show ([0, 1] : List Nat).Nodup from by decide) ?_
        exact ih _ h
      · refine v_i2t (T := 65) rfl rfl c109 ?_
        refine v_ls (ls' := [(0, .ref 151), (1, .int p1)]) ⟨rfl, rfl, trivial⟩ (show ([0, 1] : List Nat).Nodup from by decide) ?_
        exact hk65 _ h
set_option maxRecDepth 20000 in
set_option maxHeartbeats 4000000 in
theorem t_Md_readText_L106 {L : Nat} {xs : Nat → Int32} {p1 : Int32} {k164 : vS → Option (Int32 × vS)} {D : Nat} (hD : 391 ≤ D) {r : Int32} {s' : vS} (hk164 : ∀ (s : vS), k164 s = some (r, s') → s_Ek (s_rows 3 L xs) D s_e197.1 164 [(0, .ref 151), (1, .int p1)] [] (v_mk s) (v_Q (some (.int r)) s')) : ∀ (n : Nat) (v2 : Int32) (s : vS), f_Md_readText_L106 p1 k164 n v2 s = some (r, s') → s_Ek (s_rows 3 L xs) D s_e197.1 106 [(0, .ref 151), (1, .int p1), (2, .int v2)] [] (v_mk s) (v_Q (some (.int r)) s') := by
  intro n
  induction n with
  | zero => intro v2 s h; exact nomatch (show (none : Option (Int32 × vS)) = some (r, s') from h)
  | succ n ih =>
    intro v2 s h
    replace h : f_Md_readText_L106b p1 k164 (f_Md_readText_L106 p1 k164 n) v2 s = some (r, s') := h
    unfold f_Md_readText_L106b at h
    refine s_ek_bk 2 (P := 108) (ls' := [(0, .ref 151), (1, .int p1), (2, .int v2)]) (st' := [.ref 151, .int v2]) (M' := v_mk s) rfl ?_
    refine v_gf rfl (v_gi (rfl : v_kd 151 = 11) rfl ⟨rfl, rfl, by decide⟩) ?_
    rcases v_if h with ⟨c211, h⟩ | ⟨c211, h⟩
    · refine v_i2t (T := 164) rfl rfl c211 ?_
      refine v_ls (ls' := [(0, .ref 151), (1, .int p1)]) ⟨rfl, rfl, trivial⟩ (show ([0, 1] : List Nat).Nodup from by decide) ?_
      exact hk164 _ h
    · refine v_i2f (T := 164) rfl rfl c211 ?_
      refine s_ek_bk 1 (P := 115) (ls' := [(0, .ref 151), (1, .int p1), (2, .int v2)]) (st' := [.ref 151]) (M' := v_mk s) rfl ?_
      refine v_gf rfl (v_gr (rfl : v_kd 151 = 11) (rfl : v_sl 151 7 = .ref 153) ⟨rfl, rfl, by decide⟩) ?_
      refine s_ek_bk 6 (P := 126) (ls' := [(0, .ref 151), (1, .int p1), (2, .int v2)]) (st' := [.ref 151, .int (((130 : Int32) * p1) + v2), .ref 153]) (M' := v_mk s) rfl ?_
      refine v_gf rfl (v_gr (rfl : v_kd 151 = 11) (rfl : v_sl 151 7 = .ref 153) ⟨rfl, rfl, by decide⟩) ?_
      refine s_ek_bk 3 (P := 134) (ls' := [(0, .ref 151), (1, .int p1), (2, .int v2)]) (st' := [.int ((1300 : Int32) + v2), .ref 153, .int (((130 : Int32) * p1) + v2), .ref 153]) (M' := v_mk s) rfl ?_
      obtain ⟨c212, h⟩ := v_ck h
      refine v_ba (i := ((1300 : Int32) + v2)) rfl (v_ai (rfl : v_kd 153 = 12) rfl (by decide) v_all12 (v_cn (rfl : v_ln 153 = 1430) c212)) ?_
      obtain ⟨c213, h⟩ := v_ck h
      obtain ⟨s214, es214, h⟩ := v_ld h
      refine v_bst (M' := v_mk s214) (i := (((130 : Int32) * p1) + v2)) rfl (v_mk_kd (rfl : v_kd 153 = 12) (by decide)) (by rw [es214]; exact v_pai (rfl : v_kd 153 = 12) rfl (by decide) v_all12 (v_cn (rfl : v_ln 153 = 1430) c213)) ?_
      refine s_ek_bk 1 (P := 137) (ls' := [(0, .ref 151), (1, .int p1), (2, .int v2)]) (st' := [.ref 151]) (M' := v_mk s214) rfl ?_
      refine v_gf rfl (v_gr (rfl : v_kd 151 = 11) (rfl : v_sl 151 8 = .ref 154) ⟨rfl, rfl, by decide⟩) ?_
      refine s_ek_bk 6 (P := 148) (ls' := [(0, .ref 151), (1, .int p1), (2, .int v2)]) (st' := [.ref 151, .int (((130 : Int32) * p1) + v2), .ref 154]) (M' := v_mk s214) rfl ?_
      refine v_gf rfl (v_gr (rfl : v_kd 151 = 11) (rfl : v_sl 151 8 = .ref 154) ⟨rfl, rfl, by decide⟩) ?_
      refine s_ek_bk 3 (P := 156) (ls' := [(0, .ref 151), (1, .int p1), (2, .int v2)]) (st' := [.int ((1300 : Int32) + v2), .ref 154, .int (((130 : Int32) * p1) + v2), .ref 154]) (M' := v_mk s214) rfl ?_
      obtain ⟨c215, h⟩ := v_ck h
      refine v_ia (i := ((1300 : Int32) + v2)) rfl (v_ai (rfl : v_kd 154 = 13) rfl (by decide) v_all13 (v_cn (rfl : v_ln 154 = 1430) c215)) ?_
      obtain ⟨c216, h⟩ := v_ck h
      obtain ⟨s217, es217, h⟩ := v_ld h
      refine v_ist (M' := v_mk s217) (i := (((130 : Int32) * p1) + v2)) rfl (by rw [es217]; exact v_pai (rfl : v_kd 154 = 13) rfl (by decide) v_all13 (v_cn (rfl : v_ln 154 = 1430) c216)) ?_
      refine s_ek_bk 2 (P := 106) (ls' := [(2, .int (v2 + 1)), (0, .ref 151), (1, .int p1)]) (st' := []) (M' := v_mk s217) rfl ?_
      refine v_ls (ls' := [(0, .ref 151), (1, .int p1), (2, .int (v2 + 1))]) ⟨rfl, rfl, rfl, trivial⟩ (show ([0, 1, 2] : List Nat).Nodup from by decide) ?_
      exact ih _ _ h
set_option maxRecDepth 20000 in
set_option maxHeartbeats 4000000 in
theorem t_Md_readText_L179 {L : Nat} {xs : Nat → Int32} {p1 : Int32} {k237 : vS → Option (Int32 × vS)} {D : Nat} (hD : 391 ≤ D) {r : Int32} {s' : vS} (hk237 : ∀ (s : vS), k237 s = some (r, s') → s_Ek (s_rows 3 L xs) D s_e197.1 237 [] [] (v_mk s) (v_Q (some (.int r)) s')) : ∀ (n : Nat) (v2 : Int32) (s : vS), f_Md_readText_L179 p1 k237 n v2 s = some (r, s') → s_Ek (s_rows 3 L xs) D s_e197.1 179 [(0, .ref 151), (1, .int p1), (2, .int v2)] [] (v_mk s) (v_Q (some (.int r)) s') := by
  intro n
  induction n with
  | zero => intro v2 s h; exact nomatch (show (none : Option (Int32 × vS)) = some (r, s') from h)
  | succ n ih =>
    intro v2 s h
    replace h : f_Md_readText_L179b p1 k237 (f_Md_readText_L179 p1 k237 n) v2 s = some (r, s') := h
    unfold f_Md_readText_L179b at h
    refine s_ek_bk 2 (P := 181) (ls' := [(0, .ref 151), (1, .int p1), (2, .int v2)]) (st' := [.ref 151, .int v2]) (M' := v_mk s) rfl ?_
    refine v_gf rfl (v_gr (rfl : v_kd 151 = 11) (rfl : v_sl 151 9 = .ref 155) ⟨rfl, rfl, by decide⟩) ?_
    refine s_ek_bk 1 (P := 185) (ls' := [(0, .ref 151), (1, .int p1), (2, .int v2)]) (st' := [.int p1, .ref 155, .int v2]) (M' := v_mk s) rfl ?_
    obtain ⟨c314, h⟩ := v_ck h
    refine v_ia (i := p1) rfl (v_ai (rfl : v_kd 155 = 13) rfl (by decide) v_all13 (v_cn (rfl : v_ln 155 = 11) c314)) ?_
    rcases v_if h with ⟨c315, h⟩ | ⟨c315, h⟩
    · refine v_i2t (T := 237) rfl rfl c315 ?_
      refine v_ls (ls' := []) trivial (show ([] : List Nat).Nodup from by decide) ?_
      exact hk237 _ h
    · refine v_i2f (T := 237) rfl rfl c315 ?_
      refine s_ek_bk 1 (P := 190) (ls' := [(0, .ref 151), (1, .int p1), (2, .int v2)]) (st' := [.ref 151]) (M' := v_mk s) rfl ?_
      refine v_gf rfl (v_gr (rfl : v_kd 151 = 11) (rfl : v_sl 151 10 = .ref 156) ⟨rfl, rfl, by decide⟩) ?_
      refine s_ek_bk 6 (P := 200) (ls' := [(0, .ref 151), (1, .int p1), (2, .int v2)]) (st' := [.ref 151, .int (((61 : Int32) * p1) + v2), .ref 156]) (M' := v_mk s) rfl ?_
      refine v_gf rfl (v_gr (rfl : v_kd 151 = 11) (rfl : v_sl 151 10 = .ref 156) ⟨rfl, rfl, by decide⟩) ?_
      refine s_ek_bk 3 (P := 208) (ls' := [(0, .ref 151), (1, .int p1), (2, .int v2)]) (st' := [.int ((610 : Int32) + v2), .ref 156, .int (((61 : Int32) * p1) + v2), .ref 156]) (M' := v_mk s) rfl ?_
      obtain ⟨c316, h⟩ := v_ck h
      refine v_sa (i := ((610 : Int32) + v2)) rfl (v_ai (rfl : v_kd 156 = 15) rfl (by decide) v_all15 (v_cn (rfl : v_ln 156 = 671) c316)) ?_
      obtain ⟨c317, h⟩ := v_ck h
      obtain ⟨s318, es318, h⟩ := v_ld h
      refine v_sst (M' := v_mk s318) (i := (((61 : Int32) * p1) + v2)) rfl (by rw [es318]; exact v_pai (rfl : v_kd 156 = 15) rfl (by decide) v_all15 (v_cn (rfl : v_ln 156 = 671) c317)) ?_
      refine s_ek_bk 1 (P := 211) (ls' := [(0, .ref 151), (1, .int p1), (2, .int v2)]) (st' := [.ref 151]) (M' := v_mk s318) rfl ?_
      refine v_gf rfl (v_gr (rfl : v_kd 151 = 11) (rfl : v_sl 151 11 = .ref 157) ⟨rfl, rfl, by decide⟩) ?_
      refine s_ek_bk 6 (P := 221) (ls' := [(0, .ref 151), (1, .int p1), (2, .int v2)]) (st' := [.ref 151, .int (((61 : Int32) * p1) + v2), .ref 157]) (M' := v_mk s318) rfl ?_
      refine v_gf rfl (v_gr (rfl : v_kd 151 = 11) (rfl : v_sl 151 11 = .ref 157) ⟨rfl, rfl, by decide⟩) ?_
      refine s_ek_bk 3 (P := 229) (ls' := [(0, .ref 151), (1, .int p1), (2, .int v2)]) (st' := [.int ((610 : Int32) + v2), .ref 157, .int (((61 : Int32) * p1) + v2), .ref 157]) (M' := v_mk s318) rfl ?_
      obtain ⟨c319, h⟩ := v_ck h
      refine v_sa (i := ((610 : Int32) + v2)) rfl (v_ai (rfl : v_kd 157 = 15) rfl (by decide) v_all15 (v_cn (rfl : v_ln 157 = 671) c319)) ?_
      obtain ⟨c320, h⟩ := v_ck h
      obtain ⟨s321, es321, h⟩ := v_ld h
      refine v_sst (M' := v_mk s321) (i := (((61 : Int32) * p1) + v2)) rfl (by rw [es321]; exact v_pai (rfl : v_kd 157 = 15) rfl (by decide) v_all15 (v_cn (rfl : v_ln 157 = 671) c320)) ?_
      refine s_ek_bk 2 (P := 179) (ls' := [(2, .int (v2 + 1)), (0, .ref 151), (1, .int p1)]) (st' := []) (M' := v_mk s321) rfl ?_
      refine v_ls (ls' := [(0, .ref 151), (1, .int p1), (2, .int (v2 + 1))]) ⟨rfl, rfl, rfl, trivial⟩ (show ([0, 1, 2] : List Nat).Nodup from by decide) ?_
      exact ih _ _ h
set_option maxRecDepth 20000 in
set_option maxHeartbeats 4000000 in
theorem t_Md_readText {L : Nat} {xs : Nat → Int32} {b : Int32} {D : Nat} {r : Int32} {s s' : vS} (h : f_Md_readText b s = some (r, s')) (hD : 391 ≤ D) : s_Ek (s_rows 3 L xs) D s_e197.1 0 (lv_args 0 [.ref 151, .int b]) [] (v_mk s) (v_Q (some (.int r)) s') := by
  unfold f_Md_readText at h
  show s_Ek (s_rows 3 L xs) D s_e197.1 0 [(0, .ref 151), (1, .int b)] [] (v_mk s) _
  refine s_ek_bk 2 (P := 2) (ls' := [(0, .ref 151), (1, .int b)]) (st' := [.int 0, .ref 151]) (M' := v_mk s) rfl ?_
  obtain ⟨s1, es1, h⟩ := v_ld h
  refine v_pf (M' := v_mk s1) rfl (by rw [es1]; exact v_pi (rfl : v_kd 151 = 11) rfl ⟨rfl, rfl, by decide⟩ rfl) ?_
  refine s_ek_bk 2 (P := 7) (ls' := [(0, .ref 151), (1, .int b)]) (st' := [.int (-1), .ref 151]) (M' := v_mk s1) rfl ?_
  obtain ⟨s2, es2, h⟩ := v_ld h
  refine v_pf (M' := v_mk s2) rfl (by rw [es2]; exact v_pi (rfl : v_kd 151 = 11) rfl ⟨rfl, rfl, by decide⟩ rfl) ?_
  refine s_ek_bk 2 (P := 12) (ls' := [(0, .ref 151), (1, .int b)]) (st' := [.int 0, .ref 151]) (M' := v_mk s2) rfl ?_
  obtain ⟨s3, es3, h⟩ := v_ld h
  refine v_pf (M' := v_mk s3) rfl (by rw [es3]; exact v_pi (rfl : v_kd 151 = 11) rfl ⟨rfl, rfl, by decide⟩ rfl) ?_
  refine s_ek_bk 2 (P := 17) (ls' := [(0, .ref 151), (1, .int b)]) (st' := [.int 0, .ref 151]) (M' := v_mk s3) rfl ?_
  obtain ⟨s4, es4, h⟩ := v_ld h
  refine v_pf (M' := v_mk s4) rfl (by rw [es4]; exact v_pi (rfl : v_kd 151 = 11) rfl ⟨rfl, rfl, by decide⟩ rfl) ?_
  refine s_ek_bk 1 (P := 21) (ls' := [(0, .ref 151), (1, .int b)]) (st' := [.ref 151]) (M' := v_mk s4) rfl ?_
  refine v_gf rfl (v_gr (rfl : v_kd 151 = 11) (rfl : v_sl 151 9 = .ref 155) ⟨rfl, rfl, by decide⟩) ?_
  refine s_ek_bk 2 (P := 27) (ls' := [(0, .ref 151), (1, .int b)]) (st' := [.int 0, .int 10, .ref 155]) (M' := v_mk s4) rfl ?_
  obtain ⟨s5, es5, h⟩ := v_ld h
  refine v_ist (M' := v_mk s5) (i := 10) rfl (by rw [es5]; exact v_pai (rfl : v_kd 155 = 13) rfl (by decide) v_all13 (v_cn (rfl : v_ln 155 = 11) (by decide : v_in 10 11))) ?_
  refine s_ek_bk 1 (P := 29) (ls' := [(0, .ref 151), (1, .int b)]) (st' := [.ref 151]) (M' := v_mk s5) rfl ?_
  obtain ⟨r6, s6, e6, h⟩ := v_bd h
  refine v_cV (ν := s_e196.1) (w := 1568) (a := 151) (as' := []) (r := []) (o := none) (by omega) rfl rfl rfl (v_mk_kd (k := 11) (rfl : v_kd 151 = 11) (by decide)) rfl (t_Md_line e6 (by omega)) ?_
  show s_Ek (s_rows 3 L xs) D s_e197.1 32 [(0, .ref 151), (1, .int b)] [] (v_mk s6) _
  refine v_ls (ls' := [(0, .ref 151), (1, .int b)]) ⟨rfl, rfl, trivial⟩ (show ([0, 1] : List Nat).Nodup from by decide) ?_
  refine t_Md_readText_L32 (by omega) (fun s7 h => ?_) 4096  _ h
  show s_Ek (s_rows 3 L xs) D s_e197.1 65 [(0, .ref 151), (1, .int b)] [] (v_mk s7) _
  refine s_ek_bk 1 (P := 66) (ls' := [(0, .ref 151), (1, .int b)]) (st' := [.ref 151]) (M' := v_mk s7) rfl ?_
  refine v_gf rfl (v_gi (rfl : v_kd 151 = 11) rfl ⟨rfl, rfl, by decide⟩) ?_
  rcases v_if h with ⟨c8, h⟩ | ⟨c8, h⟩
  · refine v_i1t (T := 87) rfl rfl c8 ?_
    refine s_ek_bk 2 (P := 89) (ls' := [(0, .ref 151), (1, .int b)]) (st' := [.int 0, .ref 151]) (M' := v_mk s7) rfl ?_
    obtain ⟨s9, es9, h⟩ := v_ld h
    refine v_pf (M' := v_mk s9) rfl (by rw [es9]; exact v_pi (rfl : v_kd 151 = 11) rfl ⟨rfl, rfl, by decide⟩ rfl) ?_
    refine s_ek_bk 1 (P := 93) (ls' := [(0, .ref 151), (1, .int b)]) (st' := [.ref 151]) (M' := v_mk s9) rfl ?_
    refine v_gf rfl (v_gi (rfl : v_kd 151 = 11) rfl ⟨rfl, rfl, by decide⟩) ?_
    rcases v_if h with ⟨c10, h⟩ | ⟨c10, h⟩
    · refine v_i1t (T := 104) rfl rfl c10 ?_
      refine s_ek_bk 2 (P := 106) (ls' := [(2, .int 0), (0, .ref 151), (1, .int b)]) (st' := []) (M' := v_mk s9) rfl ?_
      refine v_ls (ls' := [(0, .ref 151), (1, .int b), (2, .int 0)]) ⟨rfl, rfl, rfl, trivial⟩ (show ([0, 1, 2] : List Nat).Nodup from by decide) ?_
      refine t_Md_readText_L106 (by omega) (fun s11 h => ?_) 4096 _ _ h
      show s_Ek (s_rows 3 L xs) D s_e197.1 164 [(0, .ref 151), (1, .int b)] [] (v_mk s11) _
      refine s_ek_bk 1 (P := 165) (ls' := [(0, .ref 151), (1, .int b)]) (st' := [.ref 151]) (M' := v_mk s11) rfl ?_
      refine v_gf rfl (v_gr (rfl : v_kd 151 = 11) (rfl : v_sl 151 9 = .ref 155) ⟨rfl, rfl, by decide⟩) ?_
      refine s_ek_bk 2 (P := 170) (ls' := [(0, .ref 151), (1, .int b)]) (st' := [.ref 151, .int b, .ref 155]) (M' := v_mk s11) rfl ?_
      refine v_gf rfl (v_gr (rfl : v_kd 151 = 11) (rfl : v_sl 151 9 = .ref 155) ⟨rfl, rfl, by decide⟩) ?_
      refine s_ek_bk 1 (P := 175) (ls' := [(0, .ref 151), (1, .int b)]) (st' := [.int 10, .ref 155, .int b, .ref 155]) (M' := v_mk s11) rfl ?_
      refine v_ia (i := 10) rfl (v_ai (rfl : v_kd 155 = 13) rfl (by decide) v_all13 (v_cn (rfl : v_ln 155 = 11) (by decide : v_in 10 11))) ?_
      show s_Ek (s_rows 3 L xs) D s_e197.1 176 [(0, .ref 151), (1, .int b)] [.int (s11.1 155 10), .int b, .ref 155] (v_mk s11) _
      obtain ⟨c12, h⟩ := v_ck h
      obtain ⟨s13, es13, h⟩ := v_ld h
      refine v_ist (M' := v_mk s13) (i := b) rfl (by rw [es13]; exact v_pai (rfl : v_kd 155 = 13) rfl (by decide) v_all13 (v_cn (rfl : v_ln 155 = 11) c12)) ?_
      refine s_ek_bk 2 (P := 179) (ls' := [(2, .int 0), (0, .ref 151), (1, .int b)]) (st' := []) (M' := v_mk s13) rfl ?_
      refine v_ls (ls' := [(0, .ref 151), (1, .int b), (2, .int 0)]) ⟨rfl, rfl, rfl, trivial⟩ (show ([0, 1, 2] : List Nat).Nodup from by decide) ?_
      refine t_Md_readText_L179 (by omega) (fun s14 h => ?_) 4096 _ _ h
      show s_Ek (s_rows 3 L xs) D s_e197.1 237 [] [] (v_mk s14) _
      refine s_ek_bk 1 (P := 238) (ls' := []) (st' := [.int (-1)]) (M' := v_mk s14) rfl ?_
      obtain ⟨rfl, rfl⟩ := v_so h
      exact v_ret (fun _ => rfl)
    · refine v_i1f (T := 104) rfl rfl c10 ?_
      refine s_ek_bk 1 (P := 100) (ls' := [(0, .ref 151), (1, .int b)]) (st' := [.ref 151]) (M' := v_mk s9) rfl ?_
      refine v_gf rfl (v_gi (rfl : v_kd 151 = 11) rfl ⟨rfl, rfl, by decide⟩) ?_
      obtain ⟨rfl, rfl⟩ := v_so h
      exact v_ret (fun _ => rfl)
  · refine v_i1f (T := 87) rfl rfl c8 ?_
    refine s_ek_bk 1 (P := 73) (ls' := [(0, .ref 151), (1, .int b)]) (st' := [.ref 151]) (M' := v_mk s7) rfl ?_
    refine v_gf rfl (v_gi (rfl : v_kd 151 = 11) rfl ⟨rfl, rfl, by decide⟩) ?_
    refine s_ek_bk 1 (P := 77) (ls' := [(0, .ref 151), (1, .int b)]) (st' := [.ref 151, .int (s7.1 151 3)]) (M' := v_mk s7) rfl ?_
    refine v_gf rfl (v_gi (rfl : v_kd 151 = 11) rfl ⟨rfl, rfl, by decide⟩) ?_
    rcases v_if h with ⟨c15, h⟩ | ⟨c15, h⟩
    · refine v_i2t (T := 87) rfl rfl c15 ?_
      refine s_ek_bk 2 (P := 89) (ls' := [(0, .ref 151), (1, .int b)]) (st' := [.int 0, .ref 151]) (M' := v_mk s7) rfl ?_
      obtain ⟨s16, es16, h⟩ := v_ld h
      refine v_pf (M' := v_mk s16) rfl (by rw [es16]; exact v_pi (rfl : v_kd 151 = 11) rfl ⟨rfl, rfl, by decide⟩ rfl) ?_
      refine s_ek_bk 1 (P := 93) (ls' := [(0, .ref 151), (1, .int b)]) (st' := [.ref 151]) (M' := v_mk s16) rfl ?_
      refine v_gf rfl (v_gi (rfl : v_kd 151 = 11) rfl ⟨rfl, rfl, by decide⟩) ?_
      rcases v_if h with ⟨c17, h⟩ | ⟨c17, h⟩
      · refine v_i1t (T := 104) rfl rfl c17 ?_
        refine s_ek_bk 2 (P := 106) (ls' := [(2, .int 0), (0, .ref 151), (1, .int b)]) (st' := []) (M' := v_mk s16) rfl ?_
        refine v_ls (ls' := [(0, .ref 151), (1, .int b), (2, .int 0)]) ⟨rfl, rfl, rfl, trivial⟩ (show ([0, 1, 2] : List Nat).Nodup from by decide) ?_
        refine t_Md_readText_L106 (by omega) (fun s18 h => ?_) 4096 _ _ h
        show s_Ek (s_rows 3 L xs) D s_e197.1 164 [(0, .ref 151), (1, .int b)] [] (v_mk s18) _
        refine s_ek_bk 1 (P := 165) (ls' := [(0, .ref 151), (1, .int b)]) (st' := [.ref 151]) (M' := v_mk s18) rfl ?_
        refine v_gf rfl (v_gr (rfl : v_kd 151 = 11) (rfl : v_sl 151 9 = .ref 155) ⟨rfl, rfl, by decide⟩) ?_
        refine s_ek_bk 2 (P := 170) (ls' := [(0, .ref 151), (1, .int b)]) (st' := [.ref 151, .int b, .ref 155]) (M' := v_mk s18) rfl ?_
        refine v_gf rfl (v_gr (rfl : v_kd 151 = 11) (rfl : v_sl 151 9 = .ref 155) ⟨rfl, rfl, by decide⟩) ?_
        refine s_ek_bk 1 (P := 175) (ls' := [(0, .ref 151), (1, .int b)]) (st' := [.int 10, .ref 155, .int b, .ref 155]) (M' := v_mk s18) rfl ?_
        refine v_ia (i := 10) rfl (v_ai (rfl : v_kd 155 = 13) rfl (by decide) v_all13 (v_cn (rfl : v_ln 155 = 11) (by decide : v_in 10 11))) ?_
        show s_Ek (s_rows 3 L xs) D s_e197.1 176 [(0, .ref 151), (1, .int b)] [.int (s18.1 155 10), .int b, .ref 155] (v_mk s18) _
        obtain ⟨c19, h⟩ := v_ck h
        obtain ⟨s20, es20, h⟩ := v_ld h
        refine v_ist (M' := v_mk s20) (i := b) rfl (by rw [es20]; exact v_pai (rfl : v_kd 155 = 13) rfl (by decide) v_all13 (v_cn (rfl : v_ln 155 = 11) c19)) ?_
        refine s_ek_bk 2 (P := 179) (ls' := [(2, .int 0), (0, .ref 151), (1, .int b)]) (st' := []) (M' := v_mk s20) rfl ?_
        refine v_ls (ls' := [(0, .ref 151), (1, .int b), (2, .int 0)]) ⟨rfl, rfl, rfl, trivial⟩ (show ([0, 1, 2] : List Nat).Nodup from by decide) ?_
        refine t_Md_readText_L179 (by omega) (fun s21 h => ?_) 4096 _ _ h
        show s_Ek (s_rows 3 L xs) D s_e197.1 237 [] [] (v_mk s21) _
        refine s_ek_bk 1 (P := 238) (ls' := []) (st' := [.int (-1)]) (M' := v_mk s21) rfl ?_
        obtain ⟨rfl, rfl⟩ := v_so h
        exact v_ret (fun _ => rfl)
      · refine v_i1f (T := 104) rfl rfl c17 ?_
        refine s_ek_bk 1 (P := 100) (ls' := [(0, .ref 151), (1, .int b)]) (st' := [.ref 151]) (M' := v_mk s16) rfl ?_
        refine v_gf rfl (v_gi (rfl : v_kd 151 = 11) rfl ⟨rfl, rfl, by decide⟩) ?_
        obtain ⟨rfl, rfl⟩ := v_so h
        exact v_ret (fun _ => rfl)
    · refine v_i2f (T := 87) rfl rfl c15 ?_
      refine s_ek_bk 1 (P := 84) (ls' := [(0, .ref 151), (1, .int b)]) (st' := [.ref 151]) (M' := v_mk s7) rfl ?_
      obtain ⟨r22, s22, e22, h⟩ := v_bd h
      refine v_cV (ν := s_e185.1) (w := 1480) (a := 151) (as' := []) (r := []) (o := none) (by omega) rfl rfl rfl (v_mk_kd (k := 11) (rfl : v_kd 151 = 11) (by decide)) rfl (t_Md_faulty e22 (by omega)) ?_
      show s_Ek (s_rows 3 L xs) D s_e197.1 87 [(0, .ref 151), (1, .int b)] [] (v_mk s22) _
      refine s_ek_bk 2 (P := 89) (ls' := [(0, .ref 151), (1, .int b)]) (st' := [.int 0, .ref 151]) (M' := v_mk s22) rfl ?_
      obtain ⟨s23, es23, h⟩ := v_ld h
      refine v_pf (M' := v_mk s23) rfl (by rw [es23]; exact v_pi (rfl : v_kd 151 = 11) rfl ⟨rfl, rfl, by decide⟩ rfl) ?_
      refine s_ek_bk 1 (P := 93) (ls' := [(0, .ref 151), (1, .int b)]) (st' := [.ref 151]) (M' := v_mk s23) rfl ?_
      refine v_gf rfl (v_gi (rfl : v_kd 151 = 11) rfl ⟨rfl, rfl, by decide⟩) ?_
      rcases v_if h with ⟨c24, h⟩ | ⟨c24, h⟩
      · refine v_i1t (T := 104) rfl rfl c24 ?_
        refine s_ek_bk 2 (P := 106) (ls' := [(2, .int 0), (0, .ref 151), (1, .int b)]) (st' := []) (M' := v_mk s23) rfl ?_
        refine v_ls (ls' := [(0, .ref 151), (1, .int b), (2, .int 0)]) ⟨rfl, rfl, rfl, trivial⟩ (show ([0, 1, 2] : List Nat).Nodup from by decide) ?_
        refine t_Md_readText_L106 (by omega) (fun s25 h => ?_) 4096 _ _ h
        show s_Ek (s_rows 3 L xs) D s_e197.1 164 [(0, .ref 151), (1, .int b)] [] (v_mk s25) _
        refine s_ek_bk 1 (P := 165) (ls' := [(0, .ref 151), (1, .int b)]) (st' := [.ref 151]) (M' := v_mk s25) rfl ?_
        refine v_gf rfl (v_gr (rfl : v_kd 151 = 11) (rfl : v_sl 151 9 = .ref 155) ⟨rfl, rfl, by decide⟩) ?_
        refine s_ek_bk 2 (P := 170) (ls' := [(0, .ref 151), (1, .int b)]) (st' := [.ref 151, .int b, .ref 155]) (M' := v_mk s25) rfl ?_
        refine v_gf rfl (v_gr (rfl : v_kd 151 = 11) (rfl : v_sl 151 9 = .ref 155) ⟨rfl, rfl, by decide⟩) ?_
        refine s_ek_bk 1 (P := 175) (ls' := [(0, .ref 151), (1, .int b)]) (st' := [.int 10, .ref 155, .int b, .ref 155]) (M' := v_mk s25) rfl ?_
        refine v_ia (i := 10) rfl (v_ai (rfl : v_kd 155 = 13) rfl (by decide) v_all13 (v_cn (rfl : v_ln 155 = 11) (by decide : v_in 10 11))) ?_
        show s_Ek (s_rows 3 L xs) D s_e197.1 176 [(0, .ref 151), (1, .int b)] [.int (s25.1 155 10), .int b, .ref 155] (v_mk s25) _
        obtain ⟨c26, h⟩ := v_ck h
        obtain ⟨s27, es27, h⟩ := v_ld h
        refine v_ist (M' := v_mk s27) (i := b) rfl (by rw [es27]; exact v_pai (rfl : v_kd 155 = 13) rfl (by decide) v_all13 (v_cn (rfl : v_ln 155 = 11) c26)) ?_
        refine s_ek_bk 2 (P := 179) (ls' := [(2, .int 0), (0, .ref 151), (1, .int b)]) (st' := []) (M' := v_mk s27) rfl ?_
        refine v_ls (ls' := [(0, .ref 151), (1, .int b), (2, .int 0)]) ⟨rfl, rfl, rfl, trivial⟩ (show ([0, 1, 2] : List Nat).Nodup from by decide) ?_
        refine t_Md_readText_L179 (by omega) (fun s28 h => ?_) 4096 _ _ h
        show s_Ek (s_rows 3 L xs) D s_e197.1 237 [] [] (v_mk s28) _
        refine s_ek_bk 1 (P := 238) (ls' := []) (st' := [.int (-1)]) (M' := v_mk s28) rfl ?_
        obtain ⟨rfl, rfl⟩ := v_so h
        exact v_ret (fun _ => rfl)
      · refine v_i1f (T := 104) rfl rfl c24 ?_
        refine s_ek_bk 1 (P := 100) (ls' := [(0, .ref 151), (1, .int b)]) (st' := [.ref 151]) (M' := v_mk s23) rfl ?_
        refine v_gf rfl (v_gi (rfl : v_kd 151 = 11) rfl ⟨rfl, rfl, by decide⟩) ?_
        obtain ⟨rfl, rfl⟩ := v_so h
        exact v_ret (fun _ => rfl)
noncomputable def f_Md_twoOf (b : Int32) (c : Int32) (d : Int32) (s : vS) : Option (Int32 × vS) := (if b.toInt < 37 ∨ 62 < b.toInt then (if c.toInt = 0 then (if d.toInt = 0 then (some (0, s)) else (some (1, s))) else (some (1, s))) else (if b.toInt = 37 then (if d.toInt = 0 then (some (0, s)) else (if d.toInt = (-1) then (some (0, s)) else (if ¬ d = 0 then (some ((c - c / d * d), s)) else none))) else (if b.toInt = 38 then (if c.toInt = 0 then (some (0, s)) else (if d.toInt = 0 then (some (0, s)) else (some (1, s)))) else (if b.toInt = 39 then (if c.toInt = 0 then (if d.toInt = 0 then (some (0, s)) else (some (1, s))) else (some (1, s))) else (if b.toInt = 40 then (if c.toInt = 0 then (if d.toInt = 0 then (some (0, s)) else (some (1, s))) else (some (1, s))) else (if b.toInt = 41 then (if c.toInt = 0 then (if d.toInt = 0 then (some (0, s)) else (some (1, s))) else (some (1, s))) else (if b.toInt = 42 then (some ((c * d), s)) else (if b.toInt = 43 then (some ((c + d), s)) else (if b.toInt = 44 then (if c.toInt = 0 then (if d.toInt = 0 then (some (0, s)) else (some (1, s))) else (some (1, s))) else (if b.toInt = 45 then (some ((c - d), s)) else (if b.toInt = 46 then (if c.toInt = 0 then (if d.toInt = 0 then (some (0, s)) else (some (1, s))) else (some (1, s))) else (if b.toInt = 47 then (if d.toInt = 0 then (some (0, s)) else (if d.toInt = (-1) then (some ((-c), s)) else (if ¬ d = 0 then (some ((c / d), s)) else none))) else (if b.toInt = 48 then (if c.toInt = 0 then (if d.toInt = 0 then (some (0, s)) else (some (1, s))) else (some (1, s))) else (if b.toInt = 49 then (if c.toInt = 0 then (if d.toInt = 0 then (some (0, s)) else (some (1, s))) else (some (1, s))) else (if b.toInt = 50 then (if c.toInt = 0 then (if d.toInt = 0 then (some (0, s)) else (some (1, s))) else (some (1, s))) else (if b.toInt = 51 then (if c.toInt = 0 then (if d.toInt = 0 then (some (0, s)) else (some (1, s))) else (some (1, s))) else (if b.toInt = 52 then (if c.toInt = 0 then (if d.toInt = 0 then (some (0, s)) else (some (1, s))) else (some (1, s))) else (if b.toInt = 53 then (if c.toInt = 0 then (if d.toInt = 0 then (some (0, s)) else (some (1, s))) else (some (1, s))) else (if b.toInt = 54 then (if c.toInt = 0 then (if d.toInt = 0 then (some (0, s)) else (some (1, s))) else (some (1, s))) else (if b.toInt = 55 then (if c.toInt = 0 then (if d.toInt = 0 then (some (0, s)) else (some (1, s))) else (some (1, s))) else (if b.toInt = 56 then (if c.toInt = 0 then (if d.toInt = 0 then (some (0, s)) else (some (1, s))) else (some (1, s))) else (if b.toInt = 57 then (if c.toInt = 0 then (if d.toInt = 0 then (some (0, s)) else (some (1, s))) else (some (1, s))) else (if b.toInt = 58 then (if c.toInt = 0 then (if d.toInt = 0 then (some (0, s)) else (some (1, s))) else (some (1, s))) else (if b.toInt = 59 then (if c.toInt = 0 then (if d.toInt = 0 then (some (0, s)) else (some (1, s))) else (some (1, s))) else (if b.toInt = 60 then (if d.toInt ≤ c.toInt then (some (0, s)) else (some (1, s))) else (if b.toInt = 61 then (if c.toInt = d.toInt then (some (1, s)) else (some (0, s))) else (if c.toInt ≤ d.toInt then (some (0, s)) else (some (1, s)))))))))))))))))))))))))))))
set_option maxRecDepth 20000 in
set_option maxHeartbeats 4000000 in
theorem t_Md_twoOf {L : Nat} {xs : Nat → Int32} {b : Int32} {c : Int32} {d : Int32} {D : Nat} {r : Int32} {s s' : vS} (h : f_Md_twoOf b c d s = some (r, s')) (hD : 0 ≤ D) : s_Ek (s_rows 3 L xs) D s_e198.1 0 (lv_args 0 [.int b, .int c, .int d]) [] (v_mk s) (v_Q (some (.int r)) s') := by
  unfold f_Md_twoOf at h
  show s_Ek (s_rows 3 L xs) D s_e198.1 0 [(0, .int b), (1, .int c), (2, .int d)] [] (v_mk s) _
  refine s_ek_bk 1 (P := 1) (ls' := [(0, .int b), (1, .int c), (2, .int d)]) (st' := [.int b]) (M' := v_mk s) rfl ?_
  rcases v_if h with ⟨c1, h⟩ | ⟨c1, h⟩
  · refine v_tso (T := 218) rfl rfl c1 ?_
    refine s_ek_bk 1 (P := 219) (ls' := [(0, .int b), (1, .int c), (2, .int d)]) (st' := [.int c]) (M' := v_mk s) rfl ?_
    rcases v_if h with ⟨c2, h⟩ | ⟨c2, h⟩
    · refine v_i1f (T := 226) rfl rfl (fun q => q c2) ?_
      refine s_ek_bk 1 (P := 223) (ls' := [(0, .int b), (1, .int c), (2, .int d)]) (st' := [.int d]) (M' := v_mk s) rfl ?_
      rcases v_if h with ⟨c3, h⟩ | ⟨c3, h⟩
      · refine v_i1t (T := 230) rfl rfl c3 ?_
        refine s_ek_bk 1 (P := 231) (ls' := [(0, .int b), (1, .int c), (2, .int d)]) (st' := [.int 0]) (M' := v_mk s) rfl ?_
        obtain ⟨rfl, rfl⟩ := v_so h
        exact v_ret (fun _ => rfl)
      · refine v_i1f (T := 230) rfl rfl c3 ?_
        refine s_ek_bk 2 (P := 231) (ls' := [(0, .int b), (1, .int c), (2, .int d)]) (st' := [.int 1]) (M' := v_mk s) rfl ?_
        obtain ⟨rfl, rfl⟩ := v_so h
        exact v_ret (fun _ => rfl)
    · refine v_i1t (T := 226) rfl rfl c2 ?_
      refine s_ek_bk 2 (P := 231) (ls' := [(0, .int b), (1, .int c), (2, .int d)]) (st' := [.int 1]) (M' := v_mk s) rfl ?_
      obtain ⟨rfl, rfl⟩ := v_so h
      exact v_ret (fun _ => rfl)
  · rcases v_if h with ⟨c4, h⟩ | ⟨c4, h⟩
    · refine v_tsi (T := 154) (c := 37) rfl c4 rfl ?_
      refine s_ek_bk 1 (P := 155) (ls' := [(0, .int b), (1, .int c), (2, .int d)]) (st' := [.int d]) (M' := v_mk s) rfl ?_
      rcases v_if h with ⟨c5, h⟩ | ⟨c5, h⟩
      · refine v_i1t (T := 163) rfl rfl c5 ?_
        refine s_ek_bk 2 (P := 170) (ls' := [(0, .int b), (1, .int c), (2, .int d)]) (st' := [.int 0]) (M' := v_mk s) rfl ?_
        obtain ⟨rfl, rfl⟩ := v_so h
        exact v_ret (fun _ => rfl)
      · refine v_i1f (T := 163) rfl rfl c5 ?_
        refine s_ek_bk 2 (P := 160) (ls' := [(0, .int b), (1, .int c), (2, .int d)]) (st' := [.int (-1), .int d]) (M' := v_mk s) rfl ?_
        rcases v_if h with ⟨c6, h⟩ | ⟨c6, h⟩
        · refine v_i2f (T := 167) rfl rfl (fun q => q c6) ?_
          refine s_ek_bk 2 (P := 170) (ls' := [(0, .int b), (1, .int c), (2, .int d)]) (st' := [.int 0]) (M' := v_mk s) rfl ?_
          obtain ⟨rfl, rfl⟩ := v_so h
          exact v_ret (fun _ => rfl)
        · refine v_i2t (T := 167) rfl rfl c6 ?_
          refine s_ek_bk 2 (P := 169) (ls' := [(0, .int b), (1, .int c), (2, .int d)]) (st' := [.int d, .int c]) (M' := v_mk s) rfl ?_
          obtain ⟨c7, h⟩ := v_ck h
          refine v_rem rfl c7 ?_
          obtain ⟨rfl, rfl⟩ := v_so h
          exact v_ret (fun _ => rfl)
    · rcases v_if h with ⟨c8, h⟩ | ⟨c8, h⟩
      · refine v_tsi (T := 204) (c := 38) rfl c8 rfl ?_
        refine s_ek_bk 1 (P := 205) (ls' := [(0, .int b), (1, .int c), (2, .int d)]) (st' := [.int c]) (M' := v_mk s) rfl ?_
        rcases v_if h with ⟨c9, h⟩ | ⟨c9, h⟩
        · refine v_i1t (T := 216) rfl rfl c9 ?_
          refine s_ek_bk 1 (P := 217) (ls' := [(0, .int b), (1, .int c), (2, .int d)]) (st' := [.int 0]) (M' := v_mk s) rfl ?_
          obtain ⟨rfl, rfl⟩ := v_so h
          exact v_ret (fun _ => rfl)
        · refine v_i1f (T := 216) rfl rfl c9 ?_
          refine s_ek_bk 1 (P := 209) (ls' := [(0, .int b), (1, .int c), (2, .int d)]) (st' := [.int d]) (M' := v_mk s) rfl ?_
          rcases v_if h with ⟨c10, h⟩ | ⟨c10, h⟩
          · refine v_i1t (T := 216) rfl rfl c10 ?_
            refine s_ek_bk 1 (P := 217) (ls' := [(0, .int b), (1, .int c), (2, .int d)]) (st' := [.int 0]) (M' := v_mk s) rfl ?_
            obtain ⟨rfl, rfl⟩ := v_so h
            exact v_ret (fun _ => rfl)
          · refine v_i1f (T := 216) rfl rfl c10 ?_
            refine s_ek_bk 2 (P := 217) (ls' := [(0, .int b), (1, .int c), (2, .int d)]) (st' := [.int 1]) (M' := v_mk s) rfl ?_
            obtain ⟨rfl, rfl⟩ := v_so h
            exact v_ret (fun _ => rfl)
      · rcases v_if h with ⟨c11, h⟩ | ⟨c11, h⟩
        · refine v_tsi (T := 218) (c := 39) rfl c11 rfl ?_
          refine s_ek_bk 1 (P := 219) (ls' := [(0, .int b), (1, .int c), (2, .int d)]) (st' := [.int c]) (M' := v_mk s) rfl ?_
          rcases v_if h with ⟨c12, h⟩ | ⟨c12, h⟩
          · refine v_i1f (T := 226) rfl rfl (fun q => q c12) ?_
            refine s_ek_bk 1 (P := 223) (ls' := [(0, .int b), (1, .int c), (2, .int d)]) (st' := [.int d]) (M' := v_mk s) rfl ?_
            rcases v_if h with ⟨c13, h⟩ | ⟨c13, h⟩
            · refine v_i1t (T := 230) rfl rfl c13 ?_
              refine s_ek_bk 1 (P := 231) (ls' := [(0, .int b), (1, .int c), (2, .int d)]) (st' := [.int 0]) (M' := v_mk s) rfl ?_
              obtain ⟨rfl, rfl⟩ := v_so h
              exact v_ret (fun _ => rfl)
            · refine v_i1f (T := 230) rfl rfl c13 ?_
              refine s_ek_bk 2 (P := 231) (ls' := [(0, .int b), (1, .int c), (2, .int d)]) (st' := [.int 1]) (M' := v_mk s) rfl ?_
              obtain ⟨rfl, rfl⟩ := v_so h
              exact v_ret (fun _ => rfl)
          · refine v_i1t (T := 226) rfl rfl c12 ?_
            refine s_ek_bk 2 (P := 231) (ls' := [(0, .int b), (1, .int c), (2, .int d)]) (st' := [.int 1]) (M' := v_mk s) rfl ?_
            obtain ⟨rfl, rfl⟩ := v_so h
            exact v_ret (fun _ => rfl)
        · rcases v_if h with ⟨c14, h⟩ | ⟨c14, h⟩
          · refine v_tsi (T := 218) (c := 40) rfl c14 rfl ?_
            refine s_ek_bk 1 (P := 219) (ls' := [(0, .int b), (1, .int c), (2, .int d)]) (st' := [.int c]) (M' := v_mk s) rfl ?_
            rcases v_if h with ⟨c15, h⟩ | ⟨c15, h⟩
            · refine v_i1f (T := 226) rfl rfl (fun q => q c15) ?_
              refine s_ek_bk 1 (P := 223) (ls' := [(0, .int b), (1, .int c), (2, .int d)]) (st' := [.int d]) (M' := v_mk s) rfl ?_
              rcases v_if h with ⟨c16, h⟩ | ⟨c16, h⟩
              · refine v_i1t (T := 230) rfl rfl c16 ?_
                refine s_ek_bk 1 (P := 231) (ls' := [(0, .int b), (1, .int c), (2, .int d)]) (st' := [.int 0]) (M' := v_mk s) rfl ?_
                obtain ⟨rfl, rfl⟩ := v_so h
                exact v_ret (fun _ => rfl)
              · refine v_i1f (T := 230) rfl rfl c16 ?_
                refine s_ek_bk 2 (P := 231) (ls' := [(0, .int b), (1, .int c), (2, .int d)]) (st' := [.int 1]) (M' := v_mk s) rfl ?_
                obtain ⟨rfl, rfl⟩ := v_so h
                exact v_ret (fun _ => rfl)
            · refine v_i1t (T := 226) rfl rfl c15 ?_
              refine s_ek_bk 2 (P := 231) (ls' := [(0, .int b), (1, .int c), (2, .int d)]) (st' := [.int 1]) (M' := v_mk s) rfl ?_
              obtain ⟨rfl, rfl⟩ := v_so h
              exact v_ret (fun _ => rfl)
          · rcases v_if h with ⟨c17, h⟩ | ⟨c17, h⟩
            · refine v_tsi (T := 218) (c := 41) rfl c17 rfl ?_
              refine s_ek_bk 1 (P := 219) (ls' := [(0, .int b), (1, .int c), (2, .int d)]) (st' := [.int c]) (M' := v_mk s) rfl ?_
              rcases v_if h with ⟨c18, h⟩ | ⟨c18, h⟩
              · refine v_i1f (T := 226) rfl rfl (fun q => q c18) ?_
                refine s_ek_bk 1 (P := 223) (ls' := [(0, .int b), (1, .int c), (2, .int d)]) (st' := [.int d]) (M' := v_mk s) rfl ?_
                rcases v_if h with ⟨c19, h⟩ | ⟨c19, h⟩
                · refine v_i1t (T := 230) rfl rfl c19 ?_
                  refine s_ek_bk 1 (P := 231) (ls' := [(0, .int b), (1, .int c), (2, .int d)]) (st' := [.int 0]) (M' := v_mk s) rfl ?_
                  obtain ⟨rfl, rfl⟩ := v_so h
                  exact v_ret (fun _ => rfl)
                · refine v_i1f (T := 230) rfl rfl c19 ?_
                  refine s_ek_bk 2 (P := 231) (ls' := [(0, .int b), (1, .int c), (2, .int d)]) (st' := [.int 1]) (M' := v_mk s) rfl ?_
                  obtain ⟨rfl, rfl⟩ := v_so h
                  exact v_ret (fun _ => rfl)
              · refine v_i1t (T := 226) rfl rfl c18 ?_
                refine s_ek_bk 2 (P := 231) (ls' := [(0, .int b), (1, .int c), (2, .int d)]) (st' := [.int 1]) (M' := v_mk s) rfl ?_
                obtain ⟨rfl, rfl⟩ := v_so h
                exact v_ret (fun _ => rfl)
            · rcases v_if h with ⟨c20, h⟩ | ⟨c20, h⟩
              · refine v_tsi (T := 128) (c := 42) rfl c20 rfl ?_
                refine s_ek_bk 3 (P := 131) (ls' := [(0, .int b), (1, .int c), (2, .int d)]) (st' := [.int (c * d)]) (M' := v_mk s) rfl ?_
                obtain ⟨rfl, rfl⟩ := v_so h
                exact v_ret (fun _ => rfl)
              · rcases v_if h with ⟨c21, h⟩ | ⟨c21, h⟩
                · refine v_tsi (T := 120) (c := 43) rfl c21 rfl ?_
                  refine s_ek_bk 3 (P := 123) (ls' := [(0, .int b), (1, .int c), (2, .int d)]) (st' := [.int (c + d)]) (M' := v_mk s) rfl ?_
                  obtain ⟨rfl, rfl⟩ := v_so h
                  exact v_ret (fun _ => rfl)
                · rcases v_if h with ⟨c22, h⟩ | ⟨c22, h⟩
                  · refine v_tsi (T := 218) (c := 44) rfl c22 rfl ?_
                    refine s_ek_bk 1 (P := 219) (ls' := [(0, .int b), (1, .int c), (2, .int d)]) (st' := [.int c]) (M' := v_mk s) rfl ?_
                    rcases v_if h with ⟨c23, h⟩ | ⟨c23, h⟩
                    · refine v_i1f (T := 226) rfl rfl (fun q => q c23) ?_
                      refine s_ek_bk 1 (P := 223) (ls' := [(0, .int b), (1, .int c), (2, .int d)]) (st' := [.int d]) (M' := v_mk s) rfl ?_
                      rcases v_if h with ⟨c24, h⟩ | ⟨c24, h⟩
                      · refine v_i1t (T := 230) rfl rfl c24 ?_
                        refine s_ek_bk 1 (P := 231) (ls' := [(0, .int b), (1, .int c), (2, .int d)]) (st' := [.int 0]) (M' := v_mk s) rfl ?_
                        obtain ⟨rfl, rfl⟩ := v_so h
                        exact v_ret (fun _ => rfl)
                      · refine v_i1f (T := 230) rfl rfl c24 ?_
                        refine s_ek_bk 2 (P := 231) (ls' := [(0, .int b), (1, .int c), (2, .int d)]) (st' := [.int 1]) (M' := v_mk s) rfl ?_
                        obtain ⟨rfl, rfl⟩ := v_so h
                        exact v_ret (fun _ => rfl)
                    · refine v_i1t (T := 226) rfl rfl c23 ?_
                      refine s_ek_bk 2 (P := 231) (ls' := [(0, .int b), (1, .int c), (2, .int d)]) (st' := [.int 1]) (M' := v_mk s) rfl ?_
                      obtain ⟨rfl, rfl⟩ := v_so h
                      exact v_ret (fun _ => rfl)
                  · rcases v_if h with ⟨c25, h⟩ | ⟨c25, h⟩
                    · refine v_tsi (T := 124) (c := 45) rfl c25 rfl ?_
                      refine s_ek_bk 3 (P := 127) (ls' := [(0, .int b), (1, .int c), (2, .int d)]) (st' := [.int (c - d)]) (M' := v_mk s) rfl ?_
                      obtain ⟨rfl, rfl⟩ := v_so h
                      exact v_ret (fun _ => rfl)
                    · rcases v_if h with ⟨c26, h⟩ | ⟨c26, h⟩
                      · refine v_tsi (T := 218) (c := 46) rfl c26 rfl ?_
                        refine s_ek_bk 1 (P := 219) (ls' := [(0, .int b), (1, .int c), (2, .int d)]) (st' := [.int c]) (M' := v_mk s) rfl ?_
                        rcases v_if h with ⟨c27, h⟩ | ⟨c27, h⟩
                        · refine v_i1f (T := 226) rfl rfl (fun q => q c27) ?_
                          refine s_ek_bk 1 (P := 223) (ls' := [(0, .int b), (1, .int c), (2, .int d)]) (st' := [.int d]) (M' := v_mk s) rfl ?_
                          rcases v_if h with ⟨c28, h⟩ | ⟨c28, h⟩
                          · refine v_i1t (T := 230) rfl rfl c28 ?_
                            refine s_ek_bk 1 (P := 231) (ls' := [(0, .int b), (1, .int c), (2, .int d)]) (st' := [.int 0]) (M' := v_mk s) rfl ?_
                            obtain ⟨rfl, rfl⟩ := v_so h
                            exact v_ret (fun _ => rfl)
                          · refine v_i1f (T := 230) rfl rfl c28 ?_
                            refine s_ek_bk 2 (P := 231) (ls' := [(0, .int b), (1, .int c), (2, .int d)]) (st' := [.int 1]) (M' := v_mk s) rfl ?_
                            obtain ⟨rfl, rfl⟩ := v_so h
                            exact v_ret (fun _ => rfl)
                        · refine v_i1t (T := 226) rfl rfl c27 ?_
                          refine s_ek_bk 2 (P := 231) (ls' := [(0, .int b), (1, .int c), (2, .int d)]) (st' := [.int 1]) (M' := v_mk s) rfl ?_
                          obtain ⟨rfl, rfl⟩ := v_so h
                          exact v_ret (fun _ => rfl)
                      · rcases v_if h with ⟨c29, h⟩ | ⟨c29, h⟩
                        · refine v_tsi (T := 132) (c := 47) rfl c29 rfl ?_
                          refine s_ek_bk 1 (P := 133) (ls' := [(0, .int b), (1, .int c), (2, .int d)]) (st' := [.int d]) (M' := v_mk s) rfl ?_
                          rcases v_if h with ⟨c30, h⟩ | ⟨c30, h⟩
                          · refine v_i1f (T := 140) rfl rfl (fun q => q c30) ?_
                            refine s_ek_bk 2 (P := 153) (ls' := [(0, .int b), (1, .int c), (2, .int d)]) (st' := [.int 0]) (M' := v_mk s) rfl ?_
                            obtain ⟨rfl, rfl⟩ := v_so h
                            exact v_ret (fun _ => rfl)
                          · refine v_i1t (T := 140) rfl rfl c30 ?_
                            refine s_ek_bk 2 (P := 142) (ls' := [(0, .int b), (1, .int c), (2, .int d)]) (st' := [.int (-1), .int d]) (M' := v_mk s) rfl ?_
                            rcases v_if h with ⟨c31, h⟩ | ⟨c31, h⟩
                            · refine v_i2f (T := 150) rfl rfl (fun q => q c31) ?_
                              refine s_ek_bk 3 (P := 153) (ls' := [(0, .int b), (1, .int c), (2, .int d)]) (st' := [.int (-c)]) (M' := v_mk s) rfl ?_
                              obtain ⟨rfl, rfl⟩ := v_so h
                              exact v_ret (fun _ => rfl)
                            · refine v_i2t (T := 150) rfl rfl c31 ?_
                              refine s_ek_bk 2 (P := 152) (ls' := [(0, .int b), (1, .int c), (2, .int d)]) (st' := [.int d, .int c]) (M' := v_mk s) rfl ?_
                              obtain ⟨c32, h⟩ := v_ck h
                              refine v_div rfl c32 ?_
                              obtain ⟨rfl, rfl⟩ := v_so h
                              exact v_ret (fun _ => rfl)
                        · rcases v_if h with ⟨c33, h⟩ | ⟨c33, h⟩
                          · refine v_tsi (T := 218) (c := 48) rfl c33 rfl ?_
                            refine s_ek_bk 1 (P := 219) (ls' := [(0, .int b), (1, .int c), (2, .int d)]) (st' := [.int c]) (M' := v_mk s) rfl ?_
                            rcases v_if h with ⟨c34, h⟩ | ⟨c34, h⟩
                            · refine v_i1f (T := 226) rfl rfl (fun q => q c34) ?_
                              refine s_ek_bk 1 (P := 223) (ls' := [(0, .int b), (1, .int c), (2, .int d)]) (st' := [.int d]) (M' := v_mk s) rfl ?_
                              rcases v_if h with ⟨c35, h⟩ | ⟨c35, h⟩
                              · refine v_i1t (T := 230) rfl rfl c35 ?_
                                refine s_ek_bk 1 (P := 231) (ls' := [(0, .int b), (1, .int c), (2, .int d)]) (st' := [.int 0]) (M' := v_mk s) rfl ?_
                                obtain ⟨rfl, rfl⟩ := v_so h
                                exact v_ret (fun _ => rfl)
                              · refine v_i1f (T := 230) rfl rfl c35 ?_
                                refine s_ek_bk 2 (P := 231) (ls' := [(0, .int b), (1, .int c), (2, .int d)]) (st' := [.int 1]) (M' := v_mk s) rfl ?_
                                obtain ⟨rfl, rfl⟩ := v_so h
                                exact v_ret (fun _ => rfl)
                            · refine v_i1t (T := 226) rfl rfl c34 ?_
                              refine s_ek_bk 2 (P := 231) (ls' := [(0, .int b), (1, .int c), (2, .int d)]) (st' := [.int 1]) (M' := v_mk s) rfl ?_
                              obtain ⟨rfl, rfl⟩ := v_so h
                              exact v_ret (fun _ => rfl)
                          · rcases v_if h with ⟨c36, h⟩ | ⟨c36, h⟩
                            · refine v_tsi (T := 218) (c := 49) rfl c36 rfl ?_
                              refine s_ek_bk 1 (P := 219) (ls' := [(0, .int b), (1, .int c), (2, .int d)]) (st' := [.int c]) (M' := v_mk s) rfl ?_
                              rcases v_if h with ⟨c37, h⟩ | ⟨c37, h⟩
                              · refine v_i1f (T := 226) rfl rfl (fun q => q c37) ?_
                                refine s_ek_bk 1 (P := 223) (ls' := [(0, .int b), (1, .int c), (2, .int d)]) (st' := [.int d]) (M' := v_mk s) rfl ?_
                                rcases v_if h with ⟨c38, h⟩ | ⟨c38, h⟩
                                · refine v_i1t (T := 230) rfl rfl c38 ?_
                                  refine s_ek_bk 1 (P := 231) (ls' := [(0, .int b), (1, .int c), (2, .int d)]) (st' := [.int 0]) (M' := v_mk s) rfl ?_
                                  obtain ⟨rfl, rfl⟩ := v_so h
                                  exact v_ret (fun _ => rfl)
                                · refine v_i1f (T := 230) rfl rfl c38 ?_
                                  refine s_ek_bk 2 (P := 231) (ls' := [(0, .int b), (1, .int c), (2, .int d)]) (st' := [.int 1]) (M' := v_mk s) rfl ?_
                                  obtain ⟨rfl, rfl⟩ := v_so h
                                  exact v_ret (fun _ => rfl)
                              · refine v_i1t (T := 226) rfl rfl c37 ?_
                                refine s_ek_bk 2 (P := 231) (ls' := [(0, .int b), (1, .int c), (2, .int d)]) (st' := [.int 1]) (M' := v_mk s) rfl ?_
                                obtain ⟨rfl, rfl⟩ := v_so h
                                exact v_ret (fun _ => rfl)
                            · rcases v_if h with ⟨c39, h⟩ | ⟨c39, h⟩
                              · refine v_tsi (T := 218) (c := 50) rfl c39 rfl ?_
                                refine s_ek_bk 1 (P := 219) (ls' := [(0, .int b), (1, .int c), (2, .int d)]) (st' := [.int c]) (M' := v_mk s) rfl ?_
                                rcases v_if h with ⟨c40, h⟩ | ⟨c40, h⟩
                                · refine v_i1f (T := 226) rfl rfl (fun q => q c40) ?_
                                  refine s_ek_bk 1 (P := 223) (ls' := [(0, .int b), (1, .int c), (2, .int d)]) (st' := [.int d]) (M' := v_mk s) rfl ?_
                                  rcases v_if h with ⟨c41, h⟩ | ⟨c41, h⟩
                                  · refine v_i1t (T := 230) rfl rfl c41 ?_
                                    refine s_ek_bk 1 (P := 231) (ls' := [(0, .int b), (1, .int c), (2, .int d)]) (st' := [.int 0]) (M' := v_mk s) rfl ?_
                                    obtain ⟨rfl, rfl⟩ := v_so h
                                    exact v_ret (fun _ => rfl)
                                  · refine v_i1f (T := 230) rfl rfl c41 ?_
                                    refine s_ek_bk 2 (P := 231) (ls' := [(0, .int b), (1, .int c), (2, .int d)]) (st' := [.int 1]) (M' := v_mk s) rfl ?_
                                    obtain ⟨rfl, rfl⟩ := v_so h
                                    exact v_ret (fun _ => rfl)
                                · refine v_i1t (T := 226) rfl rfl c40 ?_
                                  refine s_ek_bk 2 (P := 231) (ls' := [(0, .int b), (1, .int c), (2, .int d)]) (st' := [.int 1]) (M' := v_mk s) rfl ?_
                                  obtain ⟨rfl, rfl⟩ := v_so h
                                  exact v_ret (fun _ => rfl)
                              · rcases v_if h with ⟨c42, h⟩ | ⟨c42, h⟩
                                · refine v_tsi (T := 218) (c := 51) rfl c42 rfl ?_
                                  refine s_ek_bk 1 (P := 219) (ls' := [(0, .int b), (1, .int c), (2, .int d)]) (st' := [.int c]) (M' := v_mk s) rfl ?_
                                  rcases v_if h with ⟨c43, h⟩ | ⟨c43, h⟩
                                  · refine v_i1f (T := 226) rfl rfl (fun q => q c43) ?_
                                    refine s_ek_bk 1 (P := 223) (ls' := [(0, .int b), (1, .int c), (2, .int d)]) (st' := [.int d]) (M' := v_mk s) rfl ?_
                                    rcases v_if h with ⟨c44, h⟩ | ⟨c44, h⟩
                                    · refine v_i1t (T := 230) rfl rfl c44 ?_
                                      refine s_ek_bk 1 (P := 231) (ls' := [(0, .int b), (1, .int c), (2, .int d)]) (st' := [.int 0]) (M' := v_mk s) rfl ?_
                                      obtain ⟨rfl, rfl⟩ := v_so h
                                      exact v_ret (fun _ => rfl)
                                    · refine v_i1f (T := 230) rfl rfl c44 ?_
                                      refine s_ek_bk 2 (P := 231) (ls' := [(0, .int b), (1, .int c), (2, .int d)]) (st' := [.int 1]) (M' := v_mk s) rfl ?_
                                      obtain ⟨rfl, rfl⟩ := v_so h
                                      exact v_ret (fun _ => rfl)
                                  · refine v_i1t (T := 226) rfl rfl c43 ?_
                                    refine s_ek_bk 2 (P := 231) (ls' := [(0, .int b), (1, .int c), (2, .int d)]) (st' := [.int 1]) (M' := v_mk s) rfl ?_
                                    obtain ⟨rfl, rfl⟩ := v_so h
                                    exact v_ret (fun _ => rfl)
                                · rcases v_if h with ⟨c45, h⟩ | ⟨c45, h⟩
                                  · refine v_tsi (T := 218) (c := 52) rfl c45 rfl ?_
                                    refine s_ek_bk 1 (P := 219) (ls' := [(0, .int b), (1, .int c), (2, .int d)]) (st' := [.int c]) (M' := v_mk s) rfl ?_
                                    rcases v_if h with ⟨c46, h⟩ | ⟨c46, h⟩
                                    · refine v_i1f (T := 226) rfl rfl (fun q => q c46) ?_
                                      refine s_ek_bk 1 (P := 223) (ls' := [(0, .int b), (1, .int c), (2, .int d)]) (st' := [.int d]) (M' := v_mk s) rfl ?_
                                      rcases v_if h with ⟨c47, h⟩ | ⟨c47, h⟩
                                      · refine v_i1t (T := 230) rfl rfl c47 ?_
                                        refine s_ek_bk 1 (P := 231) (ls' := [(0, .int b), (1, .int c), (2, .int d)]) (st' := [.int 0]) (M' := v_mk s) rfl ?_
                                        obtain ⟨rfl, rfl⟩ := v_so h
                                        exact v_ret (fun _ => rfl)
                                      · refine v_i1f (T := 230) rfl rfl c47 ?_
                                        refine s_ek_bk 2 (P := 231) (ls' := [(0, .int b), (1, .int c), (2, .int d)]) (st' := [.int 1]) (M' := v_mk s) rfl ?_
                                        obtain ⟨rfl, rfl⟩ := v_so h
                                        exact v_ret (fun _ => rfl)
                                    · refine v_i1t (T := 226) rfl rfl c46 ?_
                                      refine s_ek_bk 2 (P := 231) (ls' := [(0, .int b), (1, .int c), (2, .int d)]) (st' := [.int 1]) (M' := v_mk s) rfl ?_
                                      obtain ⟨rfl, rfl⟩ := v_so h
                                      exact v_ret (fun _ => rfl)
                                  · rcases v_if h with ⟨c48, h⟩ | ⟨c48, h⟩
                                    · refine v_tsi (T := 218) (c := 53) rfl c48 rfl ?_
                                      refine s_ek_bk 1 (P := 219) (ls' := [(0, .int b), (1, .int c), (2, .int d)]) (st' := [.int c]) (M' := v_mk s) rfl ?_
                                      rcases v_if h with ⟨c49, h⟩ | ⟨c49, h⟩
                                      · refine v_i1f (T := 226) rfl rfl (fun q => q c49) ?_
                                        refine s_ek_bk 1 (P := 223) (ls' := [(0, .int b), (1, .int c), (2, .int d)]) (st' := [.int d]) (M' := v_mk s) rfl ?_
                                        rcases v_if h with ⟨c50, h⟩ | ⟨c50, h⟩
                                        · refine v_i1t (T := 230) rfl rfl c50 ?_
                                          refine s_ek_bk 1 (P := 231) (ls' := [(0, .int b), (1, .int c), (2, .int d)]) (st' := [.int 0]) (M' := v_mk s) rfl ?_
                                          obtain ⟨rfl, rfl⟩ := v_so h
                                          exact v_ret (fun _ => rfl)
                                        · refine v_i1f (T := 230) rfl rfl c50 ?_
                                          refine s_ek_bk 2 (P := 231) (ls' := [(0, .int b), (1, .int c), (2, .int d)]) (st' := [.int 1]) (M' := v_mk s) rfl ?_
                                          obtain ⟨rfl, rfl⟩ := v_so h
                                          exact v_ret (fun _ => rfl)
                                      · refine v_i1t (T := 226) rfl rfl c49 ?_
                                        refine s_ek_bk 2 (P := 231) (ls' := [(0, .int b), (1, .int c), (2, .int d)]) (st' := [.int 1]) (M' := v_mk s) rfl ?_
                                        obtain ⟨rfl, rfl⟩ := v_so h
                                        exact v_ret (fun _ => rfl)
                                    · rcases v_if h with ⟨c51, h⟩ | ⟨c51, h⟩
                                      · refine v_tsi (T := 218) (c := 54) rfl c51 rfl ?_
                                        refine s_ek_bk 1 (P := 219) (ls' := [(0, .int b), (1, .int c), (2, .int d)]) (st' := [.int c]) (M' := v_mk s) rfl ?_
                                        rcases v_if h with ⟨c52, h⟩ | ⟨c52, h⟩
                                        · refine v_i1f (T := 226) rfl rfl (fun q => q c52) ?_
                                          refine s_ek_bk 1 (P := 223) (ls' := [(0, .int b), (1, .int c), (2, .int d)]) (st' := [.int d]) (M' := v_mk s) rfl ?_
                                          rcases v_if h with ⟨c53, h⟩ | ⟨c53, h⟩
                                          · refine v_i1t (T := 230) rfl rfl c53 ?_
                                            refine s_ek_bk 1 (P := 231) (ls' := [(0, .int b), (1, .int c), (2, .int d)]) (st' := [.int 0]) (M' := v_mk s) rfl ?_
                                            obtain ⟨rfl, rfl⟩ := v_so h
                                            exact v_ret (fun _ => rfl)
                                          · refine v_i1f (T := 230) rfl rfl c53 ?_
                                            refine s_ek_bk 2 (P := 231) (ls' := [(0, .int b), (1, .int c), (2, .int d)]) (st' := [.int 1]) (M' := v_mk s) rfl ?_
                                            obtain ⟨rfl, rfl⟩ := v_so h
                                            exact v_ret (fun _ => rfl)
                                        · refine v_i1t (T := 226) rfl rfl c52 ?_
                                          refine s_ek_bk 2 (P := 231) (ls' := [(0, .int b), (1, .int c), (2, .int d)]) (st' := [.int 1]) (M' := v_mk s) rfl ?_
                                          obtain ⟨rfl, rfl⟩ := v_so h
                                          exact v_ret (fun _ => rfl)
                                      · rcases v_if h with ⟨c54, h⟩ | ⟨c54, h⟩
                                        · refine v_tsi (T := 218) (c := 55) rfl c54 rfl ?_
                                          refine s_ek_bk 1 (P := 219) (ls' := [(0, .int b), (1, .int c), (2, .int d)]) (st' := [.int c]) (M' := v_mk s) rfl ?_
                                          rcases v_if h with ⟨c55, h⟩ | ⟨c55, h⟩
                                          · refine v_i1f (T := 226) rfl rfl (fun q => q c55) ?_
                                            refine s_ek_bk 1 (P := 223) (ls' := [(0, .int b), (1, .int c), (2, .int d)]) (st' := [.int d]) (M' := v_mk s) rfl ?_
                                            rcases v_if h with ⟨c56, h⟩ | ⟨c56, h⟩
                                            · refine v_i1t (T := 230) rfl rfl c56 ?_
                                              refine s_ek_bk 1 (P := 231) (ls' := [(0, .int b), (1, .int c), (2, .int d)]) (st' := [.int 0]) (M' := v_mk s) rfl ?_
                                              obtain ⟨rfl, rfl⟩ := v_so h
                                              exact v_ret (fun _ => rfl)
                                            · refine v_i1f (T := 230) rfl rfl c56 ?_
                                              refine s_ek_bk 2 (P := 231) (ls' := [(0, .int b), (1, .int c), (2, .int d)]) (st' := [.int 1]) (M' := v_mk s) rfl ?_
                                              obtain ⟨rfl, rfl⟩ := v_so h
                                              exact v_ret (fun _ => rfl)
                                          · refine v_i1t (T := 226) rfl rfl c55 ?_
                                            refine s_ek_bk 2 (P := 231) (ls' := [(0, .int b), (1, .int c), (2, .int d)]) (st' := [.int 1]) (M' := v_mk s) rfl ?_
                                            obtain ⟨rfl, rfl⟩ := v_so h
                                            exact v_ret (fun _ => rfl)
                                        · rcases v_if h with ⟨c57, h⟩ | ⟨c57, h⟩
                                          · refine v_tsi (T := 218) (c := 56) rfl c57 rfl ?_
                                            refine s_ek_bk 1 (P := 219) (ls' := [(0, .int b), (1, .int c), (2, .int d)]) (st' := [.int c]) (M' := v_mk s) rfl ?_
                                            rcases v_if h with ⟨c58, h⟩ | ⟨c58, h⟩
                                            · refine v_i1f (T := 226) rfl rfl (fun q => q c58) ?_
                                              refine s_ek_bk 1 (P := 223) (ls' := [(0, .int b), (1, .int c), (2, .int d)]) (st' := [.int d]) (M' := v_mk s) rfl ?_
                                              rcases v_if h with ⟨c59, h⟩ | ⟨c59, h⟩
                                              · refine v_i1t (T := 230) rfl rfl c59 ?_
                                                refine s_ek_bk 1 (P := 231) (ls' := [(0, .int b), (1, .int c), (2, .int d)]) (st' := [.int 0]) (M' := v_mk s) rfl ?_
                                                obtain ⟨rfl, rfl⟩ := v_so h
                                                exact v_ret (fun _ => rfl)
                                              · refine v_i1f (T := 230) rfl rfl c59 ?_
                                                refine s_ek_bk 2 (P := 231) (ls' := [(0, .int b), (1, .int c), (2, .int d)]) (st' := [.int 1]) (M' := v_mk s) rfl ?_
                                                obtain ⟨rfl, rfl⟩ := v_so h
                                                exact v_ret (fun _ => rfl)
                                            · refine v_i1t (T := 226) rfl rfl c58 ?_
                                              refine s_ek_bk 2 (P := 231) (ls' := [(0, .int b), (1, .int c), (2, .int d)]) (st' := [.int 1]) (M' := v_mk s) rfl ?_
                                              obtain ⟨rfl, rfl⟩ := v_so h
                                              exact v_ret (fun _ => rfl)
                                          · rcases v_if h with ⟨c60, h⟩ | ⟨c60, h⟩
                                            · refine v_tsi (T := 218) (c := 57) rfl c60 rfl ?_
                                              refine s_ek_bk 1 (P := 219) (ls' := [(0, .int b), (1, .int c), (2, .int d)]) (st' := [.int c]) (M' := v_mk s) rfl ?_
                                              rcases v_if h with ⟨c61, h⟩ | ⟨c61, h⟩
                                              · refine v_i1f (T := 226) rfl rfl (fun q => q c61) ?_
                                                refine s_ek_bk 1 (P := 223) (ls' := [(0, .int b), (1, .int c), (2, .int d)]) (st' := [.int d]) (M' := v_mk s) rfl ?_
                                                rcases v_if h with ⟨c62, h⟩ | ⟨c62, h⟩
                                                · refine v_i1t (T := 230) rfl rfl c62 ?_
                                                  refine s_ek_bk 1 (P := 231) (ls' := [(0, .int b), (1, .int c), (2, .int d)]) (st' := [.int 0]) (M' := v_mk s) rfl ?_
                                                  obtain ⟨rfl, rfl⟩ := v_so h
                                                  exact v_ret (fun _ => rfl)
                                                · refine v_i1f (T := 230) rfl rfl c62 ?_
                                                  refine s_ek_bk 2 (P := 231) (ls' := [(0, .int b), (1, .int c), (2, .int d)]) (st' := [.int 1]) (M' := v_mk s) rfl ?_
                                                  obtain ⟨rfl, rfl⟩ := v_so h
                                                  exact v_ret (fun _ => rfl)
                                              · refine v_i1t (T := 226) rfl rfl c61 ?_
                                                refine s_ek_bk 2 (P := 231) (ls' := [(0, .int b), (1, .int c), (2, .int d)]) (st' := [.int 1]) (M' := v_mk s) rfl ?_
                                                obtain ⟨rfl, rfl⟩ := v_so h
                                                exact v_ret (fun _ => rfl)
                                            · rcases v_if h with ⟨c63, h⟩ | ⟨c63, h⟩
                                              · refine v_tsi (T := 218) (c := 58) rfl c63 rfl ?_
                                                refine s_ek_bk 1 (P := 219) (ls' := [(0, .int b), (1, .int c), (2, .int d)]) (st' := [.int c]) (M' := v_mk s) rfl ?_
                                                rcases v_if h with ⟨c64, h⟩ | ⟨c64, h⟩
                                                · refine v_i1f (T := 226) rfl rfl (fun q => q c64) ?_
                                                  refine s_ek_bk 1 (P := 223) (ls' := [(0, .int b), (1, .int c), (2, .int d)]) (st' := [.int d]) (M' := v_mk s) rfl ?_
                                                  rcases v_if h with ⟨c65, h⟩ | ⟨c65, h⟩
                                                  · refine v_i1t (T := 230) rfl rfl c65 ?_
                                                    refine s_ek_bk 1 (P := 231) (ls' := [(0, .int b), (1, .int c), (2, .int d)]) (st' := [.int 0]) (M' := v_mk s) rfl ?_
                                                    obtain ⟨rfl, rfl⟩ := v_so h
                                                    exact v_ret (fun _ => rfl)
                                                  · refine v_i1f (T := 230) rfl rfl c65 ?_
                                                    refine s_ek_bk 2 (P := 231) (ls' := [(0, .int b), (1, .int c), (2, .int d)]) (st' := [.int 1]) (M' := v_mk s) rfl ?_
                                                    obtain ⟨rfl, rfl⟩ := v_so h
                                                    exact v_ret (fun _ => rfl)
                                                · refine v_i1t (T := 226) rfl rfl c64 ?_
                                                  refine s_ek_bk 2 (P := 231) (ls' := [(0, .int b), (1, .int c), (2, .int d)]) (st' := [.int 1]) (M' := v_mk s) rfl ?_
                                                  obtain ⟨rfl, rfl⟩ := v_so h
                                                  exact v_ret (fun _ => rfl)
                                              · rcases v_if h with ⟨c66, h⟩ | ⟨c66, h⟩
                                                · refine v_tsi (T := 218) (c := 59) rfl c66 rfl ?_
                                                  refine s_ek_bk 1 (P := 219) (ls' := [(0, .int b), (1, .int c), (2, .int d)]) (st' := [.int c]) (M' := v_mk s) rfl ?_
                                                  rcases v_if h with ⟨c67, h⟩ | ⟨c67, h⟩
                                                  · refine v_i1f (T := 226) rfl rfl (fun q => q c67) ?_
                                                    refine s_ek_bk 1 (P := 223) (ls' := [(0, .int b), (1, .int c), (2, .int d)]) (st' := [.int d]) (M' := v_mk s) rfl ?_
                                                    rcases v_if h with ⟨c68, h⟩ | ⟨c68, h⟩
                                                    · refine v_i1t (T := 230) rfl rfl c68 ?_
                                                      refine s_ek_bk 1 (P := 231) (ls' := [(0, .int b), (1, .int c), (2, .int d)]) (st' := [.int 0]) (M' := v_mk s) rfl ?_
                                                      obtain ⟨rfl, rfl⟩ := v_so h
                                                      exact v_ret (fun _ => rfl)
                                                    · refine v_i1f (T := 230) rfl rfl c68 ?_
                                                      refine s_ek_bk 2 (P := 231) (ls' := [(0, .int b), (1, .int c), (2, .int d)]) (st' := [.int 1]) (M' := v_mk s) rfl ?_
                                                      obtain ⟨rfl, rfl⟩ := v_so h
                                                      exact v_ret (fun _ => rfl)
                                                  · refine v_i1t (T := 226) rfl rfl c67 ?_
                                                    refine s_ek_bk 2 (P := 231) (ls' := [(0, .int b), (1, .int c), (2, .int d)]) (st' := [.int 1]) (M' := v_mk s) rfl ?_
                                                    obtain ⟨rfl, rfl⟩ := v_so h
                                                    exact v_ret (fun _ => rfl)
                                                · rcases v_if h with ⟨c69, h⟩ | ⟨c69, h⟩
                                                  · refine v_tsi (T := 171) (c := 60) rfl c69 rfl ?_
                                                    refine s_ek_bk 2 (P := 173) (ls' := [(0, .int b), (1, .int c), (2, .int d)]) (st' := [.int d, .int c]) (M' := v_mk s) rfl ?_
                                                    rcases v_if h with ⟨c70, h⟩ | ⟨c70, h⟩
                                                    · refine v_i2t (T := 180) rfl rfl c70 ?_
                                                      refine s_ek_bk 1 (P := 181) (ls' := [(0, .int b), (1, .int c), (2, .int d)]) (st' := [.int 0]) (M' := v_mk s) rfl ?_
                                                      obtain ⟨rfl, rfl⟩ := v_so h
                                                      exact v_ret (fun _ => rfl)
                                                    · refine v_i2f (T := 180) rfl rfl c70 ?_
                                                      refine s_ek_bk 2 (P := 181) (ls' := [(0, .int b), (1, .int c), (2, .int d)]) (st' := [.int 1]) (M' := v_mk s) rfl ?_
                                                      obtain ⟨rfl, rfl⟩ := v_so h
                                                      exact v_ret (fun _ => rfl)
                                                  · rcases v_if h with ⟨c71, h⟩ | ⟨c71, h⟩
                                                    · refine v_tsi (T := 182) (c := 61) rfl c71 rfl ?_
                                                      refine s_ek_bk 2 (P := 184) (ls' := [(0, .int b), (1, .int c), (2, .int d)]) (st' := [.int d, .int c]) (M' := v_mk s) rfl ?_
                                                      rcases v_if h with ⟨c72, h⟩ | ⟨c72, h⟩
                                                      · refine v_i2f (T := 191) rfl rfl (fun q => q c72) ?_
                                                        refine s_ek_bk 2 (P := 192) (ls' := [(0, .int b), (1, .int c), (2, .int d)]) (st' := [.int 1]) (M' := v_mk s) rfl ?_
                                                        obtain ⟨rfl, rfl⟩ := v_so h
                                                        exact v_ret (fun _ => rfl)
                                                      · refine v_i2t (T := 191) rfl rfl c72 ?_
                                                        refine s_ek_bk 1 (P := 192) (ls' := [(0, .int b), (1, .int c), (2, .int d)]) (st' := [.int 0]) (M' := v_mk s) rfl ?_
                                                        obtain ⟨rfl, rfl⟩ := v_so h
                                                        exact v_ret (fun _ => rfl)
                                                    · refine v_tsi (T := 193) (c := 62) rfl (by omega) rfl ?_
                                                      refine s_ek_bk 2 (P := 195) (ls' := [(0, .int b), (1, .int c), (2, .int d)]) (st' := [.int d, .int c]) (M' := v_mk s) rfl ?_
                                                      rcases v_if h with ⟨c73, h⟩ | ⟨c73, h⟩
                                                      · refine v_i2t (T := 202) rfl rfl c73 ?_
                                                        refine s_ek_bk 1 (P := 203) (ls' := [(0, .int b), (1, .int c), (2, .int d)]) (st' := [.int 0]) (M' := v_mk s) rfl ?_
                                                        obtain ⟨rfl, rfl⟩ := v_so h
                                                        exact v_ret (fun _ => rfl)
                                                      · refine v_i2f (T := 202) rfl rfl c73 ?_
                                                        refine s_ek_bk 2 (P := 203) (ls' := [(0, .int b), (1, .int c), (2, .int d)]) (st' := [.int 1]) (M' := v_mk s) rfl ?_
                                                        obtain ⟨rfl, rfl⟩ := v_so h
                                                        exact v_ret (fun _ => rfl)
noncomputable def f_Md_worked_L12b (p1 : Int32) (p3 : Int32) (k188 : vS → Option (Int32 × vS)) (again : Int32 → Int32 → vS → Option (Int32 × vS)) (v4 : Int32) (v5 : Int32) (s : vS) : Option (Int32 × vS) := (if (((130 : Int32) * p1) + p3).toInt ≤ v5.toInt then (k188 s) else (if v_in v5 1430 then (if (s.1 153 (Int32.toNatClampNeg v5)).toInt = 1 then (if (s.1 153 (Int32.toNatClampNeg v5)).toInt = 1 then (if v_in v5 1430 then (if v_in v4 130 then (v_let (v_w1 s 159 (Int32.toNatClampNeg v4) (s.1 154 (Int32.toNatClampNeg v5))) (fun s107 => (again (v4 + 1) (v5 + 1) s107))) else none) else none) else (if v_in v5 1430 then (if v_in (s.1 154 (Int32.toNatClampNeg v5)) 6 then (if v_in v4 130 then (v_let (v_w1 s 159 (Int32.toNatClampNeg v4) (s.1 158 (Int32.toNatClampNeg (s.1 154 (Int32.toNatClampNeg v5))))) (fun s111 => (again (v4 + 1) (v5 + 1) s111))) else none) else none) else none)) else (if (s.1 153 (Int32.toNatClampNeg v5)).toInt = 2 then (if (s.1 153 (Int32.toNatClampNeg v5)).toInt = 1 then (if v_in v5 1430 then (if v_in v4 130 then (v_let (v_w1 s 159 (Int32.toNatClampNeg v4) (s.1 154 (Int32.toNatClampNeg v5))) (fun s116 => (again (v4 + 1) (v5 + 1) s116))) else none) else none) else (if v_in v5 1430 then (if v_in (s.1 154 (Int32.toNatClampNeg v5)) 6 then (if v_in v4 130 then (v_let (v_w1 s 159 (Int32.toNatClampNeg v4) (s.1 158 (Int32.toNatClampNeg (s.1 154 (Int32.toNatClampNeg v5))))) (fun s120 => (again (v4 + 1) (v5 + 1) s120))) else none) else none) else none)) else (if (s.1 153 (Int32.toNatClampNeg v5)).toInt = 3 then (if v_in (v4 - (1 : Int32)) 130 then (if (s.1 159 (Int32.toNatClampNeg (v4 - (1 : Int32)))).toInt = 0 then (if v_in (v4 - (1 : Int32)) 130 then (v_let (v_w1 s 159 (Int32.toNatClampNeg (v4 - (1 : Int32))) 1) (fun s125 => (again v4 (v5 + 1) s125))) else none) else (if v_in (v4 - (1 : Int32)) 130 then (v_let (v_w1 s 159 (Int32.toNatClampNeg (v4 - (1 : Int32))) 0) (fun s127 => (again v4 (v5 + 1) s127))) else none)) else none) else (if (s.1 153 (Int32.toNatClampNeg v5)).toInt = 4 then (if v_in (v4 - (1 : Int32)) 130 then (if v_in (v4 - (1 : Int32)) 130 then (v_let (v_w1 s 159 (Int32.toNatClampNeg (v4 - (1 : Int32))) (-(s.1 159 (Int32.toNatClampNeg (v4 - (1 : Int32)))))) (fun s131 => (again v4 (v5 + 1) s131))) else none) else none) else (if v_in ((v4 + (-1)) - (1 : Int32)) 130 then (if v_in (v4 + (-1)) 130 then (v_bi (f_Md_twoOf (s.1 153 (Int32.toNatClampNeg v5)) (s.1 159 (Int32.toNatClampNeg ((v4 + (-1)) - (1 : Int32)))) (s.1 159 (Int32.toNatClampNeg (v4 + (-1)))) s) (fun r134 s134 => (if v_in ((v4 + (-1)) - (1 : Int32)) 130 then (v_let (v_w1 s134 159 (Int32.toNatClampNeg ((v4 + (-1)) - (1 : Int32))) r134) (fun s136 => (again (v4 + (-1)) (v5 + 1) s136))) else none))) else none) else none))))) else none))
noncomputable def f_Md_worked_L12 (p1 : Int32) (p3 : Int32) (k188 : vS → Option (Int32 × vS)) (n : Nat) : Int32 → Int32 → vS → Option (Int32 × vS) := Nat.rec (motive := fun _ => Int32 → Int32 → vS → Option (Int32 × vS)) (fun _ _ _ => none) (fun _ again => f_Md_worked_L12b p1 p3 k188 again) n
noncomputable def f_Md_worked (b : Int32) (c : Int32) (d : Int32) (s : vS) : Option (Int32 × vS) := (f_Md_worked_L12 b d (fun s1 => (some ((s1.1 159 0), s1))) 4096 0 (((130 : Int32) * b) + c) s)
set_option maxRecDepth 20000 in
set_option maxHeartbeats 4000000 in
theorem t_Md_worked_L12 {L : Nat} {xs : Nat → Int32} {p1 : Int32} {p3 : Int32} {k188 : vS → Option (Int32 × vS)} {D : Nat} (hD : 1 ≤ D) {r : Int32} {s' : vS} (hk188 : ∀ (s : vS), k188 s = some (r, s') → s_Ek (s_rows 3 L xs) D s_e199.1 188 [(0, .ref 151)] [] (v_mk s) (v_Q (some (.int r)) s')) : ∀ (n : Nat) (v4 : Int32) (v5 : Int32) (s : vS), f_Md_worked_L12 p1 p3 k188 n v4 v5 s = some (r, s') → s_Ek (s_rows 3 L xs) D s_e199.1 12 [(0, .ref 151), (1, .int p1), (3, .int p3), (4, .int v4), (5, .int v5)] [] (v_mk s) (v_Q (some (.int r)) s') := by
  intro n
  induction n with
  | zero => intro v4 v5 s h; exact nomatch (show (none : Option (Int32 × vS)) = some (r, s') from h)
  | succ n ih =>
    intro v4 v5 s h
    replace h : f_Md_worked_L12b p1 p3 k188 (f_Md_worked_L12 p1 p3 k188 n) v4 v5 s = some (r, s') := h
    unfold f_Md_worked_L12b at h
    refine s_ek_bk 6 (P := 21) (ls' := [(0, .ref 151), (1, .int p1), (3, .int p3), (4, .int v4), (5, .int v5)]) (st' := [.int (((130 : Int32) * p1) + p3), .int v5]) (M' := v_mk s) rfl ?_
    rcases v_if h with ⟨c101, h⟩ | ⟨c101, h⟩
    · refine v_i2t (T := 188) rfl rfl c101 ?_
      refine v_ls (ls' := [(0, .ref 151)]) ⟨rfl, trivial⟩ (show ([0] : List Nat).Nodup from by decide) ?_
      exact hk188 _ h
    · refine v_i2f (T := 188) rfl rfl c101 ?_
      refine s_ek_bk 1 (P := 25) (ls' := [(0, .ref 151), (1, .int p1), (3, .int p3), (4, .int v4), (5, .int v5)]) (st' := [.ref 151]) (M' := v_mk s) rfl ?_
      refine v_gf rfl (v_gr (rfl : v_kd 151 = 11) (rfl : v_sl 151 7 = .ref 153) ⟨rfl, rfl, by decide⟩) ?_
      refine s_ek_bk 1 (P := 30) (ls' := [(0, .ref 151), (1, .int p1), (3, .int p3), (4, .int v4), (5, .int v5)]) (st' := [.int v5, .ref 153]) (M' := v_mk s) rfl ?_
      obtain ⟨c102, h⟩ := v_ck h
      refine v_ba (i := v5) rfl (v_ai (rfl : v_kd 153 = 12) rfl (by decide) v_all12 (v_cn (rfl : v_ln 153 = 1430) c102)) ?_
      refine s_ek_bk 3 (P := 36) (ls' := [(6, .int (s.1 153 (Int32.toNatClampNeg v5))), (0, .ref 151), (1, .int p1), (3, .int p3), (4, .int v4), (5, .int v5)]) (st' := [.int 1, .int (s.1 153 (Int32.toNatClampNeg v5))]) (M' := v_mk s) rfl ?_
      rcases v_if h with ⟨c103, h⟩ | ⟨c103, h⟩
      · refine v_i2t (T := 45) rfl rfl c103 ?_
        refine s_ek_bk 1 (P := 46) (ls' := [(6, .int (s.1 153 (Int32.toNatClampNeg v5))), (0, .ref 151), (1, .int p1), (3, .int p3), (4, .int v4), (5, .int v5)]) (st' := [.ref 151]) (M' := v_mk s) rfl ?_
        refine v_gf rfl (v_gr (rfl : v_kd 151 = 11) (rfl : v_sl 151 13 = .ref 159) ⟨rfl, rfl, by decide⟩) ?_
        refine s_ek_bk 3 (P := 54) (ls' := [(6, .int (s.1 153 (Int32.toNatClampNeg v5))), (0, .ref 151), (1, .int p1), (3, .int p3), (4, .int v4), (5, .int v5)]) (st' := [.int 1, .int (s.1 153 (Int32.toNatClampNeg v5)), .int v4, .ref 159]) (M' := v_mk s) rfl ?_
        rcases v_if h with ⟨c104, h⟩ | ⟨c104, h⟩
        · refine v_i2f (T := 67) rfl rfl (fun q => q c104) ?_
          refine s_ek_bk 1 (P := 58) (ls' := [(6, .int (s.1 153 (Int32.toNatClampNeg v5))), (0, .ref 151), (1, .int p1), (3, .int p3), (4, .int v4), (5, .int v5)]) (st' := [.ref 151, .int v4, .ref 159]) (M' := v_mk s) rfl ?_
          refine v_gf rfl (v_gr (rfl : v_kd 151 = 11) (rfl : v_sl 151 8 = .ref 154) ⟨rfl, rfl, by decide⟩) ?_
          refine s_ek_bk 1 (P := 63) (ls' := [(6, .int (s.1 153 (Int32.toNatClampNeg v5))), (0, .ref 151), (1, .int p1), (3, .int p3), (4, .int v4), (5, .int v5)]) (st' := [.int v5, .ref 154, .int v4, .ref 159]) (M' := v_mk s) rfl ?_
          obtain ⟨c105, h⟩ := v_ck h
          refine v_ia (i := v5) rfl (v_ai (rfl : v_kd 154 = 13) rfl (by decide) v_all13 (v_cn (rfl : v_ln 154 = 1430) c105)) ?_
          refine s_ek_bk 1 (P := 79) (ls' := [(6, .int (s.1 153 (Int32.toNatClampNeg v5))), (0, .ref 151), (1, .int p1), (3, .int p3), (4, .int v4), (5, .int v5)]) (st' := [.int (s.1 154 (Int32.toNatClampNeg v5)), .int v4, .ref 159]) (M' := v_mk s) rfl ?_
          obtain ⟨c106, h⟩ := v_ck h
          obtain ⟨s107, es107, h⟩ := v_ld h
          refine v_ist (M' := v_mk s107) (i := v4) rfl (by rw [es107]; exact v_pai (rfl : v_kd 159 = 13) rfl (by decide) v_all13 (v_cn (rfl : v_ln 159 = 130) c106)) ?_
          refine s_ek_bk 4 (P := 12) (ls' := [(5, .int (v5 + 1)), (4, .int (v4 + 1)), (6, .int (s.1 153 (Int32.toNatClampNeg v5))), (0, .ref 151), (1, .int p1), (3, .int p3)]) (st' := []) (M' := v_mk s107) rfl ?_
          refine v_ls (ls' := [(0, .ref 151), (1, .int p1), (3, .int p3), (4, .int (v4 + 1)), (5, .int (v5 + 1))]) ⟨rfl, rfl, rfl, rfl, rfl, trivial⟩ (show ([0, 1, 3, 4, 5] : List Nat).Nodup from by decide) ?_
          exact ih _ _ _ h
        · refine v_i2t (T := 67) rfl rfl c104 ?_
          refine s_ek_bk 1 (P := 68) (ls' := [(6, .int (s.1 153 (Int32.toNatClampNeg v5))), (0, .ref 151), (1, .int p1), (3, .int p3), (4, .int v4), (5, .int v5)]) (st' := [.ref 151, .int v4, .ref 159]) (M' := v_mk s) rfl ?_
          refine v_gf rfl (v_gr (rfl : v_kd 151 = 11) (rfl : v_sl 151 12 = .ref 158) ⟨rfl, rfl, by decide⟩) ?_
          refine s_ek_bk 1 (P := 72) (ls' := [(6, .int (s.1 153 (Int32.toNatClampNeg v5))), (0, .ref 151), (1, .int p1), (3, .int p3), (4, .int v4), (5, .int v5)]) (st' := [.ref 151, .ref 158, .int v4, .ref 159]) (M' := v_mk s) rfl ?_
          refine v_gf rfl (v_gr (rfl : v_kd 151 = 11) (rfl : v_sl 151 8 = .ref 154) ⟨rfl, rfl, by decide⟩) ?_
          refine s_ek_bk 1 (P := 77) (ls' := [(6, .int (s.1 153 (Int32.toNatClampNeg v5))), (0, .ref 151), (1, .int p1), (3, .int p3), (4, .int v4), (5, .int v5)]) (st' := [.int v5, .ref 154, .ref 158, .int v4, .ref 159]) (M' := v_mk s) rfl ?_
          obtain ⟨c108, h⟩ := v_ck h
          refine v_ia (i := v5) rfl (v_ai (rfl : v_kd 154 = 13) rfl (by decide) v_all13 (v_cn (rfl : v_ln 154 = 1430) c108)) ?_
          obtain ⟨c109, h⟩ := v_ck h
          refine v_ia (i := (s.1 154 (Int32.toNatClampNeg v5))) rfl (v_ai (rfl : v_kd 158 = 13) rfl (by decide) v_all13 (v_cn (rfl : v_ln 158 = 6) c109)) ?_
          obtain ⟨c110, h⟩ := v_ck h
          obtain ⟨s111, es111, h⟩ := v_ld h
          refine v_ist (M' := v_mk s111) (i := v4) rfl (by rw [es111]; exact v_pai (rfl : v_kd 159 = 13) rfl (by decide) v_all13 (v_cn (rfl : v_ln 159 = 130) c110)) ?_
          refine s_ek_bk 4 (P := 12) (ls' := [(5, .int (v5 + 1)), (4, .int (v4 + 1)), (6, .int (s.1 153 (Int32.toNatClampNeg v5))), (0, .ref 151), (1, .int p1), (3, .int p3)]) (st' := []) (M' := v_mk s111) rfl ?_
          refine v_ls (ls' := [(0, .ref 151), (1, .int p1), (3, .int p3), (4, .int (v4 + 1)), (5, .int (v5 + 1))]) ⟨rfl, rfl, rfl, rfl, rfl, trivial⟩ (show ([0, 1, 3, 4, 5] : List Nat).Nodup from by decide) ?_
          exact ih _ _ _ h
      · refine v_i2f (T := 45) rfl rfl c103 ?_
        refine s_ek_bk 2 (P := 42) (ls' := [(6, .int (s.1 153 (Int32.toNatClampNeg v5))), (0, .ref 151), (1, .int p1), (3, .int p3), (4, .int v4), (5, .int v5)]) (st' := [.int 2, .int (s.1 153 (Int32.toNatClampNeg v5))]) (M' := v_mk s) rfl ?_
        rcases v_if h with ⟨c112, h⟩ | ⟨c112, h⟩
        · refine v_i2f (T := 86) rfl rfl (fun q => q c112) ?_
          refine s_ek_bk 1 (P := 46) (ls' := [(6, .int (s.1 153 (Int32.toNatClampNeg v5))), (0, .ref 151), (1, .int p1), (3, .int p3), (4, .int v4), (5, .int v5)]) (st' := [.ref 151]) (M' := v_mk s) rfl ?_
          refine v_gf rfl (v_gr (rfl : v_kd 151 = 11) (rfl : v_sl 151 13 = .ref 159) ⟨rfl, rfl, by decide⟩) ?_
          refine s_ek_bk 3 (P := 54) (ls' := [(6, .int (s.1 153 (Int32.toNatClampNeg v5))), (0, .ref 151), (1, .int p1), (3, .int p3), (4, .int v4), (5, .int v5)]) (st' := [.int 1, .int (s.1 153 (Int32.toNatClampNeg v5)), .int v4, .ref 159]) (M' := v_mk s) rfl ?_
          rcases v_if h with ⟨c113, h⟩ | ⟨c113, h⟩
          · refine v_i2f (T := 67) rfl rfl (fun q => q c113) ?_
            refine s_ek_bk 1 (P := 58) (ls' := [(6, .int (s.1 153 (Int32.toNatClampNeg v5))), (0, .ref 151), (1, .int p1), (3, .int p3), (4, .int v4), (5, .int v5)]) (st' := [.ref 151, .int v4, .ref 159]) (M' := v_mk s) rfl ?_
            refine v_gf rfl (v_gr (rfl : v_kd 151 = 11) (rfl : v_sl 151 8 = .ref 154) ⟨rfl, rfl, by decide⟩) ?_
            refine s_ek_bk 1 (P := 63) (ls' := [(6, .int (s.1 153 (Int32.toNatClampNeg v5))), (0, .ref 151), (1, .int p1), (3, .int p3), (4, .int v4), (5, .int v5)]) (st' := [.int v5, .ref 154, .int v4, .ref 159]) (M' := v_mk s) rfl ?_
            obtain ⟨c114, h⟩ := v_ck h
            refine v_ia (i := v5) rfl (v_ai (rfl : v_kd 154 = 13) rfl (by decide) v_all13 (v_cn (rfl : v_ln 154 = 1430) c114)) ?_
            refine s_ek_bk 1 (P := 79) (ls' := [(6, .int (s.1 153 (Int32.toNatClampNeg v5))), (0, .ref 151), (1, .int p1), (3, .int p3), (4, .int v4), (5, .int v5)]) (st' := [.int (s.1 154 (Int32.toNatClampNeg v5)), .int v4, .ref 159]) (M' := v_mk s) rfl ?_
            obtain ⟨c115, h⟩ := v_ck h
            obtain ⟨s116, es116, h⟩ := v_ld h
            refine v_ist (M' := v_mk s116) (i := v4) rfl (by rw [es116]; exact v_pai (rfl : v_kd 159 = 13) rfl (by decide) v_all13 (v_cn (rfl : v_ln 159 = 130) c115)) ?_
            refine s_ek_bk 4 (P := 12) (ls' := [(5, .int (v5 + 1)), (4, .int (v4 + 1)), (6, .int (s.1 153 (Int32.toNatClampNeg v5))), (0, .ref 151), (1, .int p1), (3, .int p3)]) (st' := []) (M' := v_mk s116) rfl ?_
            refine v_ls (ls' := [(0, .ref 151), (1, .int p1), (3, .int p3), (4, .int (v4 + 1)), (5, .int (v5 + 1))]) ⟨rfl, rfl, rfl, rfl, rfl, trivial⟩ (show ([0, 1, 3, 4, 5] : List Nat).Nodup from by decide) ?_
            exact ih _ _ _ h
          · refine v_i2t (T := 67) rfl rfl c113 ?_
            refine s_ek_bk 1 (P := 68) (ls' := [(6, .int (s.1 153 (Int32.toNatClampNeg v5))), (0, .ref 151), (1, .int p1), (3, .int p3), (4, .int v4), (5, .int v5)]) (st' := [.ref 151, .int v4, .ref 159]) (M' := v_mk s) rfl ?_
            refine v_gf rfl (v_gr (rfl : v_kd 151 = 11) (rfl : v_sl 151 12 = .ref 158) ⟨rfl, rfl, by decide⟩) ?_
            refine s_ek_bk 1 (P := 72) (ls' := [(6, .int (s.1 153 (Int32.toNatClampNeg v5))), (0, .ref 151), (1, .int p1), (3, .int p3), (4, .int v4), (5, .int v5)]) (st' := [.ref 151, .ref 158, .int v4, .ref 159]) (M' := v_mk s) rfl ?_
            refine v_gf rfl (v_gr (rfl : v_kd 151 = 11) (rfl : v_sl 151 8 = .ref 154) ⟨rfl, rfl, by decide⟩) ?_
            refine s_ek_bk 1 (P := 77) (ls' := [(6, .int (s.1 153 (Int32.toNatClampNeg v5))), (0, .ref 151), (1, .int p1), (3, .int p3), (4, .int v4), (5, .int v5)]) (st' := [.int v5, .ref 154, .ref 158, .int v4, .ref 159]) (M' := v_mk s) rfl ?_
            obtain ⟨c117, h⟩ := v_ck h
            refine v_ia (i := v5) rfl (v_ai (rfl : v_kd 154 = 13) rfl (by decide) v_all13 (v_cn (rfl : v_ln 154 = 1430) c117)) ?_
            obtain ⟨c118, h⟩ := v_ck h
            refine v_ia (i := (s.1 154 (Int32.toNatClampNeg v5))) rfl (v_ai (rfl : v_kd 158 = 13) rfl (by decide) v_all13 (v_cn (rfl : v_ln 158 = 6) c118)) ?_
            obtain ⟨c119, h⟩ := v_ck h
            obtain ⟨s120, es120, h⟩ := v_ld h
            refine v_ist (M' := v_mk s120) (i := v4) rfl (by rw [es120]; exact v_pai (rfl : v_kd 159 = 13) rfl (by decide) v_all13 (v_cn (rfl : v_ln 159 = 130) c119)) ?_
            refine s_ek_bk 4 (P := 12) (ls' := [(5, .int (v5 + 1)), (4, .int (v4 + 1)), (6, .int (s.1 153 (Int32.toNatClampNeg v5))), (0, .ref 151), (1, .int p1), (3, .int p3)]) (st' := []) (M' := v_mk s120) rfl ?_
            refine v_ls (ls' := [(0, .ref 151), (1, .int p1), (3, .int p3), (4, .int (v4 + 1)), (5, .int (v5 + 1))]) ⟨rfl, rfl, rfl, rfl, rfl, trivial⟩ (show ([0, 1, 3, 4, 5] : List Nat).Nodup from by decide) ?_
            exact ih _ _ _ h
        · refine v_i2t (T := 86) rfl rfl c112 ?_
          refine s_ek_bk 2 (P := 89) (ls' := [(6, .int (s.1 153 (Int32.toNatClampNeg v5))), (0, .ref 151), (1, .int p1), (3, .int p3), (4, .int v4), (5, .int v5)]) (st' := [.int 3, .int (s.1 153 (Int32.toNatClampNeg v5))]) (M' := v_mk s) rfl ?_
          rcases v_if h with ⟨c121, h⟩ | ⟨c121, h⟩
          · refine v_i2f (T := 121) rfl rfl (fun q => q c121) ?_
            refine s_ek_bk 1 (P := 93) (ls' := [(6, .int (s.1 153 (Int32.toNatClampNeg v5))), (0, .ref 151), (1, .int p1), (3, .int p3), (4, .int v4), (5, .int v5)]) (st' := [.ref 151]) (M' := v_mk s) rfl ?_
            refine v_gf rfl (v_gr (rfl : v_kd 151 = 11) (rfl : v_sl 151 13 = .ref 159) ⟨rfl, rfl, by decide⟩) ?_
            refine s_ek_bk 4 (P := 101) (ls' := [(6, .int (s.1 153 (Int32.toNatClampNeg v5))), (0, .ref 151), (1, .int p1), (3, .int p3), (4, .int v4), (5, .int v5)]) (st' := [.ref 151, .int (v4 - (1 : Int32)), .ref 159]) (M' := v_mk s) rfl ?_
            refine v_gf rfl (v_gr (rfl : v_kd 151 = 11) (rfl : v_sl 151 13 = .ref 159) ⟨rfl, rfl, by decide⟩) ?_
            refine s_ek_bk 3 (P := 108) (ls' := [(6, .int (s.1 153 (Int32.toNatClampNeg v5))), (0, .ref 151), (1, .int p1), (3, .int p3), (4, .int v4), (5, .int v5)]) (st' := [.int (v4 - (1 : Int32)), .ref 159, .int (v4 - (1 : Int32)), .ref 159]) (M' := v_mk s) rfl ?_
            obtain ⟨c122, h⟩ := v_ck h
            refine v_ia (i := (v4 - (1 : Int32))) rfl (v_ai (rfl : v_kd 159 = 13) rfl (by decide) v_all13 (v_cn (rfl : v_ln 159 = 130) c122)) ?_
            rcases v_if h with ⟨c123, h⟩ | ⟨c123, h⟩
            · refine v_i1f (T := 116) rfl rfl (fun q => q c123) ?_
              refine s_ek_bk 2 (P := 117) (ls' := [(6, .int (s.1 153 (Int32.toNatClampNeg v5))), (0, .ref 151), (1, .int p1), (3, .int p3), (4, .int v4), (5, .int v5)]) (st' := [.int 1, .int (v4 - (1 : Int32)), .ref 159]) (M' := v_mk s) rfl ?_
              obtain ⟨c124, h⟩ := v_ck h
              obtain ⟨s125, es125, h⟩ := v_ld h
              refine v_ist (M' := v_mk s125) (i := (v4 - (1 : Int32))) rfl (by rw [es125]; exact v_pai (rfl : v_kd 159 = 13) rfl (by decide) v_all13 (v_cn (rfl : v_ln 159 = 130) c124)) ?_
              refine s_ek_bk 3 (P := 12) (ls' := [(5, .int (v5 + 1)), (6, .int (s.1 153 (Int32.toNatClampNeg v5))), (0, .ref 151), (1, .int p1), (3, .int p3), (4, .int v4)]) (st' := []) (M' := v_mk s125) rfl ?_
              refine v_ls (ls' := [(0, .ref 151), (1, .int p1), (3, .int p3), (4, .int v4), (5, .int (v5 + 1))]) ⟨rfl, rfl, rfl, rfl, rfl, trivial⟩ (show ([0, 1, 3, 4, 5] : List Nat).Nodup from by decide) ?_
              exact ih _ _ _ h
            · refine v_i1t (T := 116) rfl rfl c123 ?_
              refine s_ek_bk 1 (P := 117) (ls' := [(6, .int (s.1 153 (Int32.toNatClampNeg v5))), (0, .ref 151), (1, .int p1), (3, .int p3), (4, .int v4), (5, .int v5)]) (st' := [.int 0, .int (v4 - (1 : Int32)), .ref 159]) (M' := v_mk s) rfl ?_
              obtain ⟨c126, h⟩ := v_ck h
              obtain ⟨s127, es127, h⟩ := v_ld h
              refine v_ist (M' := v_mk s127) (i := (v4 - (1 : Int32))) rfl (by rw [es127]; exact v_pai (rfl : v_kd 159 = 13) rfl (by decide) v_all13 (v_cn (rfl : v_ln 159 = 130) c126)) ?_
              refine s_ek_bk 3 (P := 12) (ls' := [(5, .int (v5 + 1)), (6, .int (s.1 153 (Int32.toNatClampNeg v5))), (0, .ref 151), (1, .int p1), (3, .int p3), (4, .int v4)]) (st' := []) (M' := v_mk s127) rfl ?_
              refine v_ls (ls' := [(0, .ref 151), (1, .int p1), (3, .int p3), (4, .int v4), (5, .int (v5 + 1))]) ⟨rfl, rfl, rfl, rfl, rfl, trivial⟩ (show ([0, 1, 3, 4, 5] : List Nat).Nodup from by decide) ?_
              exact ih _ _ _ h
          · refine v_i2t (T := 121) rfl rfl c121 ?_
            refine s_ek_bk 2 (P := 124) (ls' := [(6, .int (s.1 153 (Int32.toNatClampNeg v5))), (0, .ref 151), (1, .int p1), (3, .int p3), (4, .int v4), (5, .int v5)]) (st' := [.int 4, .int (s.1 153 (Int32.toNatClampNeg v5))]) (M' := v_mk s) rfl ?_
            rcases v_if h with ⟨c128, h⟩ | ⟨c128, h⟩
            · refine v_i2f (T := 149) rfl rfl (fun q => q c128) ?_
              refine s_ek_bk 1 (P := 128) (ls' := [(6, .int (s.1 153 (Int32.toNatClampNeg v5))), (0, .ref 151), (1, .int p1), (3, .int p3), (4, .int v4), (5, .int v5)]) (st' := [.ref 151]) (M' := v_mk s) rfl ?_
              refine v_gf rfl (v_gr (rfl : v_kd 151 = 11) (rfl : v_sl 151 13 = .ref 159) ⟨rfl, rfl, by decide⟩) ?_
              refine s_ek_bk 4 (P := 136) (ls' := [(6, .int (s.1 153 (Int32.toNatClampNeg v5))), (0, .ref 151), (1, .int p1), (3, .int p3), (4, .int v4), (5, .int v5)]) (st' := [.ref 151, .int (v4 - (1 : Int32)), .ref 159]) (M' := v_mk s) rfl ?_
              refine v_gf rfl (v_gr (rfl : v_kd 151 = 11) (rfl : v_sl 151 13 = .ref 159) ⟨rfl, rfl, by decide⟩) ?_
              refine s_ek_bk 3 (P := 143) (ls' := [(6, .int (s.1 153 (Int32.toNatClampNeg v5))), (0, .ref 151), (1, .int p1), (3, .int p3), (4, .int v4), (5, .int v5)]) (st' := [.int (v4 - (1 : Int32)), .ref 159, .int (v4 - (1 : Int32)), .ref 159]) (M' := v_mk s) rfl ?_
              obtain ⟨c129, h⟩ := v_ck h
              refine v_ia (i := (v4 - (1 : Int32))) rfl (v_ai (rfl : v_kd 159 = 13) rfl (by decide) v_all13 (v_cn (rfl : v_ln 159 = 130) c129)) ?_
              refine s_ek_bk 1 (P := 145) (ls' := [(6, .int (s.1 153 (Int32.toNatClampNeg v5))), (0, .ref 151), (1, .int p1), (3, .int p3), (4, .int v4), (5, .int v5)]) (st' := [.int (-(s.1 159 (Int32.toNatClampNeg (v4 - (1 : Int32))))), .int (v4 - (1 : Int32)), .ref 159]) (M' := v_mk s) rfl ?_
              obtain ⟨c130, h⟩ := v_ck h
              obtain ⟨s131, es131, h⟩ := v_ld h
              refine v_ist (M' := v_mk s131) (i := (v4 - (1 : Int32))) rfl (by rw [es131]; exact v_pai (rfl : v_kd 159 = 13) rfl (by decide) v_all13 (v_cn (rfl : v_ln 159 = 130) c130)) ?_
              refine s_ek_bk 3 (P := 12) (ls' := [(5, .int (v5 + 1)), (6, .int (s.1 153 (Int32.toNatClampNeg v5))), (0, .ref 151), (1, .int p1), (3, .int p3), (4, .int v4)]) (st' := []) (M' := v_mk s131) rfl ?_
              refine v_ls (ls' := [(0, .ref 151), (1, .int p1), (3, .int p3), (4, .int v4), (5, .int (v5 + 1))]) ⟨rfl, rfl, rfl, rfl, rfl, trivial⟩ (show ([0, 1, 3, 4, 5] : List Nat).Nodup from by decide) ?_
              exact ih _ _ _ h
            · refine v_i2t (T := 149) rfl rfl c128 ?_
              refine s_ek_bk 2 (P := 153) (ls' := [(4, .int (v4 + (-1))), (6, .int (s.1 153 (Int32.toNatClampNeg v5))), (0, .ref 151), (1, .int p1), (3, .int p3), (5, .int v5)]) (st' := [.ref 151]) (M' := v_mk s) rfl ?_
              refine v_gf rfl (v_gr (rfl : v_kd 151 = 11) (rfl : v_sl 151 13 = .ref 159) ⟨rfl, rfl, by decide⟩) ?_
              refine s_ek_bk 5 (P := 163) (ls' := [(4, .int (v4 + (-1))), (6, .int (s.1 153 (Int32.toNatClampNeg v5))), (0, .ref 151), (1, .int p1), (3, .int p3), (5, .int v5)]) (st' := [.ref 151, .int (s.1 153 (Int32.toNatClampNeg v5)), .int ((v4 + (-1)) - (1 : Int32)), .ref 159]) (M' := v_mk s) rfl ?_
              refine v_gf rfl (v_gr (rfl : v_kd 151 = 11) (rfl : v_sl 151 13 = .ref 159) ⟨rfl, rfl, by decide⟩) ?_
              refine s_ek_bk 3 (P := 170) (ls' := [(4, .int (v4 + (-1))), (6, .int (s.1 153 (Int32.toNatClampNeg v5))), (0, .ref 151), (1, .int p1), (3, .int p3), (5, .int v5)]) (st' := [.int ((v4 + (-1)) - (1 : Int32)), .ref 159, .int (s.1 153 (Int32.toNatClampNeg v5)), .int ((v4 + (-1)) - (1 : Int32)), .ref 159]) (M' := v_mk s) rfl ?_
              obtain ⟨c132, h⟩ := v_ck h
              refine v_ia (i := ((v4 + (-1)) - (1 : Int32))) rfl (v_ai (rfl : v_kd 159 = 13) rfl (by decide) v_all13 (v_cn (rfl : v_ln 159 = 130) c132)) ?_
              refine s_ek_bk 1 (P := 172) (ls' := [(4, .int (v4 + (-1))), (6, .int (s.1 153 (Int32.toNatClampNeg v5))), (0, .ref 151), (1, .int p1), (3, .int p3), (5, .int v5)]) (st' := [.ref 151, .int (s.1 159 (Int32.toNatClampNeg ((v4 + (-1)) - (1 : Int32)))), .int (s.1 153 (Int32.toNatClampNeg v5)), .int ((v4 + (-1)) - (1 : Int32)), .ref 159]) (M' := v_mk s) rfl ?_
              refine v_gf rfl (v_gr (rfl : v_kd 151 = 11) (rfl : v_sl 151 13 = .ref 159) ⟨rfl, rfl, by decide⟩) ?_
              refine s_ek_bk 1 (P := 177) (ls' := [(4, .int (v4 + (-1))), (6, .int (s.1 153 (Int32.toNatClampNeg v5))), (0, .ref 151), (1, .int p1), (3, .int p3), (5, .int v5)]) (st' := [.int (v4 + (-1)), .ref 159, .int (s.1 159 (Int32.toNatClampNeg ((v4 + (-1)) - (1 : Int32)))), .int (s.1 153 (Int32.toNatClampNeg v5)), .int ((v4 + (-1)) - (1 : Int32)), .ref 159]) (M' := v_mk s) rfl ?_
              obtain ⟨c133, h⟩ := v_ck h
              refine v_ia (i := (v4 + (-1))) rfl (v_ai (rfl : v_kd 159 = 13) rfl (by decide) v_all13 (v_cn (rfl : v_ln 159 = 130) c133)) ?_
              obtain ⟨r134, s134, e134, h⟩ := v_bd h
              refine v_cS (ν := s_e198.1) (w := 1587) (as := [.int (s.1 153 (Int32.toNatClampNeg v5)), .int (s.1 159 (Int32.toNatClampNeg ((v4 + (-1)) - (1 : Int32)))), .int (s.1 159 (Int32.toNatClampNeg (v4 + (-1))))]) (r := [.int ((v4 + (-1)) - (1 : Int32)), .ref 159]) (o := some (.int r134)) (by omega) rfl rfl rfl rfl (t_Md_twoOf e134 (by omega)) ?_
              show s_Ek (s_rows 3 L xs) D s_e199.1 181 [(4, .int (v4 + (-1))), (6, .int (s.1 153 (Int32.toNatClampNeg v5))), (0, .ref 151), (1, .int p1), (3, .int p3), (5, .int v5)] [.int r134, .int ((v4 + (-1)) - (1 : Int32)), .ref 159] (v_mk s134) _
              obtain ⟨c135, h⟩ := v_ck h
              obtain ⟨s136, es136, h⟩ := v_ld h
              refine v_ist (M' := v_mk s136) (i := ((v4 + (-1)) - (1 : Int32))) rfl (by rw [es136]; exact v_pai (rfl : v_kd 159 = 13) rfl (by decide) v_all13 (v_cn (rfl : v_ln 159 = 130) c135)) ?_
              refine s_ek_bk 2 (P := 12) (ls' := [(5, .int (v5 + 1)), (4, .int (v4 + (-1))), (6, .int (s.1 153 (Int32.toNatClampNeg v5))), (0, .ref 151), (1, .int p1), (3, .int p3)]) (st' := []) (M' := v_mk s136) rfl ?_
              refine v_ls (ls' := [(0, .ref 151), (1, .int p1), (3, .int p3), (4, .int (v4 + (-1))), (5, .int (v5 + 1))]) ⟨rfl, rfl, rfl, rfl, rfl, trivial⟩ (show ([0, 1, 3, 4, 5] : List Nat).Nodup from by decide) ?_
              exact ih _ _ _ h
set_option maxRecDepth 20000 in
set_option maxHeartbeats 4000000 in
theorem t_Md_worked {L : Nat} {xs : Nat → Int32} {b : Int32} {c : Int32} {d : Int32} {D : Nat} {r : Int32} {s s' : vS} (h : f_Md_worked b c d s = some (r, s')) (hD : 1 ≤ D) : s_Ek (s_rows 3 L xs) D s_e199.1 0 (lv_args 0 [.ref 151, .int b, .int c, .int d]) [] (v_mk s) (v_Q (some (.int r)) s') := by
  unfold f_Md_worked at h
  show s_Ek (s_rows 3 L xs) D s_e199.1 0 [(0, .ref 151), (1, .int b), (2, .int c), (3, .int d)] [] (v_mk s) _
  refine s_ek_bk 8 (P := 12) (ls' := [(5, .int (((130 : Int32) * b) + c)), (4, .int 0), (0, .ref 151), (1, .int b), (2, .int c), (3, .int d)]) (st' := []) (M' := v_mk s) rfl ?_
  refine v_ls (ls' := [(0, .ref 151), (1, .int b), (3, .int d), (4, .int 0), (5, .int (((130 : Int32) * b) + c))]) ⟨rfl, rfl, rfl, rfl, rfl, trivial⟩ (show ([0, 1, 3, 4, 5] : List Nat).Nodup from by decide) ?_
  refine t_Md_worked_L12 (by omega) (fun s1 h => ?_) 4096 _ _ _ h
  show s_Ek (s_rows 3 L xs) D s_e199.1 188 [(0, .ref 151)] [] (v_mk s1) _
  refine s_ek_bk 1 (P := 189) (ls' := [(0, .ref 151)]) (st' := [.ref 151]) (M' := v_mk s1) rfl ?_
  refine v_gf rfl (v_gr (rfl : v_kd 151 = 11) (rfl : v_sl 151 13 = .ref 159) ⟨rfl, rfl, by decide⟩) ?_
  refine s_ek_bk 1 (P := 193) (ls' := [(0, .ref 151)]) (st' := [.int 0, .ref 159]) (M' := v_mk s1) rfl ?_
  refine v_ia (i := 0) rfl (v_ai (rfl : v_kd 159 = 13) rfl (by decide) v_all13 (v_cn (rfl : v_ln 159 = 130) (by decide : v_in 0 130))) ?_
  show s_Ek (s_rows 3 L xs) D s_e199.1 194 [(0, .ref 151)] [.int (s1.1 159 0)] (v_mk s1) _
  obtain ⟨rfl, rfl⟩ := v_so h
  exact v_ret (fun _ => rfl)
noncomputable def f_Md_gives_L7b (p1 : Int32) (k47 : Int32 → vS → Option (Int32 × vS)) (k78 : vS → Option (Int32 × vS)) (again : Int32 → Int32 → vS → Option (Int32 × vS)) (v2 : Int32) (v3 : Int32) (s : vS) : Option (Int32 × vS) := (if v_in p1 11 then (if (((61 : Int32) * p1) + (s.1 155 (Int32.toNatClampNeg p1))).toInt ≤ v3.toInt then (k78 s) else (if v_in v3 671 then (if (s.1 156 (Int32.toNatClampNeg v3)).toInt = v2.toInt then (k47 v3 s) else (if v_in v3 671 then (v_bi (f_Md_worked p1 v2 (s.1 156 (Int32.toNatClampNeg v3)) s) (fun r106 s106 => (if r106.toInt = 0 then (if v_in v3 671 then (again (s106.1 157 (Int32.toNatClampNeg v3)) (v3 + 1) s106) else none) else (k47 v3 s106)))) else none)) else none)) else none)
noncomputable def f_Md_gives_L7 (p1 : Int32) (k47 : Int32 → vS → Option (Int32 × vS)) (k78 : vS → Option (Int32 × vS)) (n : Nat) : Int32 → Int32 → vS → Option (Int32 × vS) := Nat.rec (motive := fun _ => Int32 → Int32 → vS → Option (Int32 × vS)) (fun _ _ _ => none) (fun _ again => f_Md_gives_L7b p1 k47 k78 again) n
noncomputable def f_Md_gives (b : Int32) (s : vS) : Option (Int32 × vS) := (f_Md_gives_L7 b (fun w1 s2 => (if v_in w1 671 then (if v_in w1 671 then (v_bi (f_Md_worked b (s2.1 156 (Int32.toNatClampNeg w1)) (s2.1 157 (Int32.toNatClampNeg w1)) s2) (fun r6 s6 => (some (r6, s6)))) else none) else none)) (fun s3 => (some (0, s3))) 4096 0 ((61 : Int32) * b) s)
set_option maxRecDepth 20000 in
set_option maxHeartbeats 4000000 in
theorem t_Md_gives_L7 {L : Nat} {xs : Nat → Int32} {p1 : Int32} {k47 : Int32 → vS → Option (Int32 × vS)} {k78 : vS → Option (Int32 × vS)} {D : Nat} (hD : 2 ≤ D) {r : Int32} {s' : vS} (hk47 : ∀ (v3 : Int32) (s : vS), k47 v3 s = some (r, s') → s_Ek (s_rows 3 L xs) D s_e200.1 47 [(0, .ref 151), (1, .int p1), (3, .int v3)] [] (v_mk s) (v_Q (some (.int r)) s')) (hk78 : ∀ (s : vS), k78 s = some (r, s') → s_Ek (s_rows 3 L xs) D s_e200.1 78 [] [] (v_mk s) (v_Q (some (.int r)) s')) : ∀ (n : Nat) (v2 : Int32) (v3 : Int32) (s : vS), f_Md_gives_L7 p1 k47 k78 n v2 v3 s = some (r, s') → s_Ek (s_rows 3 L xs) D s_e200.1 7 [(0, .ref 151), (1, .int p1), (2, .int v2), (3, .int v3)] [] (v_mk s) (v_Q (some (.int r)) s') := by
  intro n
  induction n with
  | zero => intro v2 v3 s h; exact nomatch (show (none : Option (Int32 × vS)) = some (r, s') from h)
  | succ n ih =>
    intro v2 v3 s h
    replace h : f_Md_gives_L7b p1 k47 k78 (f_Md_gives_L7 p1 k47 k78 n) v2 v3 s = some (r, s') := h
    unfold f_Md_gives_L7b at h
    refine s_ek_bk 5 (P := 13) (ls' := [(0, .ref 151), (1, .int p1), (2, .int v2), (3, .int v3)]) (st' := [.ref 151, .int ((61 : Int32) * p1), .int v3]) (M' := v_mk s) rfl ?_
    refine v_gf rfl (v_gr (rfl : v_kd 151 = 11) (rfl : v_sl 151 9 = .ref 155) ⟨rfl, rfl, by decide⟩) ?_
    refine s_ek_bk 1 (P := 17) (ls' := [(0, .ref 151), (1, .int p1), (2, .int v2), (3, .int v3)]) (st' := [.int p1, .ref 155, .int ((61 : Int32) * p1), .int v3]) (M' := v_mk s) rfl ?_
    obtain ⟨c101, h⟩ := v_ck h
    refine v_ia (i := p1) rfl (v_ai (rfl : v_kd 155 = 13) rfl (by decide) v_all13 (v_cn (rfl : v_ln 155 = 11) c101)) ?_
    refine s_ek_bk 1 (P := 19) (ls' := [(0, .ref 151), (1, .int p1), (2, .int v2), (3, .int v3)]) (st' := [.int (((61 : Int32) * p1) + (s.1 155 (Int32.toNatClampNeg p1))), .int v3]) (M' := v_mk s) rfl ?_
    rcases v_if h with ⟨c102, h⟩ | ⟨c102, h⟩
    · refine v_i2t (T := 78) rfl rfl c102 ?_
      refine v_ls (ls' := []) trivial (show ([] : List Nat).Nodup from by decide) ?_
      exact hk78 _ h
    · refine v_i2f (T := 78) rfl rfl c102 ?_
      refine s_ek_bk 1 (P := 23) (ls' := [(0, .ref 151), (1, .int p1), (2, .int v2), (3, .int v3)]) (st' := [.ref 151]) (M' := v_mk s) rfl ?_
      refine v_gf rfl (v_gr (rfl : v_kd 151 = 11) (rfl : v_sl 151 10 = .ref 156) ⟨rfl, rfl, by decide⟩) ?_
      refine s_ek_bk 1 (P := 27) (ls' := [(0, .ref 151), (1, .int p1), (2, .int v2), (3, .int v3)]) (st' := [.int v3, .ref 156]) (M' := v_mk s) rfl ?_
      obtain ⟨c103, h⟩ := v_ck h
      refine v_sa (i := v3) rfl (v_ai (rfl : v_kd 156 = 15) rfl (by decide) v_all15 (v_cn (rfl : v_ln 156 = 671) c103)) ?_
      refine s_ek_bk 1 (P := 29) (ls' := [(0, .ref 151), (1, .int p1), (2, .int v2), (3, .int v3)]) (st' := [.int v2, .int (s.1 156 (Int32.toNatClampNeg v3))]) (M' := v_mk s) rfl ?_
      rcases v_if h with ⟨c104, h⟩ | ⟨c104, h⟩
      · refine v_i2t (T := 47) rfl rfl c104 ?_
        refine v_ls (ls' := [(0, .ref 151), (1, .int p1), (3, .int v3)]) ⟨rfl, rfl, rfl, trivial⟩ (show ([0, 1, 3] : List Nat).Nodup from by decide) ?_
        exact hk47 _ _ h
      · refine v_i2f (T := 47) rfl rfl c104 ?_
        refine s_ek_bk 4 (P := 36) (ls' := [(0, .ref 151), (1, .int p1), (2, .int v2), (3, .int v3)]) (st' := [.ref 151, .int v2, .int p1, .ref 151]) (M' := v_mk s) rfl ?_
        refine v_gf rfl (v_gr (rfl : v_kd 151 = 11) (rfl : v_sl 151 10 = .ref 156) ⟨rfl, rfl, by decide⟩) ?_
        refine s_ek_bk 1 (P := 40) (ls' := [(0, .ref 151), (1, .int p1), (2, .int v2), (3, .int v3)]) (st' := [.int v3, .ref 156, .int v2, .int p1, .ref 151]) (M' := v_mk s) rfl ?_
        obtain ⟨c105, h⟩ := v_ck h
        refine v_sa (i := v3) rfl (v_ai (rfl : v_kd 156 = 15) rfl (by decide) v_all15 (v_cn (rfl : v_ln 156 = 671) c105)) ?_
        obtain ⟨r106, s106, e106, h⟩ := v_bd h
        refine v_cV (ν := s_e199.1) (w := 1595) (a := 151) (as' := [.int p1, .int v2, .int (s.1 156 (Int32.toNatClampNeg v3))]) (r := []) (o := some (.int r106)) (by omega) rfl rfl rfl (v_mk_kd (k := 11) (rfl : v_kd 151 = 11) (by decide)) rfl (t_Md_worked e106 (by omega)) ?_
        show s_Ek (s_rows 3 L xs) D s_e200.1 44 [(0, .ref 151), (1, .int p1), (2, .int v2), (3, .int v3)] [.int r106] (v_mk s106) _
        rcases v_if h with ⟨c107, h⟩ | ⟨c107, h⟩
        · refine v_i1t (T := 65) rfl rfl c107 ?_
          refine s_ek_bk 1 (P := 66) (ls' := [(0, .ref 151), (1, .int p1), (2, .int v2), (3, .int v3)]) (st' := [.ref 151]) (M' := v_mk s106) rfl ?_
          refine v_gf rfl (v_gr (rfl : v_kd 151 = 11) (rfl : v_sl 151 11 = .ref 157) ⟨rfl, rfl, by decide⟩) ?_
          refine s_ek_bk 1 (P := 70) (ls' := [(0, .ref 151), (1, .int p1), (2, .int v2), (3, .int v3)]) (st' := [.int v3, .ref 157]) (M' := v_mk s106) rfl ?_
          obtain ⟨c108, h⟩ := v_ck h
          refine v_sa (i := v3) rfl (v_ai (rfl : v_kd 157 = 15) rfl (by decide) v_all15 (v_cn (rfl : v_ln 157 = 671) c108)) ?_
          refine s_ek_bk 3 (P := 7) (ls' := [(3, .int (v3 + 1)), (2, .int (s106.1 157 (Int32.toNatClampNeg v3))), (0, .ref 151), (1, .int p1)]) (st' := []) (M' := v_mk s106) rfl ?_
          refine v_ls (ls' := [(0, .ref 151), (1, .int p1), (2, .int (s106.1 157 (Int32.toNatClampNeg v3))), (3, .int (v3 + 1))]) ⟨rfl, rfl, rfl, rfl, trivial⟩ (show ([0, 1, 2, 3] : List Nat).Nodup from by decide) ?_
          exact ih _ _ _ h
        · refine v_i1f (T := 65) rfl rfl c107 ?_
          refine v_ls (ls' := [(0, .ref 151), (1, .int p1), (3, .int v3)]) ⟨rfl, rfl, rfl, trivial⟩ (show ([0, 1, 3] : List Nat).Nodup from by decide) ?_
          exact hk47 _ _ h
set_option maxRecDepth 20000 in
set_option maxHeartbeats 4000000 in
theorem t_Md_gives {L : Nat} {xs : Nat → Int32} {b : Int32} {D : Nat} {r : Int32} {s s' : vS} (h : f_Md_gives b s = some (r, s')) (hD : 2 ≤ D) : s_Ek (s_rows 3 L xs) D s_e200.1 0 (lv_args 0 [.ref 151, .int b]) [] (v_mk s) (v_Q (some (.int r)) s') := by
  unfold f_Md_gives at h
  show s_Ek (s_rows 3 L xs) D s_e200.1 0 [(0, .ref 151), (1, .int b)] [] (v_mk s) _
  refine s_ek_bk 6 (P := 7) (ls' := [(3, .int ((61 : Int32) * b)), (2, .int 0), (0, .ref 151), (1, .int b)]) (st' := []) (M' := v_mk s) rfl ?_
  refine v_ls (ls' := [(0, .ref 151), (1, .int b), (2, .int 0), (3, .int ((61 : Int32) * b))]) ⟨rfl, rfl, rfl, rfl, trivial⟩ (show ([0, 1, 2, 3] : List Nat).Nodup from by decide) ?_
  refine t_Md_gives_L7 (by omega) (fun w1 s2 h => ?_) (fun s3 h => ?_) 4096 _ _ _ h
  · show s_Ek (s_rows 3 L xs) D s_e200.1 47 [(0, .ref 151), (1, .int b), (3, .int w1)] [] (v_mk s2) _
    refine s_ek_bk 3 (P := 50) (ls' := [(0, .ref 151), (1, .int b), (3, .int w1)]) (st' := [.ref 151, .int b, .ref 151]) (M' := v_mk s2) rfl ?_
    refine v_gf rfl (v_gr (rfl : v_kd 151 = 11) (rfl : v_sl 151 10 = .ref 156) ⟨rfl, rfl, by decide⟩) ?_
    refine s_ek_bk 1 (P := 54) (ls' := [(0, .ref 151), (1, .int b), (3, .int w1)]) (st' := [.int w1, .ref 156, .int b, .ref 151]) (M' := v_mk s2) rfl ?_
    obtain ⟨c4, h⟩ := v_ck h
    refine v_sa (i := w1) rfl (v_ai (rfl : v_kd 156 = 15) rfl (by decide) v_all15 (v_cn (rfl : v_ln 156 = 671) c4)) ?_
    refine s_ek_bk 1 (P := 56) (ls' := [(0, .ref 151), (1, .int b), (3, .int w1)]) (st' := [.ref 151, .int (s2.1 156 (Int32.toNatClampNeg w1)), .int b, .ref 151]) (M' := v_mk s2) rfl ?_
    refine v_gf rfl (v_gr (rfl : v_kd 151 = 11) (rfl : v_sl 151 11 = .ref 157) ⟨rfl, rfl, by decide⟩) ?_
    refine s_ek_bk 1 (P := 60) (ls' := [(0, .ref 151), (1, .int b), (3, .int w1)]) (st' := [.int w1, .ref 157, .int (s2.1 156 (Int32.toNatClampNeg w1)), .int b, .ref 151]) (M' := v_mk s2) rfl ?_
    obtain ⟨c5, h⟩ := v_ck h
    refine v_sa (i := w1) rfl (v_ai (rfl : v_kd 157 = 15) rfl (by decide) v_all15 (v_cn (rfl : v_ln 157 = 671) c5)) ?_
    obtain ⟨r6, s6, e6, h⟩ := v_bd h
    refine v_cV (ν := s_e199.1) (w := 1595) (a := 151) (as' := [.int b, .int (s2.1 156 (Int32.toNatClampNeg w1)), .int (s2.1 157 (Int32.toNatClampNeg w1))]) (r := []) (o := some (.int r6)) (by omega) rfl rfl rfl (v_mk_kd (k := 11) (rfl : v_kd 151 = 11) (by decide)) rfl (t_Md_worked e6 (by omega)) ?_
    show s_Ek (s_rows 3 L xs) D s_e200.1 64 [(0, .ref 151), (1, .int b), (3, .int w1)] [.int r6] (v_mk s6) _
    obtain ⟨rfl, rfl⟩ := v_so h
    exact v_ret (fun _ => rfl)
  · show s_Ek (s_rows 3 L xs) D s_e200.1 78 [] [] (v_mk s3) _
    refine s_ek_bk 1 (P := 79) (ls' := []) (st' := [.int 0]) (M' := v_mk s3) rfl ?_
    obtain ⟨rfl, rfl⟩ := v_so h
    exact v_ret (fun _ => rfl)
