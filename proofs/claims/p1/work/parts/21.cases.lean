/-! THE LAW: from its entry to the loop; a case each; its end -/
def s_Lq : Option Value → sM → Prop := fun o _ => o = some (.int 1)
set_option maxRecDepth 100000 in
set_option maxHeartbeats 8000000 in
theorem s_law_c0 (xs : Nat → Int32) : s_Ek (s_rows 3 6 xs) 1300 s_law 33 [(3, .int 0), (2, .ref 151), (1, .ref 0), (0, .retAddr 2)] [.int 0] s_M0 s_Lq := by
  refine s_ek_bk 7 (P := 182) (ls' := [(3, .int 0), (2, .ref 151), (1, .ref 0), (0, .retAddr 2)]) (st' := [.int (xs 1), .ref 0]) (M' := s_M0) rfl ?_
  refine s_ek_callV (ν := s_e134.1) (w := 1073) (len := 3) (a := 0) (as' := [.int (xs 1)]) (r := []) rfl rfl rfl rfl rfl ?_
  refine s_ev_mono (s_op_feed 6 xs ((xs 1))) (fun o M1 h => ?_)
  obtain ⟨hk, r, rfl, h2⟩ := h
  refine ⟨hk, ?_⟩
  show s_Ek (s_rows 3 6 xs) 1300 s_law 185 [(3, .int 0), (2, .ref 151), (1, .ref 0), (0, .retAddr 2)] [.int r] M1 _
  refine s_ek_bk 6 (P := 191) (ls' := [(3, .int 0), (2, .ref 151), (1, .ref 0), (0, .retAddr 2)]) (st' := [.int (xs 1), .ref 151, .int r]) (M' := M1) rfl ?_
  refine s_ek_callV (ν := s_e183.1) (w := 1465) (len := 3) (a := 151) (as' := [.int (xs 1)]) (r := [.int r]) rfl rfl rfl ((hk.2.2 151).trans rfl) rfl ?_
  refine s_ev_mono h2 (fun o M2 h => ?_)
  obtain ⟨hk2, rfl⟩ := h
  refine ⟨hk2, ?_⟩
  show s_Ek (s_rows 3 6 xs) 1300 s_law 194 [(3, .int 0), (2, .ref 151), (1, .ref 0), (0, .retAddr 2)] [.int r, .int r] M2 _
  refine s_ek_if2 (T := 1193) rfl rfl (fun _ => ?_) (fun h => absurd (show r.toInt = r.toInt from rfl) h)
  refine s_ek_bk 5 (P := 21) (ls' := [(3, .int 6), (2, .ref 151), (1, .ref 0), (0, .retAddr 2)]) (st' := [.int 6, .int 6]) (M' := M2) rfl ?_
  refine s_ek_bk 4 (P := 1200) (ls' := [(3, .int 6), (2, .ref 151), (1, .ref 0), (0, .retAddr 2)]) (st' := [.int 1]) (M' := M2) rfl ?_
  exact s_ek_ret (o := some (.int 1)) (fun _ => rfl) rfl
set_option maxRecDepth 100000 in
set_option maxHeartbeats 8000000 in
theorem s_law_c1 (xs : Nat → Int32) : s_Ek (s_rows 3 6 xs) 1300 s_law 33 [(3, .int 0), (2, .ref 151), (1, .ref 0), (0, .retAddr 2)] [.int 1] s_M0 s_Lq := by
  refine s_ek_bk 12 (P := 210) (ls' := [(3, .int 0), (2, .ref 151), (1, .ref 0), (0, .retAddr 2)]) (st' := [.int (xs 2), .int (xs 1), .ref 0]) (M' := s_M0) rfl ?_
  refine s_ek_callV (ν := s_e135.1) (w := 1082) (len := 3) (a := 0) (as' := [.int (xs 1), .int (xs 2)]) (r := []) rfl rfl rfl rfl rfl ?_
  refine s_ev_mono (s_op_law 6 xs ((xs 1)) ((xs 2))) (fun o M1 h => ?_)
  obtain ⟨hk, r, rfl, h2⟩ := h
  refine ⟨hk, ?_⟩
  show s_Ek (s_rows 3 6 xs) 1300 s_law 213 [(3, .int 0), (2, .ref 151), (1, .ref 0), (0, .retAddr 2)] [.int r] M1 _
  refine s_ek_bk 11 (P := 224) (ls' := [(3, .int 0), (2, .ref 151), (1, .ref 0), (0, .retAddr 2)]) (st' := [.int (xs 2), .int (xs 1), .ref 151, .int r]) (M' := M1) rfl ?_
  refine s_ek_callV (ν := s_e204.1) (w := 1634) (len := 3) (a := 151) (as' := [.int (xs 1), .int (xs 2)]) (r := [.int r]) rfl rfl rfl ((hk.2.2 151).trans rfl) rfl ?_
  refine s_ev_mono h2 (fun o M2 h => ?_)
  obtain ⟨hk2, rfl⟩ := h
  refine ⟨hk2, ?_⟩
  show s_Ek (s_rows 3 6 xs) 1300 s_law 227 [(3, .int 0), (2, .ref 151), (1, .ref 0), (0, .retAddr 2)] [.int r, .int r] M2 _
  refine s_ek_if2 (T := 1193) rfl rfl (fun _ => ?_) (fun h => absurd (show r.toInt = r.toInt from rfl) h)
  refine s_ek_bk 5 (P := 21) (ls' := [(3, .int 6), (2, .ref 151), (1, .ref 0), (0, .retAddr 2)]) (st' := [.int 6, .int 6]) (M' := M2) rfl ?_
  refine s_ek_bk 4 (P := 1200) (ls' := [(3, .int 6), (2, .ref 151), (1, .ref 0), (0, .retAddr 2)]) (st' := [.int 1]) (M' := M2) rfl ?_
  exact s_ek_ret (o := some (.int 1)) (fun _ => rfl) rfl
set_option maxRecDepth 100000 in
set_option maxHeartbeats 8000000 in
theorem s_law_c2 (xs : Nat → Int32) : s_Ek (s_rows 3 6 xs) 1300 s_law 33 [(3, .int 0), (2, .ref 151), (1, .ref 0), (0, .retAddr 2)] [.int 2] s_M0 s_Lq := by
  refine s_ek_bk 17 (P := 248) (ls' := [(3, .int 0), (2, .ref 151), (1, .ref 0), (0, .retAddr 2)]) (st' := [.int (xs 3), .int (xs 2), .int (xs 1), .ref 0]) (M' := s_M0) rfl ?_
  refine s_ek_callV (ν := s_e136.1) (w := 1091) (len := 3) (a := 0) (as' := [.int (xs 1), .int (xs 2), .int (xs 3)]) (r := []) rfl rfl rfl rfl rfl ?_
  refine s_ev_mono (s_op_laws 6 xs ((xs 1)) ((xs 2)) ((xs 3))) (fun o M1 h => ?_)
  obtain ⟨hk, r, rfl, h2⟩ := h
  refine ⟨hk, ?_⟩
  show s_Ek (s_rows 3 6 xs) 1300 s_law 251 [(3, .int 0), (2, .ref 151), (1, .ref 0), (0, .retAddr 2)] [.int r] M1 _
  refine s_ek_bk 16 (P := 267) (ls' := [(3, .int 0), (2, .ref 151), (1, .ref 0), (0, .retAddr 2)]) (st' := [.int (xs 3), .int (xs 2), .int (xs 1), .ref 151, .int r]) (M' := M1) rfl ?_
  refine s_ek_callV (ν := s_e207.1) (w := 1659) (len := 3) (a := 151) (as' := [.int (xs 1), .int (xs 2), .int (xs 3)]) (r := [.int r]) rfl rfl rfl ((hk.2.2 151).trans rfl) rfl ?_
  refine s_ev_mono h2 (fun o M2 h => ?_)
  obtain ⟨hk2, rfl⟩ := h
  refine ⟨hk2, ?_⟩
  show s_Ek (s_rows 3 6 xs) 1300 s_law 270 [(3, .int 0), (2, .ref 151), (1, .ref 0), (0, .retAddr 2)] [.int r, .int r] M2 _
  refine s_ek_if2 (T := 1193) rfl rfl (fun _ => ?_) (fun h => absurd (show r.toInt = r.toInt from rfl) h)
  refine s_ek_bk 5 (P := 21) (ls' := [(3, .int 6), (2, .ref 151), (1, .ref 0), (0, .retAddr 2)]) (st' := [.int 6, .int 6]) (M' := M2) rfl ?_
  refine s_ek_bk 4 (P := 1200) (ls' := [(3, .int 6), (2, .ref 151), (1, .ref 0), (0, .retAddr 2)]) (st' := [.int 1]) (M' := M2) rfl ?_
  exact s_ek_ret (o := some (.int 1)) (fun _ => rfl) rfl
set_option maxRecDepth 100000 in
set_option maxHeartbeats 8000000 in
theorem s_law_c3 (xs : Nat → Int32) : s_Ek (s_rows 3 6 xs) 1300 s_law 33 [(3, .int 0), (2, .ref 151), (1, .ref 0), (0, .retAddr 2)] [.int 3] s_M0 s_Lq := by
  refine s_ek_bk 17 (P := 291) (ls' := [(3, .int 0), (2, .ref 151), (1, .ref 0), (0, .retAddr 2)]) (st' := [.int (xs 3), .int (xs 2), .int (xs 1), .ref 0]) (M' := s_M0) rfl ?_
  refine s_ek_callV (ν := s_e138.1) (w := 1107) (len := 3) (a := 0) (as' := [.int (xs 1), .int (xs 2), .int (xs 3)]) (r := []) rfl rfl rfl rfl rfl ?_
  refine s_ev_mono (s_op_mend 6 xs ((xs 1)) ((xs 2)) ((xs 3))) (fun o M1 h => ?_)
  obtain ⟨hk, r, rfl, h2⟩ := h
  refine ⟨hk, ?_⟩
  show s_Ek (s_rows 3 6 xs) 1300 s_law 294 [(3, .int 0), (2, .ref 151), (1, .ref 0), (0, .retAddr 2)] [.int r] M1 _
  refine s_ek_bk 16 (P := 310) (ls' := [(3, .int 0), (2, .ref 151), (1, .ref 0), (0, .retAddr 2)]) (st' := [.int (xs 3), .int (xs 2), .int (xs 1), .ref 151, .int r]) (M' := M1) rfl ?_
  refine s_ek_callV (ν := s_e213.1) (w := 1707) (len := 3) (a := 151) (as' := [.int (xs 1), .int (xs 2), .int (xs 3)]) (r := [.int r]) rfl rfl rfl ((hk.2.2 151).trans rfl) rfl ?_
  refine s_ev_mono h2 (fun o M2 h => ?_)
  obtain ⟨hk2, rfl⟩ := h
  refine ⟨hk2, ?_⟩
  show s_Ek (s_rows 3 6 xs) 1300 s_law 313 [(3, .int 0), (2, .ref 151), (1, .ref 0), (0, .retAddr 2)] [.int r, .int r] M2 _
  refine s_ek_if2 (T := 1193) rfl rfl (fun _ => ?_) (fun h => absurd (show r.toInt = r.toInt from rfl) h)
  refine s_ek_bk 5 (P := 21) (ls' := [(3, .int 6), (2, .ref 151), (1, .ref 0), (0, .retAddr 2)]) (st' := [.int 6, .int 6]) (M' := M2) rfl ?_
  refine s_ek_bk 4 (P := 1200) (ls' := [(3, .int 6), (2, .ref 151), (1, .ref 0), (0, .retAddr 2)]) (st' := [.int 1]) (M' := M2) rfl ?_
  exact s_ek_ret (o := some (.int 1)) (fun _ => rfl) rfl
set_option maxRecDepth 100000 in
set_option maxHeartbeats 8000000 in
theorem s_law_c4 (xs : Nat → Int32) : s_Ek (s_rows 3 6 xs) 1300 s_law 33 [(3, .int 0), (2, .ref 151), (1, .ref 0), (0, .retAddr 2)] [.int 4] s_M0 s_Lq := by
  refine s_ek_bk 17 (P := 334) (ls' := [(3, .int 0), (2, .ref 151), (1, .ref 0), (0, .retAddr 2)]) (st' := [.int (xs 3), .int (xs 2), .int (xs 1), .ref 0]) (M' := s_M0) rfl ?_
  refine s_ek_callV (ν := s_e140.1) (w := 1123) (len := 3) (a := 0) (as' := [.int (xs 1), .int (xs 2), .int (xs 3)]) (r := []) rfl rfl rfl rfl rfl ?_
  refine s_ev_mono (s_op_moved 6 xs ((xs 1)) ((xs 2)) ((xs 3))) (fun o M1 h => ?_)
  obtain ⟨hk, r, rfl, h2⟩ := h
  refine ⟨hk, ?_⟩
  show s_Ek (s_rows 3 6 xs) 1300 s_law 337 [(3, .int 0), (2, .ref 151), (1, .ref 0), (0, .retAddr 2)] [.int r] M1 _
  refine s_ek_bk 16 (P := 353) (ls' := [(3, .int 0), (2, .ref 151), (1, .ref 0), (0, .retAddr 2)]) (st' := [.int (xs 3), .int (xs 2), .int (xs 1), .ref 151, .int r]) (M' := M1) rfl ?_
  refine s_ek_callV (ν := s_e214.1) (w := 1715) (len := 3) (a := 151) (as' := [.int (xs 1), .int (xs 2), .int (xs 3)]) (r := [.int r]) rfl rfl rfl ((hk.2.2 151).trans rfl) rfl ?_
  refine s_ev_mono h2 (fun o M2 h => ?_)
  obtain ⟨hk2, rfl⟩ := h
  refine ⟨hk2, ?_⟩
  show s_Ek (s_rows 3 6 xs) 1300 s_law 356 [(3, .int 0), (2, .ref 151), (1, .ref 0), (0, .retAddr 2)] [.int r, .int r] M2 _
  refine s_ek_if2 (T := 1193) rfl rfl (fun _ => ?_) (fun h => absurd (show r.toInt = r.toInt from rfl) h)
  refine s_ek_bk 5 (P := 21) (ls' := [(3, .int 6), (2, .ref 151), (1, .ref 0), (0, .retAddr 2)]) (st' := [.int 6, .int 6]) (M' := M2) rfl ?_
  refine s_ek_bk 4 (P := 1200) (ls' := [(3, .int 6), (2, .ref 151), (1, .ref 0), (0, .retAddr 2)]) (st' := [.int 1]) (M' := M2) rfl ?_
  exact s_ek_ret (o := some (.int 1)) (fun _ => rfl) rfl
set_option maxRecDepth 100000 in
set_option maxHeartbeats 8000000 in
theorem s_law_c5 (xs : Nat → Int32) : s_Ek (s_rows 3 6 xs) 1300 s_law 33 [(3, .int 0), (2, .ref 151), (1, .ref 0), (0, .retAddr 2)] [.int 5] s_M0 s_Lq := by
  refine s_ek_bk 12 (P := 372) (ls' := [(3, .int 0), (2, .ref 151), (1, .ref 0), (0, .retAddr 2)]) (st' := [.int (xs 2), .int (xs 1), .ref 0]) (M' := s_M0) rfl ?_
  refine s_ek_callV (ν := s_e141.1) (w := 1130) (len := 3) (a := 0) (as' := [.int (xs 1), .int (xs 2)]) (r := []) rfl rfl rfl rfl rfl ?_
  refine s_ev_mono (s_op_of 6 xs ((xs 1)) ((xs 2))) (fun o M1 h => ?_)
  obtain ⟨hk, r, rfl, h2⟩ := h
  refine ⟨hk, ?_⟩
  show s_Ek (s_rows 3 6 xs) 1300 s_law 375 [(3, .int 0), (2, .ref 151), (1, .ref 0), (0, .retAddr 2)] [.int r] M1 _
  refine s_ek_bk 11 (P := 386) (ls' := [(3, .int 0), (2, .ref 151), (1, .ref 0), (0, .retAddr 2)]) (st' := [.int (xs 2), .int (xs 1), .ref 151, .int r]) (M' := M1) rfl ?_
  refine s_ek_callV (ν := s_e229.1) (w := 1834) (len := 3) (a := 151) (as' := [.int (xs 1), .int (xs 2)]) (r := [.int r]) rfl rfl rfl ((hk.2.2 151).trans rfl) rfl ?_
  refine s_ev_mono h2 (fun o M2 h => ?_)
  obtain ⟨hk2, rfl⟩ := h
  refine ⟨hk2, ?_⟩
  show s_Ek (s_rows 3 6 xs) 1300 s_law 389 [(3, .int 0), (2, .ref 151), (1, .ref 0), (0, .retAddr 2)] [.int r, .int r] M2 _
  refine s_ek_if2 (T := 1193) rfl rfl (fun _ => ?_) (fun h => absurd (show r.toInt = r.toInt from rfl) h)
  refine s_ek_bk 5 (P := 21) (ls' := [(3, .int 6), (2, .ref 151), (1, .ref 0), (0, .retAddr 2)]) (st' := [.int 6, .int 6]) (M' := M2) rfl ?_
  refine s_ek_bk 4 (P := 1200) (ls' := [(3, .int 6), (2, .ref 151), (1, .ref 0), (0, .retAddr 2)]) (st' := [.int 1]) (M' := M2) rfl ?_
  exact s_ek_ret (o := some (.int 1)) (fun _ => rfl) rfl
set_option maxRecDepth 100000 in
set_option maxHeartbeats 8000000 in
theorem s_law_c6 (xs : Nat → Int32) : s_Ek (s_rows 3 6 xs) 1300 s_law 33 [(3, .int 0), (2, .ref 151), (1, .ref 0), (0, .retAddr 2)] [.int 6] s_M0 s_Lq := by
  refine s_ek_bk 12 (P := 405) (ls' := [(3, .int 0), (2, .ref 151), (1, .ref 0), (0, .retAddr 2)]) (st' := [.int (xs 2), .int (xs 1), .ref 0]) (M' := s_M0) rfl ?_
  refine s_ek_callV (ν := s_e143.1) (w := 1146) (len := 3) (a := 0) (as' := [.int (xs 1), .int (xs 2)]) (r := []) rfl rfl rfl rfl rfl ?_
  refine s_ev_mono (s_op_speaks 6 xs ((xs 1)) ((xs 2))) (fun o M1 h => ?_)
  obtain ⟨hk, r, rfl, h2⟩ := h
  refine ⟨hk, ?_⟩
  show s_Ek (s_rows 3 6 xs) 1300 s_law 408 [(3, .int 0), (2, .ref 151), (1, .ref 0), (0, .retAddr 2)] [.int r] M1 _
  refine s_ek_bk 11 (P := 419) (ls' := [(3, .int 0), (2, .ref 151), (1, .ref 0), (0, .retAddr 2)]) (st' := [.int (xs 2), .int (xs 1), .ref 151, .int r]) (M' := M1) rfl ?_
  refine s_ek_callV (ν := s_e234.1) (w := 1874) (len := 3) (a := 151) (as' := [.int (xs 1), .int (xs 2)]) (r := [.int r]) rfl rfl rfl ((hk.2.2 151).trans rfl) rfl ?_
  refine s_ev_mono h2 (fun o M2 h => ?_)
  obtain ⟨hk2, rfl⟩ := h
  refine ⟨hk2, ?_⟩
  show s_Ek (s_rows 3 6 xs) 1300 s_law 422 [(3, .int 0), (2, .ref 151), (1, .ref 0), (0, .retAddr 2)] [.int r, .int r] M2 _
  refine s_ek_if2 (T := 1193) rfl rfl (fun _ => ?_) (fun h => absurd (show r.toInt = r.toInt from rfl) h)
  refine s_ek_bk 5 (P := 21) (ls' := [(3, .int 6), (2, .ref 151), (1, .ref 0), (0, .retAddr 2)]) (st' := [.int 6, .int 6]) (M' := M2) rfl ?_
  refine s_ek_bk 4 (P := 1200) (ls' := [(3, .int 6), (2, .ref 151), (1, .ref 0), (0, .retAddr 2)]) (st' := [.int 1]) (M' := M2) rfl ?_
  exact s_ek_ret (o := some (.int 1)) (fun _ => rfl) rfl
set_option maxRecDepth 100000 in
set_option maxHeartbeats 8000000 in
theorem s_law_c7 (xs : Nat → Int32) : s_Ek (s_rows 3 6 xs) 1300 s_law 33 [(3, .int 0), (2, .ref 151), (1, .ref 0), (0, .retAddr 2)] [.int 7] s_M0 s_Lq := by
  refine s_ek_bk 12 (P := 438) (ls' := [(3, .int 0), (2, .ref 151), (1, .ref 0), (0, .retAddr 2)]) (st' := [.int (xs 2), .int (xs 1), .ref 0]) (M' := s_M0) rfl ?_
  refine s_ek_callV (ν := s_e144.1) (w := 1154) (len := 3) (a := 0) (as' := [.int (xs 1), .int (xs 2)]) (r := []) rfl rfl rfl rfl rfl ?_
  refine s_ev_mono (s_op_verdict 6 xs ((xs 1)) ((xs 2))) (fun o M1 h => ?_)
  obtain ⟨hk, r, rfl, h2⟩ := h
  refine ⟨hk, ?_⟩
  show s_Ek (s_rows 3 6 xs) 1300 s_law 441 [(3, .int 0), (2, .ref 151), (1, .ref 0), (0, .retAddr 2)] [.int r] M1 _
  refine s_ek_bk 11 (P := 452) (ls' := [(3, .int 0), (2, .ref 151), (1, .ref 0), (0, .retAddr 2)]) (st' := [.int (xs 2), .int (xs 1), .ref 151, .int r]) (M' := M1) rfl ?_
  refine s_ek_callV (ν := s_e235.1) (w := 1882) (len := 3) (a := 151) (as' := [.int (xs 1), .int (xs 2)]) (r := [.int r]) rfl rfl rfl ((hk.2.2 151).trans rfl) rfl ?_
  refine s_ev_mono h2 (fun o M2 h => ?_)
  obtain ⟨hk2, rfl⟩ := h
  refine ⟨hk2, ?_⟩
  show s_Ek (s_rows 3 6 xs) 1300 s_law 455 [(3, .int 0), (2, .ref 151), (1, .ref 0), (0, .retAddr 2)] [.int r, .int r] M2 _
  refine s_ek_if2 (T := 1193) rfl rfl (fun _ => ?_) (fun h => absurd (show r.toInt = r.toInt from rfl) h)
  refine s_ek_bk 5 (P := 21) (ls' := [(3, .int 6), (2, .ref 151), (1, .ref 0), (0, .retAddr 2)]) (st' := [.int 6, .int 6]) (M' := M2) rfl ?_
  refine s_ek_bk 4 (P := 1200) (ls' := [(3, .int 6), (2, .ref 151), (1, .ref 0), (0, .retAddr 2)]) (st' := [.int 1]) (M' := M2) rfl ?_
  exact s_ek_ret (o := some (.int 1)) (fun _ => rfl) rfl
set_option maxRecDepth 100000 in
set_option maxHeartbeats 8000000 in
theorem s_law_c8 (xs : Nat → Int32) : s_Ek (s_rows 3 6 xs) 1300 s_law 33 [(3, .int 0), (2, .ref 151), (1, .ref 0), (0, .retAddr 2)] [.int 8] s_M0 s_Lq := by
  refine s_ek_bk 7 (P := 466) (ls' := [(3, .int 0), (2, .ref 151), (1, .ref 0), (0, .retAddr 2)]) (st' := [.int (xs 1), .ref 0]) (M' := s_M0) rfl ?_
  refine s_ek_callV (ν := s_e145.1) (w := 1161) (len := 3) (a := 0) (as' := [.int (xs 1)]) (r := []) rfl rfl rfl rfl rfl ?_
  refine s_ev_mono (s_op_judge 6 xs ((xs 1))) (fun o M1 h => ?_)
  obtain ⟨hk, r, rfl, h2⟩ := h
  refine ⟨hk, ?_⟩
  show s_Ek (s_rows 3 6 xs) 1300 s_law 469 [(3, .int 0), (2, .ref 151), (1, .ref 0), (0, .retAddr 2)] [.int r] M1 _
  refine s_ek_bk 6 (P := 475) (ls' := [(3, .int 0), (2, .ref 151), (1, .ref 0), (0, .retAddr 2)]) (st' := [.int (xs 1), .ref 151, .int r]) (M' := M1) rfl ?_
  refine s_ek_callV (ν := s_e241.1) (w := 1929) (len := 3) (a := 151) (as' := [.int (xs 1)]) (r := [.int r]) rfl rfl rfl ((hk.2.2 151).trans rfl) rfl ?_
  refine s_ev_mono h2 (fun o M2 h => ?_)
  obtain ⟨hk2, rfl⟩ := h
  refine ⟨hk2, ?_⟩
  show s_Ek (s_rows 3 6 xs) 1300 s_law 478 [(3, .int 0), (2, .ref 151), (1, .ref 0), (0, .retAddr 2)] [.int r, .int r] M2 _
  refine s_ek_if2 (T := 1193) rfl rfl (fun _ => ?_) (fun h => absurd (show r.toInt = r.toInt from rfl) h)
  refine s_ek_bk 5 (P := 21) (ls' := [(3, .int 6), (2, .ref 151), (1, .ref 0), (0, .retAddr 2)]) (st' := [.int 6, .int 6]) (M' := M2) rfl ?_
  refine s_ek_bk 4 (P := 1200) (ls' := [(3, .int 6), (2, .ref 151), (1, .ref 0), (0, .retAddr 2)]) (st' := [.int 1]) (M' := M2) rfl ?_
  exact s_ek_ret (o := some (.int 1)) (fun _ => rfl) rfl
set_option maxRecDepth 100000 in
set_option maxHeartbeats 8000000 in
theorem s_law_c9 (xs : Nat → Int32) : s_Ek (s_rows 3 6 xs) 1300 s_law 33 [(3, .int 0), (2, .ref 151), (1, .ref 0), (0, .retAddr 2)] [.int 9] s_M0 s_Lq := by
  refine s_ek_bk 2 (P := 484) (ls' := [(3, .int 0), (2, .ref 151), (1, .ref 0), (0, .retAddr 2)]) (st' := [.ref 0]) (M' := s_M0) rfl ?_
  refine s_ek_callV (ν := s_e146.1) (w := 1168) (len := 3) (a := 0) (as' := []) (r := []) rfl rfl rfl rfl rfl ?_
  refine s_ev_mono (s_op_never 6 xs) (fun o M1 h => ?_)
  obtain ⟨hk, r, rfl, h2⟩ := h
  refine ⟨hk, ?_⟩
  show s_Ek (s_rows 3 6 xs) 1300 s_law 487 [(3, .int 0), (2, .ref 151), (1, .ref 0), (0, .retAddr 2)] [.int r] M1 _
  refine s_ek_bk 1 (P := 488) (ls' := [(3, .int 0), (2, .ref 151), (1, .ref 0), (0, .retAddr 2)]) (st' := [.ref 151, .int r]) (M' := M1) rfl ?_
  refine s_ek_callV (ν := s_e242.1) (w := 1936) (len := 3) (a := 151) (as' := []) (r := [.int r]) rfl rfl rfl ((hk.2.2 151).trans rfl) rfl ?_
  refine s_ev_mono h2 (fun o M2 h => ?_)
  obtain ⟨hk2, rfl⟩ := h
  refine ⟨hk2, ?_⟩
  show s_Ek (s_rows 3 6 xs) 1300 s_law 491 [(3, .int 0), (2, .ref 151), (1, .ref 0), (0, .retAddr 2)] [.int r, .int r] M2 _
  refine s_ek_if2 (T := 1193) rfl rfl (fun _ => ?_) (fun h => absurd (show r.toInt = r.toInt from rfl) h)
  refine s_ek_bk 5 (P := 21) (ls' := [(3, .int 6), (2, .ref 151), (1, .ref 0), (0, .retAddr 2)]) (st' := [.int 6, .int 6]) (M' := M2) rfl ?_
  refine s_ek_bk 4 (P := 1200) (ls' := [(3, .int 6), (2, .ref 151), (1, .ref 0), (0, .retAddr 2)]) (st' := [.int 1]) (M' := M2) rfl ?_
  exact s_ek_ret (o := some (.int 1)) (fun _ => rfl) rfl
set_option maxRecDepth 100000 in
set_option maxHeartbeats 8000000 in
theorem s_law_c10 (xs : Nat → Int32) : s_Ek (s_rows 3 6 xs) 1300 s_law 33 [(3, .int 0), (2, .ref 151), (1, .ref 0), (0, .retAddr 2)] [.int 10] s_M0 s_Lq := by
  refine s_ek_bk 12 (P := 507) (ls' := [(3, .int 0), (2, .ref 151), (1, .ref 0), (0, .retAddr 2)]) (st' := [.int (xs 2), .int (xs 1), .ref 0]) (M' := s_M0) rfl ?_
  refine s_ek_callV (ν := s_e147.1) (w := 1178) (len := 3) (a := 0) (as' := [.int (xs 1), .int (xs 2)]) (r := []) rfl rfl rfl rfl rfl ?_
  refine s_ev_mono (s_op_clash 6 xs ((xs 1)) ((xs 2))) (fun o M1 h => ?_)
  obtain ⟨hk, r, rfl, h2⟩ := h
  refine ⟨hk, ?_⟩
  show s_Ek (s_rows 3 6 xs) 1300 s_law 510 [(3, .int 0), (2, .ref 151), (1, .ref 0), (0, .retAddr 2)] [.int r] M1 _
  refine s_ek_bk 11 (P := 521) (ls' := [(3, .int 0), (2, .ref 151), (1, .ref 0), (0, .retAddr 2)]) (st' := [.int (xs 2), .int (xs 1), .ref 151, .int r]) (M' := M1) rfl ?_
  refine s_ek_callV (ν := s_e243.1) (w := 1946) (len := 3) (a := 151) (as' := [.int (xs 1), .int (xs 2)]) (r := [.int r]) rfl rfl rfl ((hk.2.2 151).trans rfl) rfl ?_
  refine s_ev_mono h2 (fun o M2 h => ?_)
  obtain ⟨hk2, rfl⟩ := h
  refine ⟨hk2, ?_⟩
  show s_Ek (s_rows 3 6 xs) 1300 s_law 524 [(3, .int 0), (2, .ref 151), (1, .ref 0), (0, .retAddr 2)] [.int r, .int r] M2 _
  refine s_ek_if2 (T := 1193) rfl rfl (fun _ => ?_) (fun h => absurd (show r.toInt = r.toInt from rfl) h)
  refine s_ek_bk 5 (P := 21) (ls' := [(3, .int 6), (2, .ref 151), (1, .ref 0), (0, .retAddr 2)]) (st' := [.int 6, .int 6]) (M' := M2) rfl ?_
  refine s_ek_bk 4 (P := 1200) (ls' := [(3, .int 6), (2, .ref 151), (1, .ref 0), (0, .retAddr 2)]) (st' := [.int 1]) (M' := M2) rfl ?_
  exact s_ek_ret (o := some (.int 1)) (fun _ => rfl) rfl
set_option maxRecDepth 100000 in
set_option maxHeartbeats 8000000 in
theorem s_law_c11 (xs : Nat → Int32) : s_Ek (s_rows 3 6 xs) 1300 s_law 33 [(3, .int 0), (2, .ref 151), (1, .ref 0), (0, .retAddr 2)] [.int 11] s_M0 s_Lq := by
  refine s_ek_bk 17 (P := 545) (ls' := [(3, .int 0), (2, .ref 151), (1, .ref 0), (0, .retAddr 2)]) (st' := [.int (xs 3), .int (xs 2), .int (xs 1), .ref 0]) (M' := s_M0) rfl ?_
  refine s_ek_callV (ν := s_e148.1) (w := 1187) (len := 3) (a := 0) (as' := [.int (xs 1), .int (xs 2), .int (xs 3)]) (r := []) rfl rfl rfl rfl rfl ?_
  refine s_ev_mono (s_op_write 6 xs ((xs 1)) ((xs 2)) ((xs 3))) (fun o M1 h => ?_)
  obtain ⟨hk, r, rfl, h2⟩ := h
  refine ⟨hk, ?_⟩
  show s_Ek (s_rows 3 6 xs) 1300 s_law 548 [(3, .int 0), (2, .ref 151), (1, .ref 0), (0, .retAddr 2)] [.int r] M1 _
  refine s_ek_bk 16 (P := 564) (ls' := [(3, .int 0), (2, .ref 151), (1, .ref 0), (0, .retAddr 2)]) (st' := [.int (xs 3), .int (xs 2), .int (xs 1), .ref 151, .int r]) (M' := M1) rfl ?_
  refine s_ek_callV (ν := s_e249.1) (w := 1995) (len := 3) (a := 151) (as' := [.int (xs 1), .int (xs 2), .int (xs 3)]) (r := [.int r]) rfl rfl rfl ((hk.2.2 151).trans rfl) rfl ?_
  refine s_ev_mono h2 (fun o M2 h => ?_)
  obtain ⟨hk2, rfl⟩ := h
  refine ⟨hk2, ?_⟩
  show s_Ek (s_rows 3 6 xs) 1300 s_law 567 [(3, .int 0), (2, .ref 151), (1, .ref 0), (0, .retAddr 2)] [.int r, .int r] M2 _
  refine s_ek_if2 (T := 1193) rfl rfl (fun _ => ?_) (fun h => absurd (show r.toInt = r.toInt from rfl) h)
  refine s_ek_bk 5 (P := 21) (ls' := [(3, .int 6), (2, .ref 151), (1, .ref 0), (0, .retAddr 2)]) (st' := [.int 6, .int 6]) (M' := M2) rfl ?_
  refine s_ek_bk 4 (P := 1200) (ls' := [(3, .int 6), (2, .ref 151), (1, .ref 0), (0, .retAddr 2)]) (st' := [.int 1]) (M' := M2) rfl ?_
  exact s_ek_ret (o := some (.int 1)) (fun _ => rfl) rfl
set_option maxRecDepth 100000 in
set_option maxHeartbeats 8000000 in
theorem s_law_c12 (xs : Nat → Int32) : s_Ek (s_rows 3 6 xs) 1300 s_law 33 [(3, .int 0), (2, .ref 151), (1, .ref 0), (0, .retAddr 2)] [.int 12] s_M0 s_Lq := by
  refine s_ek_bk 17 (P := 588) (ls' := [(3, .int 0), (2, .ref 151), (1, .ref 0), (0, .retAddr 2)]) (st' := [.int (xs 3), .int (xs 2), .int (xs 1), .ref 0]) (M' := s_M0) rfl ?_
  refine s_ek_callV (ν := s_e149.1) (w := 1195) (len := 3) (a := 0) (as' := [.int (xs 1), .int (xs 2), .int (xs 3)]) (r := []) rfl rfl rfl rfl rfl ?_
  refine s_ev_mono (s_op_bars 6 xs ((xs 1)) ((xs 2)) ((xs 3))) (fun o M1 h => ?_)
  obtain ⟨hk, r, rfl, h2⟩ := h
  refine ⟨hk, ?_⟩
  show s_Ek (s_rows 3 6 xs) 1300 s_law 591 [(3, .int 0), (2, .ref 151), (1, .ref 0), (0, .retAddr 2)] [.int r] M1 _
  refine s_ek_bk 16 (P := 607) (ls' := [(3, .int 0), (2, .ref 151), (1, .ref 0), (0, .retAddr 2)]) (st' := [.int (xs 3), .int (xs 2), .int (xs 1), .ref 151, .int r]) (M' := M1) rfl ?_
  refine s_ek_callV (ν := s_e251.1) (w := 2011) (len := 3) (a := 151) (as' := [.int (xs 1), .int (xs 2), .int (xs 3)]) (r := [.int r]) rfl rfl rfl ((hk.2.2 151).trans rfl) rfl ?_
  refine s_ev_mono h2 (fun o M2 h => ?_)
  obtain ⟨hk2, rfl⟩ := h
  refine ⟨hk2, ?_⟩
  show s_Ek (s_rows 3 6 xs) 1300 s_law 610 [(3, .int 0), (2, .ref 151), (1, .ref 0), (0, .retAddr 2)] [.int r, .int r] M2 _
  refine s_ek_if2 (T := 1193) rfl rfl (fun _ => ?_) (fun h => absurd (show r.toInt = r.toInt from rfl) h)
  refine s_ek_bk 5 (P := 21) (ls' := [(3, .int 6), (2, .ref 151), (1, .ref 0), (0, .retAddr 2)]) (st' := [.int 6, .int 6]) (M' := M2) rfl ?_
  refine s_ek_bk 4 (P := 1200) (ls' := [(3, .int 6), (2, .ref 151), (1, .ref 0), (0, .retAddr 2)]) (st' := [.int 1]) (M' := M2) rfl ?_
  exact s_ek_ret (o := some (.int 1)) (fun _ => rfl) rfl
set_option maxRecDepth 100000 in
set_option maxHeartbeats 8000000 in
theorem s_law_c13 (xs : Nat → Int32) : s_Ek (s_rows 3 6 xs) 1300 s_law 33 [(3, .int 0), (2, .ref 151), (1, .ref 0), (0, .retAddr 2)] [.int 13] s_M0 s_Lq := by
  refine s_ek_bk 12 (P := 626) (ls' := [(3, .int 0), (2, .ref 151), (1, .ref 0), (0, .retAddr 2)]) (st' := [.int (xs 2), .int (xs 1), .ref 0]) (M' := s_M0) rfl ?_
  refine s_ek_callV (ν := s_e150.1) (w := 1202) (len := 3) (a := 0) (as' := [.int (xs 1), .int (xs 2)]) (r := []) rfl rfl rfl rfl rfl ?_
  refine s_ev_mono (s_op_meant 6 xs ((xs 1)) ((xs 2))) (fun o M1 h => ?_)
  obtain ⟨hk, r, rfl, h2⟩ := h
  refine ⟨hk, ?_⟩
  show s_Ek (s_rows 3 6 xs) 1300 s_law 629 [(3, .int 0), (2, .ref 151), (1, .ref 0), (0, .retAddr 2)] [.int r] M1 _
  refine s_ek_bk 11 (P := 640) (ls' := [(3, .int 0), (2, .ref 151), (1, .ref 0), (0, .retAddr 2)]) (st' := [.int (xs 2), .int (xs 1), .ref 151, .int r]) (M' := M1) rfl ?_
  refine s_ek_callV (ν := s_e254.1) (w := 2034) (len := 3) (a := 151) (as' := [.int (xs 1), .int (xs 2)]) (r := [.int r]) rfl rfl rfl ((hk.2.2 151).trans rfl) rfl ?_
  refine s_ev_mono h2 (fun o M2 h => ?_)
  obtain ⟨hk2, rfl⟩ := h
  refine ⟨hk2, ?_⟩
  show s_Ek (s_rows 3 6 xs) 1300 s_law 643 [(3, .int 0), (2, .ref 151), (1, .ref 0), (0, .retAddr 2)] [.int r, .int r] M2 _
  refine s_ek_if2 (T := 1193) rfl rfl (fun _ => ?_) (fun h => absurd (show r.toInt = r.toInt from rfl) h)
  refine s_ek_bk 5 (P := 21) (ls' := [(3, .int 6), (2, .ref 151), (1, .ref 0), (0, .retAddr 2)]) (st' := [.int 6, .int 6]) (M' := M2) rfl ?_
  refine s_ek_bk 4 (P := 1200) (ls' := [(3, .int 6), (2, .ref 151), (1, .ref 0), (0, .retAddr 2)]) (st' := [.int 1]) (M' := M2) rfl ?_
  exact s_ek_ret (o := some (.int 1)) (fun _ => rfl) rfl
set_option maxRecDepth 100000 in
set_option maxHeartbeats 8000000 in
theorem s_law_c14 (xs : Nat → Int32) : s_Ek (s_rows 3 6 xs) 1300 s_law 33 [(3, .int 0), (2, .ref 151), (1, .ref 0), (0, .retAddr 2)] [.int 14] s_M0 s_Lq := by
  refine s_ek_bk 7 (P := 654) (ls' := [(3, .int 0), (2, .ref 151), (1, .ref 0), (0, .retAddr 2)]) (st' := [.int (xs 1), .ref 0]) (M' := s_M0) rfl ?_
  refine s_ek_callV (ν := s_e151.1) (w := 1209) (len := 3) (a := 0) (as' := [.int (xs 1)]) (r := []) rfl rfl rfl rfl rfl ?_
  refine s_ev_mono (s_op_falseOnes 6 xs ((xs 1))) (fun o M1 h => ?_)
  obtain ⟨hk, r, rfl, h2⟩ := h
  refine ⟨hk, ?_⟩
  show s_Ek (s_rows 3 6 xs) 1300 s_law 657 [(3, .int 0), (2, .ref 151), (1, .ref 0), (0, .retAddr 2)] [.int r] M1 _
  refine s_ek_bk 6 (P := 663) (ls' := [(3, .int 0), (2, .ref 151), (1, .ref 0), (0, .retAddr 2)]) (st' := [.int (xs 1), .ref 151, .int r]) (M' := M1) rfl ?_
  refine s_ek_callV (ν := s_e255.1) (w := 2041) (len := 3) (a := 151) (as' := [.int (xs 1)]) (r := [.int r]) rfl rfl rfl ((hk.2.2 151).trans rfl) rfl ?_
  refine s_ev_mono h2 (fun o M2 h => ?_)
  obtain ⟨hk2, rfl⟩ := h
  refine ⟨hk2, ?_⟩
  show s_Ek (s_rows 3 6 xs) 1300 s_law 666 [(3, .int 0), (2, .ref 151), (1, .ref 0), (0, .retAddr 2)] [.int r, .int r] M2 _
  refine s_ek_if2 (T := 1193) rfl rfl (fun _ => ?_) (fun h => absurd (show r.toInt = r.toInt from rfl) h)
  refine s_ek_bk 5 (P := 21) (ls' := [(3, .int 6), (2, .ref 151), (1, .ref 0), (0, .retAddr 2)]) (st' := [.int 6, .int 6]) (M' := M2) rfl ?_
  refine s_ek_bk 4 (P := 1200) (ls' := [(3, .int 6), (2, .ref 151), (1, .ref 0), (0, .retAddr 2)]) (st' := [.int 1]) (M' := M2) rfl ?_
  exact s_ek_ret (o := some (.int 1)) (fun _ => rfl) rfl
set_option maxRecDepth 100000 in
set_option maxHeartbeats 8000000 in
theorem s_law_c15 (xs : Nat → Int32) : s_Ek (s_rows 3 6 xs) 1300 s_law 33 [(3, .int 0), (2, .ref 151), (1, .ref 0), (0, .retAddr 2)] [.int 15] s_M0 s_Lq := by
  refine s_ek_bk 12 (P := 682) (ls' := [(3, .int 0), (2, .ref 151), (1, .ref 0), (0, .retAddr 2)]) (st' := [.int (xs 2), .int (xs 1), .ref 0]) (M' := s_M0) rfl ?_
  refine s_ek_callV (ν := s_e152.1) (w := 1218) (len := 3) (a := 0) (as' := [.int (xs 1), .int (xs 2)]) (r := []) rfl rfl rfl rfl rfl ?_
  refine s_ev_mono (s_op_under 6 xs ((xs 1)) ((xs 2))) (fun o M1 h => ?_)
  obtain ⟨hk, r, rfl, h2⟩ := h
  refine ⟨hk, ?_⟩
  show s_Ek (s_rows 3 6 xs) 1300 s_law 685 [(3, .int 0), (2, .ref 151), (1, .ref 0), (0, .retAddr 2)] [.int r] M1 _
  refine s_ek_bk 11 (P := 696) (ls' := [(3, .int 0), (2, .ref 151), (1, .ref 0), (0, .retAddr 2)]) (st' := [.int (xs 2), .int (xs 1), .ref 151, .int r]) (M' := M1) rfl ?_
  refine s_ek_callV (ν := s_e256.1) (w := 2050) (len := 3) (a := 151) (as' := [.int (xs 1), .int (xs 2)]) (r := [.int r]) rfl rfl rfl ((hk.2.2 151).trans rfl) rfl ?_
  refine s_ev_mono h2 (fun o M2 h => ?_)
  obtain ⟨hk2, rfl⟩ := h
  refine ⟨hk2, ?_⟩
  show s_Ek (s_rows 3 6 xs) 1300 s_law 699 [(3, .int 0), (2, .ref 151), (1, .ref 0), (0, .retAddr 2)] [.int r, .int r] M2 _
  refine s_ek_if2 (T := 1193) rfl rfl (fun _ => ?_) (fun h => absurd (show r.toInt = r.toInt from rfl) h)
  refine s_ek_bk 5 (P := 21) (ls' := [(3, .int 6), (2, .ref 151), (1, .ref 0), (0, .retAddr 2)]) (st' := [.int 6, .int 6]) (M' := M2) rfl ?_
  refine s_ek_bk 4 (P := 1200) (ls' := [(3, .int 6), (2, .ref 151), (1, .ref 0), (0, .retAddr 2)]) (st' := [.int 1]) (M' := M2) rfl ?_
  exact s_ek_ret (o := some (.int 1)) (fun _ => rfl) rfl
set_option maxRecDepth 100000 in
set_option maxHeartbeats 8000000 in
theorem s_law_c16 (xs : Nat → Int32) : s_Ek (s_rows 3 6 xs) 1300 s_law 33 [(3, .int 0), (2, .ref 151), (1, .ref 0), (0, .retAddr 2)] [.int 16] s_M0 s_Lq := by
  refine s_ek_bk 12 (P := 715) (ls' := [(3, .int 0), (2, .ref 151), (1, .ref 0), (0, .retAddr 2)]) (st' := [.int (xs 2), .int (xs 1), .ref 0]) (M' := s_M0) rfl ?_
  refine s_ek_callV (ν := s_e153.1) (w := 1226) (len := 3) (a := 0) (as' := [.int (xs 1), .int (xs 2)]) (r := []) rfl rfl rfl rfl rfl ?_
  refine s_ev_mono (s_op_unlike 6 xs ((xs 1)) ((xs 2))) (fun o M1 h => ?_)
  obtain ⟨hk, r, rfl, h2⟩ := h
  refine ⟨hk, ?_⟩
  show s_Ek (s_rows 3 6 xs) 1300 s_law 718 [(3, .int 0), (2, .ref 151), (1, .ref 0), (0, .retAddr 2)] [.int r] M1 _
  refine s_ek_bk 11 (P := 729) (ls' := [(3, .int 0), (2, .ref 151), (1, .ref 0), (0, .retAddr 2)]) (st' := [.int (xs 2), .int (xs 1), .ref 151, .int r]) (M' := M1) rfl ?_
  refine s_ek_callV (ν := s_e257.1) (w := 2058) (len := 3) (a := 151) (as' := [.int (xs 1), .int (xs 2)]) (r := [.int r]) rfl rfl rfl ((hk.2.2 151).trans rfl) rfl ?_
  refine s_ev_mono h2 (fun o M2 h => ?_)
  obtain ⟨hk2, rfl⟩ := h
  refine ⟨hk2, ?_⟩
  show s_Ek (s_rows 3 6 xs) 1300 s_law 732 [(3, .int 0), (2, .ref 151), (1, .ref 0), (0, .retAddr 2)] [.int r, .int r] M2 _
  refine s_ek_if2 (T := 1193) rfl rfl (fun _ => ?_) (fun h => absurd (show r.toInt = r.toInt from rfl) h)
  refine s_ek_bk 5 (P := 21) (ls' := [(3, .int 6), (2, .ref 151), (1, .ref 0), (0, .retAddr 2)]) (st' := [.int 6, .int 6]) (M' := M2) rfl ?_
  refine s_ek_bk 4 (P := 1200) (ls' := [(3, .int 6), (2, .ref 151), (1, .ref 0), (0, .retAddr 2)]) (st' := [.int 1]) (M' := M2) rfl ?_
  exact s_ek_ret (o := some (.int 1)) (fun _ => rfl) rfl
set_option maxRecDepth 100000 in
set_option maxHeartbeats 8000000 in
theorem s_law_c17 (xs : Nat → Int32) : s_Ek (s_rows 3 6 xs) 1300 s_law 33 [(3, .int 0), (2, .ref 151), (1, .ref 0), (0, .retAddr 2)] [.int 17] s_M0 s_Lq := by
  refine s_ek_bk 2 (P := 738) (ls' := [(3, .int 0), (2, .ref 151), (1, .ref 0), (0, .retAddr 2)]) (st' := [.ref 0]) (M' := s_M0) rfl ?_
  refine s_ek_callV (ν := s_e154.1) (w := 1232) (len := 3) (a := 0) (as' := []) (r := []) rfl rfl rfl rfl rfl ?_
  refine s_ev_mono (s_op_rings 6 xs) (fun o M1 h => ?_)
  obtain ⟨hk, r, rfl, h2⟩ := h
  refine ⟨hk, ?_⟩
  show s_Ek (s_rows 3 6 xs) 1300 s_law 741 [(3, .int 0), (2, .ref 151), (1, .ref 0), (0, .retAddr 2)] [.int r] M1 _
  refine s_ek_bk 1 (P := 742) (ls' := [(3, .int 0), (2, .ref 151), (1, .ref 0), (0, .retAddr 2)]) (st' := [.ref 151, .int r]) (M' := M1) rfl ?_
  refine s_ek_callV (ν := s_e259.1) (w := 2072) (len := 3) (a := 151) (as' := []) (r := [.int r]) rfl rfl rfl ((hk.2.2 151).trans rfl) rfl ?_
  refine s_ev_mono h2 (fun o M2 h => ?_)
  obtain ⟨hk2, rfl⟩ := h
  refine ⟨hk2, ?_⟩
  show s_Ek (s_rows 3 6 xs) 1300 s_law 745 [(3, .int 0), (2, .ref 151), (1, .ref 0), (0, .retAddr 2)] [.int r, .int r] M2 _
  refine s_ek_if2 (T := 1193) rfl rfl (fun _ => ?_) (fun h => absurd (show r.toInt = r.toInt from rfl) h)
  refine s_ek_bk 5 (P := 21) (ls' := [(3, .int 6), (2, .ref 151), (1, .ref 0), (0, .retAddr 2)]) (st' := [.int 6, .int 6]) (M' := M2) rfl ?_
  refine s_ek_bk 4 (P := 1200) (ls' := [(3, .int 6), (2, .ref 151), (1, .ref 0), (0, .retAddr 2)]) (st' := [.int 1]) (M' := M2) rfl ?_
  exact s_ek_ret (o := some (.int 1)) (fun _ => rfl) rfl
set_option maxRecDepth 100000 in
set_option maxHeartbeats 8000000 in
theorem s_law_c18 (xs : Nat → Int32) : s_Ek (s_rows 3 6 xs) 1300 s_law 33 [(3, .int 0), (2, .ref 151), (1, .ref 0), (0, .retAddr 2)] [.int 18] s_M0 s_Lq := by
  refine s_ek_bk 2 (P := 751) (ls' := [(3, .int 0), (2, .ref 151), (1, .ref 0), (0, .retAddr 2)]) (st' := [.ref 0]) (M' := s_M0) rfl ?_
  refine s_ek_callV (ν := s_e155.1) (w := 1240) (len := 3) (a := 0) (as' := []) (r := []) rfl rfl rfl rfl rfl ?_
  refine s_ev_mono (s_op_image 6 xs) (fun o M1 h => ?_)
  obtain ⟨hk, r, rfl, h2⟩ := h
  refine ⟨hk, ?_⟩
  show s_Ek (s_rows 3 6 xs) 1300 s_law 754 [(3, .int 0), (2, .ref 151), (1, .ref 0), (0, .retAddr 2)] [.int r] M1 _
  refine s_ek_bk 1 (P := 755) (ls' := [(3, .int 0), (2, .ref 151), (1, .ref 0), (0, .retAddr 2)]) (st' := [.ref 151, .int r]) (M' := M1) rfl ?_
  refine s_ek_callV (ν := s_e260.1) (w := 2080) (len := 3) (a := 151) (as' := []) (r := [.int r]) rfl rfl rfl ((hk.2.2 151).trans rfl) rfl ?_
  refine s_ev_mono h2 (fun o M2 h => ?_)
  obtain ⟨hk2, rfl⟩ := h
  refine ⟨hk2, ?_⟩
  show s_Ek (s_rows 3 6 xs) 1300 s_law 758 [(3, .int 0), (2, .ref 151), (1, .ref 0), (0, .retAddr 2)] [.int r, .int r] M2 _
  refine s_ek_if2 (T := 1193) rfl rfl (fun _ => ?_) (fun h => absurd (show r.toInt = r.toInt from rfl) h)
  refine s_ek_bk 5 (P := 21) (ls' := [(3, .int 6), (2, .ref 151), (1, .ref 0), (0, .retAddr 2)]) (st' := [.int 6, .int 6]) (M' := M2) rfl ?_
  refine s_ek_bk 4 (P := 1200) (ls' := [(3, .int 6), (2, .ref 151), (1, .ref 0), (0, .retAddr 2)]) (st' := [.int 1]) (M' := M2) rfl ?_
  exact s_ek_ret (o := some (.int 1)) (fun _ => rfl) rfl
set_option maxRecDepth 100000 in
set_option maxHeartbeats 8000000 in
theorem s_law_c19 (xs : Nat → Int32) : s_Ek (s_rows 3 6 xs) 1300 s_law 33 [(3, .int 0), (2, .ref 151), (1, .ref 0), (0, .retAddr 2)] [.int 19] s_M0 s_Lq := by
  refine s_ek_bk 2 (P := 764) (ls' := [(3, .int 0), (2, .ref 151), (1, .ref 0), (0, .retAddr 2)]) (st' := [.ref 0]) (M' := s_M0) rfl ?_
  refine s_ek_callV (ν := s_e156.1) (w := 1248) (len := 3) (a := 0) (as' := []) (r := []) rfl rfl rfl rfl rfl ?_
  refine s_ev_mono (s_op_back 6 xs) (fun o M1 h => ?_)
  obtain ⟨hk, r, rfl, h2⟩ := h
  refine ⟨hk, ?_⟩
  show s_Ek (s_rows 3 6 xs) 1300 s_law 767 [(3, .int 0), (2, .ref 151), (1, .ref 0), (0, .retAddr 2)] [.int r] M1 _
  refine s_ek_bk 1 (P := 768) (ls' := [(3, .int 0), (2, .ref 151), (1, .ref 0), (0, .retAddr 2)]) (st' := [.ref 151, .int r]) (M' := M1) rfl ?_
  refine s_ek_callV (ν := s_e261.1) (w := 2088) (len := 3) (a := 151) (as' := []) (r := [.int r]) rfl rfl rfl ((hk.2.2 151).trans rfl) rfl ?_
  refine s_ev_mono h2 (fun o M2 h => ?_)
  obtain ⟨hk2, rfl⟩ := h
  refine ⟨hk2, ?_⟩
  show s_Ek (s_rows 3 6 xs) 1300 s_law 771 [(3, .int 0), (2, .ref 151), (1, .ref 0), (0, .retAddr 2)] [.int r, .int r] M2 _
  refine s_ek_if2 (T := 1193) rfl rfl (fun _ => ?_) (fun h => absurd (show r.toInt = r.toInt from rfl) h)
  refine s_ek_bk 5 (P := 21) (ls' := [(3, .int 6), (2, .ref 151), (1, .ref 0), (0, .retAddr 2)]) (st' := [.int 6, .int 6]) (M' := M2) rfl ?_
  refine s_ek_bk 4 (P := 1200) (ls' := [(3, .int 6), (2, .ref 151), (1, .ref 0), (0, .retAddr 2)]) (st' := [.int 1]) (M' := M2) rfl ?_
  exact s_ek_ret (o := some (.int 1)) (fun _ => rfl) rfl
set_option maxRecDepth 100000 in
set_option maxHeartbeats 8000000 in
theorem s_law_c20 (xs : Nat → Int32) : s_Ek (s_rows 3 6 xs) 1300 s_law 33 [(3, .int 0), (2, .ref 151), (1, .ref 0), (0, .retAddr 2)] [.int 20] s_M0 s_Lq := by
  refine s_ek_bk 2 (P := 777) (ls' := [(3, .int 0), (2, .ref 151), (1, .ref 0), (0, .retAddr 2)]) (st' := [.ref 0]) (M' := s_M0) rfl ?_
  refine s_ek_callV (ν := s_e157.1) (w := 1256) (len := 3) (a := 0) (as' := []) (r := []) rfl rfl rfl rfl rfl ?_
  refine s_ev_mono (s_op_undo 6 xs) (fun o M1 h => ?_)
  obtain ⟨hk, r, rfl, h2⟩ := h
  refine ⟨hk, ?_⟩
  show s_Ek (s_rows 3 6 xs) 1300 s_law 780 [(3, .int 0), (2, .ref 151), (1, .ref 0), (0, .retAddr 2)] [.int r] M1 _
  refine s_ek_bk 1 (P := 781) (ls' := [(3, .int 0), (2, .ref 151), (1, .ref 0), (0, .retAddr 2)]) (st' := [.ref 151, .int r]) (M' := M1) rfl ?_
  refine s_ek_callV (ν := s_e211.1) (w := 1688) (len := 3) (a := 151) (as' := []) (r := [.int r]) rfl rfl rfl ((hk.2.2 151).trans rfl) rfl ?_
  refine s_ev_mono h2 (fun o M2 h => ?_)
  obtain ⟨hk2, rfl⟩ := h
  refine ⟨hk2, ?_⟩
  show s_Ek (s_rows 3 6 xs) 1300 s_law 784 [(3, .int 0), (2, .ref 151), (1, .ref 0), (0, .retAddr 2)] [.int r, .int r] M2 _
  refine s_ek_if2 (T := 1193) rfl rfl (fun _ => ?_) (fun h => absurd (show r.toInt = r.toInt from rfl) h)
  refine s_ek_bk 5 (P := 21) (ls' := [(3, .int 6), (2, .ref 151), (1, .ref 0), (0, .retAddr 2)]) (st' := [.int 6, .int 6]) (M' := M2) rfl ?_
  refine s_ek_bk 4 (P := 1200) (ls' := [(3, .int 6), (2, .ref 151), (1, .ref 0), (0, .retAddr 2)]) (st' := [.int 1]) (M' := M2) rfl ?_
  exact s_ek_ret (o := some (.int 1)) (fun _ => rfl) rfl
set_option maxRecDepth 100000 in
set_option maxHeartbeats 8000000 in
theorem s_law_c21 (xs : Nat → Int32) : s_Ek (s_rows 3 6 xs) 1300 s_law 33 [(3, .int 0), (2, .ref 151), (1, .ref 0), (0, .retAddr 2)] [.int 21] s_M0 s_Lq := by
  refine s_ek_bk 2 (P := 790) (ls' := [(3, .int 0), (2, .ref 151), (1, .ref 0), (0, .retAddr 2)]) (st' := [.ref 0]) (M' := s_M0) rfl ?_
  refine s_ek_callV (ν := s_e158.1) (w := 1264) (len := 3) (a := 0) (as' := []) (r := []) rfl rfl rfl rfl rfl ?_
  refine s_ev_mono (s_op_redo 6 xs) (fun o M1 h => ?_)
  obtain ⟨hk, r, rfl, h2⟩ := h
  refine ⟨hk, ?_⟩
  show s_Ek (s_rows 3 6 xs) 1300 s_law 793 [(3, .int 0), (2, .ref 151), (1, .ref 0), (0, .retAddr 2)] [.int r] M1 _
  refine s_ek_bk 1 (P := 794) (ls' := [(3, .int 0), (2, .ref 151), (1, .ref 0), (0, .retAddr 2)]) (st' := [.ref 151, .int r]) (M' := M1) rfl ?_
  refine s_ek_callV (ν := s_e212.1) (w := 1696) (len := 3) (a := 151) (as' := []) (r := [.int r]) rfl rfl rfl ((hk.2.2 151).trans rfl) rfl ?_
  refine s_ev_mono h2 (fun o M2 h => ?_)
  obtain ⟨hk2, rfl⟩ := h
  refine ⟨hk2, ?_⟩
  show s_Ek (s_rows 3 6 xs) 1300 s_law 797 [(3, .int 0), (2, .ref 151), (1, .ref 0), (0, .retAddr 2)] [.int r, .int r] M2 _
  refine s_ek_if2 (T := 1193) rfl rfl (fun _ => ?_) (fun h => absurd (show r.toInt = r.toInt from rfl) h)
  refine s_ek_bk 5 (P := 21) (ls' := [(3, .int 6), (2, .ref 151), (1, .ref 0), (0, .retAddr 2)]) (st' := [.int 6, .int 6]) (M' := M2) rfl ?_
  refine s_ek_bk 4 (P := 1200) (ls' := [(3, .int 6), (2, .ref 151), (1, .ref 0), (0, .retAddr 2)]) (st' := [.int 1]) (M' := M2) rfl ?_
  exact s_ek_ret (o := some (.int 1)) (fun _ => rfl) rfl
set_option maxRecDepth 100000 in
set_option maxHeartbeats 8000000 in
theorem s_law_c22 (xs : Nat → Int32) : s_Ek (s_rows 3 6 xs) 1300 s_law 33 [(3, .int 0), (2, .ref 151), (1, .ref 0), (0, .retAddr 2)] [.int 22] s_M0 s_Lq := by
  refine s_ek_bk 7 (P := 808) (ls' := [(3, .int 0), (2, .ref 151), (1, .ref 0), (0, .retAddr 2)]) (st' := [.int (xs 1), .ref 0]) (M' := s_M0) rfl ?_
  refine s_ek_callV (ν := s_e159.1) (w := 1273) (len := 3) (a := 0) (as' := [.int (xs 1)]) (r := []) rfl rfl rfl rfl rfl ?_
  refine s_ev_mono (s_op_body 6 xs ((xs 1))) (fun o M1 h => ?_)
  obtain ⟨hk, r, rfl, h2⟩ := h
  refine ⟨hk, ?_⟩
  show s_Ek (s_rows 3 6 xs) 1300 s_law 811 [(3, .int 0), (2, .ref 151), (1, .ref 0), (0, .retAddr 2)] [.int r] M1 _
  refine s_ek_bk 6 (P := 817) (ls' := [(3, .int 0), (2, .ref 151), (1, .ref 0), (0, .retAddr 2)]) (st' := [.int (xs 1), .ref 151, .int r]) (M' := M1) rfl ?_
  refine s_ek_callV (ν := s_e265.1) (w := 2121) (len := 3) (a := 151) (as' := [.int (xs 1)]) (r := [.int r]) rfl rfl rfl ((hk.2.2 151).trans rfl) rfl ?_
  refine s_ev_mono h2 (fun o M2 h => ?_)
  obtain ⟨hk2, rfl⟩ := h
  refine ⟨hk2, ?_⟩
  show s_Ek (s_rows 3 6 xs) 1300 s_law 820 [(3, .int 0), (2, .ref 151), (1, .ref 0), (0, .retAddr 2)] [.int r, .int r] M2 _
  refine s_ek_if2 (T := 1193) rfl rfl (fun _ => ?_) (fun h => absurd (show r.toInt = r.toInt from rfl) h)
  refine s_ek_bk 5 (P := 21) (ls' := [(3, .int 6), (2, .ref 151), (1, .ref 0), (0, .retAddr 2)]) (st' := [.int 6, .int 6]) (M' := M2) rfl ?_
  refine s_ek_bk 4 (P := 1200) (ls' := [(3, .int 6), (2, .ref 151), (1, .ref 0), (0, .retAddr 2)]) (st' := [.int 1]) (M' := M2) rfl ?_
  exact s_ek_ret (o := some (.int 1)) (fun _ => rfl) rfl
set_option maxRecDepth 100000 in
set_option maxHeartbeats 8000000 in
theorem s_law_c23 (xs : Nat → Int32) : s_Ek (s_rows 3 6 xs) 1300 s_law 33 [(3, .int 0), (2, .ref 151), (1, .ref 0), (0, .retAddr 2)] [.int 23] s_M0 s_Lq := by
  refine s_ek_bk 17 (P := 841) (ls' := [(3, .int 0), (2, .ref 151), (1, .ref 0), (0, .retAddr 2)]) (st' := [.int (xs 3), .int (xs 2), .int (xs 1), .ref 0]) (M' := s_M0) rfl ?_
  refine s_ek_callV (ν := s_e160.1) (w := 1283) (len := 3) (a := 0) (as' := [.int (xs 1), .int (xs 2), .int (xs 3)]) (r := []) rfl rfl rfl rfl rfl ?_
  refine s_ev_mono (s_op_act 6 xs ((xs 1)) ((xs 2)) ((xs 3))) (fun o M1 h => ?_)
  obtain ⟨hk, r, rfl, h2⟩ := h
  refine ⟨hk, ?_⟩
  show s_Ek (s_rows 3 6 xs) 1300 s_law 844 [(3, .int 0), (2, .ref 151), (1, .ref 0), (0, .retAddr 2)] [.int r] M1 _
  refine s_ek_bk 16 (P := 860) (ls' := [(3, .int 0), (2, .ref 151), (1, .ref 0), (0, .retAddr 2)]) (st' := [.int (xs 3), .int (xs 2), .int (xs 1), .ref 151, .int r]) (M' := M1) rfl ?_
  refine s_ek_callV (ν := s_e278.1) (w := 2227) (len := 3) (a := 151) (as' := [.int (xs 1), .int (xs 2), .int (xs 3)]) (r := [.int r]) rfl rfl rfl ((hk.2.2 151).trans rfl) rfl ?_
  refine s_ev_mono h2 (fun o M2 h => ?_)
  obtain ⟨hk2, rfl⟩ := h
  refine ⟨hk2, ?_⟩
  show s_Ek (s_rows 3 6 xs) 1300 s_law 863 [(3, .int 0), (2, .ref 151), (1, .ref 0), (0, .retAddr 2)] [.int r, .int r] M2 _
  refine s_ek_if2 (T := 1193) rfl rfl (fun _ => ?_) (fun h => absurd (show r.toInt = r.toInt from rfl) h)
  refine s_ek_bk 5 (P := 21) (ls' := [(3, .int 6), (2, .ref 151), (1, .ref 0), (0, .retAddr 2)]) (st' := [.int 6, .int 6]) (M' := M2) rfl ?_
  refine s_ek_bk 4 (P := 1200) (ls' := [(3, .int 6), (2, .ref 151), (1, .ref 0), (0, .retAddr 2)]) (st' := [.int 1]) (M' := M2) rfl ?_
  exact s_ek_ret (o := some (.int 1)) (fun _ => rfl) rfl
set_option maxRecDepth 100000 in
set_option maxHeartbeats 8000000 in
theorem s_law_c24 (xs : Nat → Int32) : s_Ek (s_rows 3 6 xs) 1300 s_law 33 [(3, .int 0), (2, .ref 151), (1, .ref 0), (0, .retAddr 2)] [.int 24] s_M0 s_Lq := by
  refine s_ek_bk 7 (P := 874) (ls' := [(3, .int 0), (2, .ref 151), (1, .ref 0), (0, .retAddr 2)]) (st' := [.int (xs 1), .ref 0]) (M' := s_M0) rfl ?_
  refine s_ek_callV (ν := s_e161.1) (w := 1289) (len := 3) (a := 0) (as' := [.int (xs 1)]) (r := []) rfl rfl rfl rfl rfl ?_
  refine s_ev_mono (s_op_trace 6 xs ((xs 1))) (fun o M1 h => ?_)
  obtain ⟨hk, r, rfl, h2⟩ := h
  refine ⟨hk, ?_⟩
  show s_Ek (s_rows 3 6 xs) 1300 s_law 877 [(3, .int 0), (2, .ref 151), (1, .ref 0), (0, .retAddr 2)] [.int r] M1 _
  refine s_ek_bk 6 (P := 883) (ls' := [(3, .int 0), (2, .ref 151), (1, .ref 0), (0, .retAddr 2)]) (st' := [.int (xs 1), .ref 151, .int r]) (M' := M1) rfl ?_
  refine s_ek_callV (ν := s_e264.1) (w := 2113) (len := 3) (a := 151) (as' := [.int (xs 1)]) (r := [.int r]) rfl rfl rfl ((hk.2.2 151).trans rfl) rfl ?_
  refine s_ev_mono h2 (fun o M2 h => ?_)
  obtain ⟨hk2, rfl⟩ := h
  refine ⟨hk2, ?_⟩
  show s_Ek (s_rows 3 6 xs) 1300 s_law 886 [(3, .int 0), (2, .ref 151), (1, .ref 0), (0, .retAddr 2)] [.int r, .int r] M2 _
  refine s_ek_if2 (T := 1193) rfl rfl (fun _ => ?_) (fun h => absurd (show r.toInt = r.toInt from rfl) h)
  refine s_ek_bk 5 (P := 21) (ls' := [(3, .int 6), (2, .ref 151), (1, .ref 0), (0, .retAddr 2)]) (st' := [.int 6, .int 6]) (M' := M2) rfl ?_
  refine s_ek_bk 4 (P := 1200) (ls' := [(3, .int 6), (2, .ref 151), (1, .ref 0), (0, .retAddr 2)]) (st' := [.int 1]) (M' := M2) rfl ?_
  exact s_ek_ret (o := some (.int 1)) (fun _ => rfl) rfl
set_option maxRecDepth 100000 in
set_option maxHeartbeats 8000000 in
theorem s_law_c25 (xs : Nat → Int32) : s_Ek (s_rows 3 6 xs) 1300 s_law 33 [(3, .int 0), (2, .ref 151), (1, .ref 0), (0, .retAddr 2)] [.int 25] s_M0 s_Lq := by
  refine s_ek_bk 12 (P := 902) (ls' := [(3, .int 0), (2, .ref 151), (1, .ref 0), (0, .retAddr 2)]) (st' := [.int (xs 2), .int (xs 1), .ref 0]) (M' := s_M0) rfl ?_
  refine s_ek_callV (ν := s_e162.1) (w := 1298) (len := 3) (a := 0) (as' := [.int (xs 1), .int (xs 2)]) (r := []) rfl rfl rfl rfl rfl ?_
  refine s_ev_mono (s_op_keep 6 xs ((xs 1)) ((xs 2))) (fun o M1 h => ?_)
  obtain ⟨hk, r, rfl, h2⟩ := h
  refine ⟨hk, ?_⟩
  show s_Ek (s_rows 3 6 xs) 1300 s_law 905 [(3, .int 0), (2, .ref 151), (1, .ref 0), (0, .retAddr 2)] [.int r] M1 _
  refine s_ek_bk 11 (P := 916) (ls' := [(3, .int 0), (2, .ref 151), (1, .ref 0), (0, .retAddr 2)]) (st' := [.int (xs 2), .int (xs 1), .ref 151, .int r]) (M' := M1) rfl ?_
  refine s_ek_callV (ν := s_e282.1) (w := 2258) (len := 3) (a := 151) (as' := [.int (xs 1), .int (xs 2)]) (r := [.int r]) rfl rfl rfl ((hk.2.2 151).trans rfl) rfl ?_
  refine s_ev_mono h2 (fun o M2 h => ?_)
  obtain ⟨hk2, rfl⟩ := h
  refine ⟨hk2, ?_⟩
  show s_Ek (s_rows 3 6 xs) 1300 s_law 919 [(3, .int 0), (2, .ref 151), (1, .ref 0), (0, .retAddr 2)] [.int r, .int r] M2 _
  refine s_ek_if2 (T := 1193) rfl rfl (fun _ => ?_) (fun h => absurd (show r.toInt = r.toInt from rfl) h)
  refine s_ek_bk 5 (P := 21) (ls' := [(3, .int 6), (2, .ref 151), (1, .ref 0), (0, .retAddr 2)]) (st' := [.int 6, .int 6]) (M' := M2) rfl ?_
  refine s_ek_bk 4 (P := 1200) (ls' := [(3, .int 6), (2, .ref 151), (1, .ref 0), (0, .retAddr 2)]) (st' := [.int 1]) (M' := M2) rfl ?_
  exact s_ek_ret (o := some (.int 1)) (fun _ => rfl) rfl
set_option maxRecDepth 100000 in
set_option maxHeartbeats 8000000 in
theorem s_law_c26 (xs : Nat → Int32) : s_Ek (s_rows 3 6 xs) 1300 s_law 33 [(3, .int 0), (2, .ref 151), (1, .ref 0), (0, .retAddr 2)] [.int 26] s_M0 s_Lq := by
  refine s_ek_bk 17 (P := 940) (ls' := [(3, .int 0), (2, .ref 151), (1, .ref 0), (0, .retAddr 2)]) (st' := [.int (xs 3), .int (xs 2), .int (xs 1), .ref 0]) (M' := s_M0) rfl ?_
  refine s_ek_callV (ν := s_e163.1) (w := 1307) (len := 3) (a := 0) (as' := [.int (xs 1), .int (xs 2), .int (xs 3)]) (r := []) rfl rfl rfl rfl rfl ?_
  refine s_ev_mono (s_op_row 6 xs ((xs 1)) ((xs 2)) ((xs 3))) (fun o M1 h => ?_)
  obtain ⟨hk, r, rfl, h2⟩ := h
  refine ⟨hk, ?_⟩
  show s_Ek (s_rows 3 6 xs) 1300 s_law 943 [(3, .int 0), (2, .ref 151), (1, .ref 0), (0, .retAddr 2)] [.int r] M1 _
  refine s_ek_bk 16 (P := 959) (ls' := [(3, .int 0), (2, .ref 151), (1, .ref 0), (0, .retAddr 2)]) (st' := [.int (xs 3), .int (xs 2), .int (xs 1), .ref 151, .int r]) (M' := M1) rfl ?_
  refine s_ek_callV (ν := s_e283.1) (w := 2267) (len := 3) (a := 151) (as' := [.int (xs 1), .int (xs 2), .int (xs 3)]) (r := [.int r]) rfl rfl rfl ((hk.2.2 151).trans rfl) rfl ?_
  refine s_ev_mono h2 (fun o M2 h => ?_)
  obtain ⟨hk2, rfl⟩ := h
  refine ⟨hk2, ?_⟩
  show s_Ek (s_rows 3 6 xs) 1300 s_law 962 [(3, .int 0), (2, .ref 151), (1, .ref 0), (0, .retAddr 2)] [.int r, .int r] M2 _
  refine s_ek_if2 (T := 1193) rfl rfl (fun _ => ?_) (fun h => absurd (show r.toInt = r.toInt from rfl) h)
  refine s_ek_bk 5 (P := 21) (ls' := [(3, .int 6), (2, .ref 151), (1, .ref 0), (0, .retAddr 2)]) (st' := [.int 6, .int 6]) (M' := M2) rfl ?_
  refine s_ek_bk 4 (P := 1200) (ls' := [(3, .int 6), (2, .ref 151), (1, .ref 0), (0, .retAddr 2)]) (st' := [.int 1]) (M' := M2) rfl ?_
  exact s_ek_ret (o := some (.int 1)) (fun _ => rfl) rfl
set_option maxRecDepth 100000 in
set_option maxHeartbeats 8000000 in
theorem s_law_c27 (xs : Nat → Int32) : s_Ek (s_rows 3 6 xs) 1300 s_law 33 [(3, .int 0), (2, .ref 151), (1, .ref 0), (0, .retAddr 2)] [.int 27] s_M0 s_Lq := by
  refine s_ek_bk 29 (P := 998) (ls' := [(3, .int 0), (2, .ref 151), (1, .ref 0), (0, .retAddr 2)]) (st' := [.long ((((xs 3)).toInt64 <<< ((32 : Int32).toInt64 &&& 63)) ||| (((xs 4)).toInt64 &&& 4294967295)), .int (xs 2), .int (xs 1), .ref 0]) (M' := s_M0) rfl ?_
  refine s_ek_callV (ν := s_e164.1) (w := 1315) (len := 3) (a := 0) (as' := [.int (xs 1), .int (xs 2), .long ((((xs 3)).toInt64 <<< ((32 : Int32).toInt64 &&& 63)) ||| (((xs 4)).toInt64 &&& 4294967295))]) (r := []) rfl rfl rfl rfl rfl ?_
  refine s_ev_mono (s_op_put 6 xs ((xs 1)) ((xs 2)) (((((xs 3)).toInt64 <<< ((32 : Int32).toInt64 &&& 63)) ||| (((xs 4)).toInt64 &&& 4294967295)))) (fun o M1 h => ?_)
  obtain ⟨hk, r, rfl, h2⟩ := h
  refine ⟨hk, ?_⟩
  show s_Ek (s_rows 3 6 xs) 1300 s_law 1001 [(3, .int 0), (2, .ref 151), (1, .ref 0), (0, .retAddr 2)] [.int r] M1 _
  refine s_ek_bk 28 (P := 1032) (ls' := [(3, .int 0), (2, .ref 151), (1, .ref 0), (0, .retAddr 2)]) (st' := [.long ((((xs 3)).toInt64 <<< ((32 : Int32).toInt64 &&& 63)) ||| (((xs 4)).toInt64 &&& 4294967295)), .int (xs 2), .int (xs 1), .ref 151, .int r]) (M' := M1) rfl ?_
  refine s_ek_callV (ν := s_e285.1) (w := 2283) (len := 3) (a := 151) (as' := [.int (xs 1), .int (xs 2), .long ((((xs 3)).toInt64 <<< ((32 : Int32).toInt64 &&& 63)) ||| (((xs 4)).toInt64 &&& 4294967295))]) (r := [.int r]) rfl rfl rfl ((hk.2.2 151).trans rfl) rfl ?_
  refine s_ev_mono h2 (fun o M2 h => ?_)
  obtain ⟨hk2, rfl⟩ := h
  refine ⟨hk2, ?_⟩
  show s_Ek (s_rows 3 6 xs) 1300 s_law 1035 [(3, .int 0), (2, .ref 151), (1, .ref 0), (0, .retAddr 2)] [.int r, .int r] M2 _
  refine s_ek_if2 (T := 1193) rfl rfl (fun _ => ?_) (fun h => absurd (show r.toInt = r.toInt from rfl) h)
  refine s_ek_bk 5 (P := 21) (ls' := [(3, .int 6), (2, .ref 151), (1, .ref 0), (0, .retAddr 2)]) (st' := [.int 6, .int 6]) (M' := M2) rfl ?_
  refine s_ek_bk 4 (P := 1200) (ls' := [(3, .int 6), (2, .ref 151), (1, .ref 0), (0, .retAddr 2)]) (st' := [.int 1]) (M' := M2) rfl ?_
  exact s_ek_ret (o := some (.int 1)) (fun _ => rfl) rfl
set_option maxRecDepth 100000 in
set_option maxHeartbeats 8000000 in
theorem s_law_c28 (xs : Nat → Int32) : s_Ek (s_rows 3 6 xs) 1300 s_law 33 [(3, .int 0), (2, .ref 151), (1, .ref 0), (0, .retAddr 2)] [.int 28] s_M0 s_Lq := by
  refine s_ek_bk 12 (P := 1051) (ls' := [(3, .int 0), (2, .ref 151), (1, .ref 0), (0, .retAddr 2)]) (st' := [.int (xs 2), .int (xs 1), .ref 0]) (M' := s_M0) rfl ?_
  refine s_ek_callV (ν := s_e165.1) (w := 1322) (len := 3) (a := 0) (as' := [.int (xs 1), .int (xs 2)]) (r := []) rfl rfl rfl rfl rfl ?_
  refine s_ev_mono (s_op_element 6 xs ((xs 1)) ((xs 2))) (fun o M1 h => ?_)
  obtain ⟨hk, r, rfl, h2⟩ := h
  refine ⟨hk, ?_⟩
  show s_Ek (s_rows 3 6 xs) 1300 s_law 1054 [(3, .int 0), (2, .ref 151), (1, .ref 0), (0, .retAddr 2)] [.long r] M1 _
  refine s_ek_bk 11 (P := 1065) (ls' := [(3, .int 0), (2, .ref 151), (1, .ref 0), (0, .retAddr 2)]) (st' := [.int (xs 2), .int (xs 1), .ref 151, .long r]) (M' := M1) rfl ?_
  refine s_ek_callV (ν := s_e286.1) (w := 2290) (len := 3) (a := 151) (as' := [.int (xs 1), .int (xs 2)]) (r := [.long r]) rfl rfl rfl ((hk.2.2 151).trans rfl) rfl ?_
  refine s_ev_mono h2 (fun o M2 h => ?_)
  obtain ⟨hk2, rfl⟩ := h
  refine ⟨hk2, ?_⟩
  show s_Ek (s_rows 3 6 xs) 1300 s_law 1068 [(3, .int 0), (2, .ref 151), (1, .ref 0), (0, .retAddr 2)] [.long r, .long r] M2 _
  refine s_ek_bk 1 (P := 1069) (ls' := [(3, .int 0), (2, .ref 151), (1, .ref 0), (0, .retAddr 2)]) (st' := [.int (lg_cmp r r)]) (M' := M2) rfl ?_
  refine s_ek_if1 (T := 1193) rfl rfl (fun _ => ?_) (fun h => absurd (show (lg_cmp r r).toInt = 0 by simp [lg_cmp]) h)
  refine s_ek_bk 5 (P := 21) (ls' := [(3, .int 6), (2, .ref 151), (1, .ref 0), (0, .retAddr 2)]) (st' := [.int 6, .int 6]) (M' := M2) rfl ?_
  refine s_ek_bk 4 (P := 1200) (ls' := [(3, .int 6), (2, .ref 151), (1, .ref 0), (0, .retAddr 2)]) (st' := [.int 1]) (M' := M2) rfl ?_
  exact s_ek_ret (o := some (.int 1)) (fun _ => rfl) rfl
set_option maxRecDepth 100000 in
set_option maxHeartbeats 8000000 in
theorem s_law_c29 (xs : Nat → Int32) : s_Ek (s_rows 3 6 xs) 1300 s_law 33 [(3, .int 0), (2, .ref 151), (1, .ref 0), (0, .retAddr 2)] [.int 29] s_M0 s_Lq := by
  refine s_ek_bk 27 (P := 1100) (ls' := [(3, .int 0), (2, .ref 151), (1, .ref 0), (0, .retAddr 2)]) (st' := [.int (xs 5), .int (xs 4), .int (xs 3), .int (xs 2), .int (xs 1), .ref 0]) (M' := s_M0) rfl ?_
  refine s_ek_callV (ν := s_e166.1) (w := 1333) (len := 3) (a := 0) (as' := [.int (xs 1), .int (xs 2), .int (xs 3), .int (xs 4), .int (xs 5)]) (r := []) rfl rfl rfl rfl rfl ?_
  refine s_ev_mono (s_op_shift 6 xs ((xs 1)) ((xs 2)) ((xs 3)) ((xs 4)) ((xs 5))) (fun o M1 h => ?_)
  obtain ⟨hk, r, rfl, h2⟩ := h
  refine ⟨hk, ?_⟩
  show s_Ek (s_rows 3 6 xs) 1300 s_law 1103 [(3, .int 0), (2, .ref 151), (1, .ref 0), (0, .retAddr 2)] [.int r] M1 _
  refine s_ek_bk 26 (P := 1129) (ls' := [(3, .int 0), (2, .ref 151), (1, .ref 0), (0, .retAddr 2)]) (st' := [.int (xs 5), .int (xs 4), .int (xs 3), .int (xs 2), .int (xs 1), .ref 151, .int r]) (M' := M1) rfl ?_
  refine s_ek_callV (ν := s_e287.1) (w := 2301) (len := 3) (a := 151) (as' := [.int (xs 1), .int (xs 2), .int (xs 3), .int (xs 4), .int (xs 5)]) (r := [.int r]) rfl rfl rfl ((hk.2.2 151).trans rfl) rfl ?_
  refine s_ev_mono h2 (fun o M2 h => ?_)
  obtain ⟨hk2, rfl⟩ := h
  refine ⟨hk2, ?_⟩
  show s_Ek (s_rows 3 6 xs) 1300 s_law 1132 [(3, .int 0), (2, .ref 151), (1, .ref 0), (0, .retAddr 2)] [.int r, .int r] M2 _
  refine s_ek_if2 (T := 1193) rfl rfl (fun _ => ?_) (fun h => absurd (show r.toInt = r.toInt from rfl) h)
  refine s_ek_bk 5 (P := 21) (ls' := [(3, .int 6), (2, .ref 151), (1, .ref 0), (0, .retAddr 2)]) (st' := [.int 6, .int 6]) (M' := M2) rfl ?_
  refine s_ek_bk 4 (P := 1200) (ls' := [(3, .int 6), (2, .ref 151), (1, .ref 0), (0, .retAddr 2)]) (st' := [.int 1]) (M' := M2) rfl ?_
  exact s_ek_ret (o := some (.int 1)) (fun _ => rfl) rfl
set_option maxRecDepth 100000 in
set_option maxHeartbeats 8000000 in
theorem s_law_c30 (xs : Nat → Int32) : s_Ek (s_rows 3 6 xs) 1300 s_law 33 [(3, .int 0), (2, .ref 151), (1, .ref 0), (0, .retAddr 2)] [.int 30] s_M0 s_Lq := by
  refine s_ek_bk 12 (P := 1148) (ls' := [(3, .int 0), (2, .ref 151), (1, .ref 0), (0, .retAddr 2)]) (st' := [.int (xs 2), .int (xs 1), .ref 0]) (M' := s_M0) rfl ?_
  refine s_ek_callV (ν := s_e167.1) (w := 1338) (len := 3) (a := 0) (as' := [.int (xs 1), .int (xs 2)]) (r := []) rfl rfl rfl rfl rfl ?_
  refine s_ev_mono (s_op_taken 6 xs ((xs 1)) ((xs 2))) (fun o M1 h => ?_)
  obtain ⟨hk, r, rfl, h2⟩ := h
  refine ⟨hk, ?_⟩
  show s_Ek (s_rows 3 6 xs) 1300 s_law 1151 [(3, .int 0), (2, .ref 151), (1, .ref 0), (0, .retAddr 2)] [.int r] M1 _
  refine s_ek_bk 11 (P := 1162) (ls' := [(3, .int 0), (2, .ref 151), (1, .ref 0), (0, .retAddr 2)]) (st' := [.int (xs 2), .int (xs 1), .ref 151, .int r]) (M' := M1) rfl ?_
  refine s_ek_callV (ν := s_e288.1) (w := 2306) (len := 3) (a := 151) (as' := [.int (xs 1), .int (xs 2)]) (r := [.int r]) rfl rfl rfl ((hk.2.2 151).trans rfl) rfl ?_
  refine s_ev_mono h2 (fun o M2 h => ?_)
  obtain ⟨hk2, rfl⟩ := h
  refine ⟨hk2, ?_⟩
  show s_Ek (s_rows 3 6 xs) 1300 s_law 1165 [(3, .int 0), (2, .ref 151), (1, .ref 0), (0, .retAddr 2)] [.int r, .int r] M2 _
  refine s_ek_if2 (T := 1193) rfl rfl (fun _ => ?_) (fun h => absurd (show r.toInt = r.toInt from rfl) h)
  refine s_ek_bk 5 (P := 21) (ls' := [(3, .int 6), (2, .ref 151), (1, .ref 0), (0, .retAddr 2)]) (st' := [.int 6, .int 6]) (M' := M2) rfl ?_
  refine s_ek_bk 4 (P := 1200) (ls' := [(3, .int 6), (2, .ref 151), (1, .ref 0), (0, .retAddr 2)]) (st' := [.int 1]) (M' := M2) rfl ?_
  exact s_ek_ret (o := some (.int 1)) (fun _ => rfl) rfl
set_option maxRecDepth 100000 in
set_option maxHeartbeats 8000000 in
theorem s_law_c31 (xs : Nat → Int32) : s_Ek (s_rows 3 6 xs) 1300 s_law 33 [(3, .int 0), (2, .ref 151), (1, .ref 0), (0, .retAddr 2)] [.int 31] s_M0 s_Lq := by
  refine s_ek_bk 7 (P := 1176) (ls' := [(3, .int 0), (2, .ref 151), (1, .ref 0), (0, .retAddr 2)]) (st' := [.int (xs 1), .ref 0]) (M' := s_M0) rfl ?_
  refine s_ek_callV (ν := s_e168.1) (w := 1345) (len := 3) (a := 0) (as' := [.int (xs 1)]) (r := []) rfl rfl rfl rfl rfl ?_
  refine s_ev_mono (s_op_count 6 xs ((xs 1))) (fun o M1 h => ?_)
  obtain ⟨hk, r, rfl, h2⟩ := h
  refine ⟨hk, ?_⟩
  show s_Ek (s_rows 3 6 xs) 1300 s_law 1179 [(3, .int 0), (2, .ref 151), (1, .ref 0), (0, .retAddr 2)] [.int r] M1 _
  refine s_ek_bk 6 (P := 1185) (ls' := [(3, .int 0), (2, .ref 151), (1, .ref 0), (0, .retAddr 2)]) (st' := [.int (xs 1), .ref 151, .int r]) (M' := M1) rfl ?_
  refine s_ek_callV (ν := s_e280.1) (w := 2241) (len := 3) (a := 151) (as' := [.int (xs 1)]) (r := [.int r]) rfl rfl rfl ((hk.2.2 151).trans rfl) rfl ?_
  refine s_ev_mono h2 (fun o M2 h => ?_)
  obtain ⟨hk2, rfl⟩ := h
  refine ⟨hk2, ?_⟩
  show s_Ek (s_rows 3 6 xs) 1300 s_law 1188 [(3, .int 0), (2, .ref 151), (1, .ref 0), (0, .retAddr 2)] [.int r, .int r] M2 _
  refine s_ek_if2 (T := 1193) rfl rfl (fun _ => ?_) (fun h => absurd (show r.toInt = r.toInt from rfl) h)
  refine s_ek_bk 5 (P := 21) (ls' := [(3, .int 6), (2, .ref 151), (1, .ref 0), (0, .retAddr 2)]) (st' := [.int 6, .int 6]) (M' := M2) rfl ?_
  refine s_ek_bk 4 (P := 1200) (ls' := [(3, .int 6), (2, .ref 151), (1, .ref 0), (0, .retAddr 2)]) (st' := [.int 1]) (M' := M2) rfl ?_
  exact s_ek_ret (o := some (.int 1)) (fun _ => rfl) rfl
set_option maxRecDepth 100000 in
set_option maxHeartbeats 8000000 in
theorem s_law_6 (xs : Nat → Int32) : s_Ek (s_rows 3 6 xs) 1300 s_law 18 [(3, .int 0), (2, .ref 151), (1, .ref 0), (0, .retAddr 2)] [] s_M0 s_Lq := by
  refine s_ek_bk 3 (P := 21) (ls' := [(3, .int 0), (2, .ref 151), (1, .ref 0), (0, .retAddr 2)]) (st' := [.int 6, .int 0]) (M' := s_M0) rfl ?_
  refine s_ek_bk 8 (P := 33) (ls' := [(3, .int 0), (2, .ref 151), (1, .ref 0), (0, .retAddr 2)]) (st' := [.int ((xs 0) &&& 31)]) (M' := s_M0) rfl ?_
  obtain ⟨j, hj, e⟩ := pk_andE (xs 0) (m := 31) 5 (by decide)
  have hw : (xs 0 &&& 31) = 0 ∨ (xs 0 &&& 31) = 1 ∨ (xs 0 &&& 31) = 2 ∨ (xs 0 &&& 31) = 3 ∨ (xs 0 &&& 31) = 4 ∨ (xs 0 &&& 31) = 5 ∨ (xs 0 &&& 31) = 6 ∨ (xs 0 &&& 31) = 7 ∨ (xs 0 &&& 31) = 8 ∨ (xs 0 &&& 31) = 9 ∨ (xs 0 &&& 31) = 10 ∨ (xs 0 &&& 31) = 11 ∨ (xs 0 &&& 31) = 12 ∨ (xs 0 &&& 31) = 13 ∨ (xs 0 &&& 31) = 14 ∨ (xs 0 &&& 31) = 15 ∨ (xs 0 &&& 31) = 16 ∨ (xs 0 &&& 31) = 17 ∨ (xs 0 &&& 31) = 18 ∨ (xs 0 &&& 31) = 19 ∨ (xs 0 &&& 31) = 20 ∨ (xs 0 &&& 31) = 21 ∨ (xs 0 &&& 31) = 22 ∨ (xs 0 &&& 31) = 23 ∨ (xs 0 &&& 31) = 24 ∨ (xs 0 &&& 31) = 25 ∨ (xs 0 &&& 31) = 26 ∨ (xs 0 &&& 31) = 27 ∨ (xs 0 &&& 31) = 28 ∨ (xs 0 &&& 31) = 29 ∨ (xs 0 &&& 31) = 30 ∨ (xs 0 &&& 31) = 31 := by
    rw [e]
    have hj : j < 32 := hj
    rcases (show j = 0 ∨ j = 1 ∨ j = 2 ∨ j = 3 ∨ j = 4 ∨ j = 5 ∨ j = 6 ∨ j = 7 ∨ j = 8 ∨ j = 9 ∨ j = 10 ∨ j = 11 ∨ j = 12 ∨ j = 13 ∨ j = 14 ∨ j = 15 ∨ j = 16 ∨ j = 17 ∨ j = 18 ∨ j = 19 ∨ j = 20 ∨ j = 21 ∨ j = 22 ∨ j = 23 ∨ j = 24 ∨ j = 25 ∨ j = 26 ∨ j = 27 ∨ j = 28 ∨ j = 29 ∨ j = 30 ∨ j = 31 by omega) with rfl | rfl | rfl | rfl | rfl | rfl | rfl | rfl | rfl | rfl | rfl | rfl | rfl | rfl | rfl | rfl | rfl | rfl | rfl | rfl | rfl | rfl | rfl | rfl | rfl | rfl | rfl | rfl | rfl | rfl | rfl | rfl <;> decide
  show s_Ek (s_rows 3 6 xs) 1300 s_law 33 [(3, .int 0), (2, .ref 151), (1, .ref 0), (0, .retAddr 2)] [.int (xs 0 &&& 31)] s_M0 s_Lq
  clear e
  generalize (xs 0 &&& 31) = w at hw
  rcases hw with rfl | rfl | rfl | rfl | rfl | rfl | rfl | rfl | rfl | rfl | rfl | rfl | rfl | rfl | rfl | rfl | rfl | rfl | rfl | rfl | rfl | rfl | rfl | rfl | rfl | rfl | rfl | rfl | rfl | rfl | rfl | rfl
  · exact s_law_c0 xs
  · exact s_law_c1 xs
  · exact s_law_c2 xs
  · exact s_law_c3 xs
  · exact s_law_c4 xs
  · exact s_law_c5 xs
  · exact s_law_c6 xs
  · exact s_law_c7 xs
  · exact s_law_c8 xs
  · exact s_law_c9 xs
  · exact s_law_c10 xs
  · exact s_law_c11 xs
  · exact s_law_c12 xs
  · exact s_law_c13 xs
  · exact s_law_c14 xs
  · exact s_law_c15 xs
  · exact s_law_c16 xs
  · exact s_law_c17 xs
  · exact s_law_c18 xs
  · exact s_law_c19 xs
  · exact s_law_c20 xs
  · exact s_law_c21 xs
  · exact s_law_c22 xs
  · exact s_law_c23 xs
  · exact s_law_c24 xs
  · exact s_law_c25 xs
  · exact s_law_c26 xs
  · exact s_law_c27 xs
  · exact s_law_c28 xs
  · exact s_law_c29 xs
  · exact s_law_c30 xs
  · exact s_law_c31 xs
set_option maxRecDepth 100000 in
theorem s_law_0 (xs : Nat → Int32) : s_Ek (s_rows 3 0 xs) 1300 s_law 18 [(3, .int 0), (2, .ref 151), (1, .ref 0), (0, .retAddr 2)] [] s_M0 s_Lq := by
  refine s_ek_bk 3 (P := 21) (ls' := [(3, .int 0), (2, .ref 151), (1, .ref 0), (0, .retAddr 2)]) (st' := [.int 0, .int 0]) (M' := s_M0) rfl ?_
  refine s_ek_bk 4 (P := 1200) (ls' := [(3, .int 0), (2, .ref 151), (1, .ref 0), (0, .retAddr 2)]) (st' := [.int 1]) (M' := s_M0) rfl ?_
  exact s_ek_ret (o := some (.int 1)) (fun _ => rfl) rfl
set_option maxRecDepth 100000 in
theorem s_law_1 (xs : Nat → Int32) : s_Ek (s_rows 3 1 xs) 1300 s_law 18 [(3, .int 0), (2, .ref 151), (1, .ref 0), (0, .retAddr 2)] [] s_M0 s_Lq := by
  refine s_ek_bk 3 (P := 21) (ls' := [(3, .int 0), (2, .ref 151), (1, .ref 0), (0, .retAddr 2)]) (st' := [.int 1, .int 0]) (M' := s_M0) rfl ?_
  refine s_ek_bk 4 (P := 1200) (ls' := [(3, .int 0), (2, .ref 151), (1, .ref 0), (0, .retAddr 2)]) (st' := [.int 1]) (M' := s_M0) rfl ?_
  exact s_ek_ret (o := some (.int 1)) (fun _ => rfl) rfl
set_option maxRecDepth 100000 in
theorem s_law_2 (xs : Nat → Int32) : s_Ek (s_rows 3 2 xs) 1300 s_law 18 [(3, .int 0), (2, .ref 151), (1, .ref 0), (0, .retAddr 2)] [] s_M0 s_Lq := by
  refine s_ek_bk 3 (P := 21) (ls' := [(3, .int 0), (2, .ref 151), (1, .ref 0), (0, .retAddr 2)]) (st' := [.int 2, .int 0]) (M' := s_M0) rfl ?_
  refine s_ek_bk 4 (P := 1200) (ls' := [(3, .int 0), (2, .ref 151), (1, .ref 0), (0, .retAddr 2)]) (st' := [.int 1]) (M' := s_M0) rfl ?_
  exact s_ek_ret (o := some (.int 1)) (fun _ => rfl) rfl
set_option maxRecDepth 100000 in
theorem s_law_3 (xs : Nat → Int32) : s_Ek (s_rows 3 3 xs) 1300 s_law 18 [(3, .int 0), (2, .ref 151), (1, .ref 0), (0, .retAddr 2)] [] s_M0 s_Lq := by
  refine s_ek_bk 3 (P := 21) (ls' := [(3, .int 0), (2, .ref 151), (1, .ref 0), (0, .retAddr 2)]) (st' := [.int 3, .int 0]) (M' := s_M0) rfl ?_
  refine s_ek_bk 4 (P := 1200) (ls' := [(3, .int 0), (2, .ref 151), (1, .ref 0), (0, .retAddr 2)]) (st' := [.int 1]) (M' := s_M0) rfl ?_
  exact s_ek_ret (o := some (.int 1)) (fun _ => rfl) rfl
set_option maxRecDepth 100000 in
theorem s_law_4 (xs : Nat → Int32) : s_Ek (s_rows 3 4 xs) 1300 s_law 18 [(3, .int 0), (2, .ref 151), (1, .ref 0), (0, .retAddr 2)] [] s_M0 s_Lq := by
  refine s_ek_bk 3 (P := 21) (ls' := [(3, .int 0), (2, .ref 151), (1, .ref 0), (0, .retAddr 2)]) (st' := [.int 4, .int 0]) (M' := s_M0) rfl ?_
  refine s_ek_bk 4 (P := 1200) (ls' := [(3, .int 0), (2, .ref 151), (1, .ref 0), (0, .retAddr 2)]) (st' := [.int 1]) (M' := s_M0) rfl ?_
  exact s_ek_ret (o := some (.int 1)) (fun _ => rfl) rfl
set_option maxRecDepth 100000 in
theorem s_law_5 (xs : Nat → Int32) : s_Ek (s_rows 3 5 xs) 1300 s_law 18 [(3, .int 0), (2, .ref 151), (1, .ref 0), (0, .retAddr 2)] [] s_M0 s_Lq := by
  refine s_ek_bk 3 (P := 21) (ls' := [(3, .int 0), (2, .ref 151), (1, .ref 0), (0, .retAddr 2)]) (st' := [.int 5, .int 0]) (M' := s_M0) rfl ?_
  refine s_ek_bk 4 (P := 1200) (ls' := [(3, .int 0), (2, .ref 151), (1, .ref 0), (0, .retAddr 2)]) (st' := [.int 1]) (M' := s_M0) rfl ?_
  exact s_ek_ret (o := some (.int 1)) (fun _ => rfl) rfl
theorem s_law_L {L : Nat} (hL : L ≤ 6) (xs : Nat → Int32) : s_Ek (s_rows 3 L xs) 1300 s_law 18 [(3, .int 0), (2, .ref 151), (1, .ref 0), (0, .retAddr 2)] [] s_M0 s_Lq := by
  rcases (show L = 0 ∨ L = 1 ∨ L = 2 ∨ L = 3 ∨ L = 4 ∨ L = 5 ∨ L = 6 by omega) with rfl | rfl | rfl | rfl | rfl | rfl | rfl
  · exact s_law_0 xs
  · exact s_law_1 xs
  · exact s_law_2 xs
  · exact s_law_3 xs
  · exact s_law_4 xs
  · exact s_law_5 xs
  · exact s_law_6 xs
def s_M1 : sM := [(10, [.ref 1, .int 0, .ref 2, .ref 3, .ref 8, .ref 73, .ref 78, .ref 132, .ref 135, .ref 136, .ref 138, .int (-1)]),
  (13, List.replicate 60 (.int 0)),
  (13, [.int 0, .int 0, .int 0]),
  (5, [.ref 4, .ref 7, .int 0, .int 0]),
  (7, [.ref 5, .ref 6, .int 0]),
  (13, List.replicate 61 (.int 0)),
  (13, List.replicate 61 (.int 0)),
  (13, List.replicate 60 (.int 0)),
  (3, [.ref 9, .int 0, .int 0, .int 99, .int 0, .ref 14, .ref 15, .ref 20, .ref 21, .ref 22]),
  (9, [.ref 10, .ref 11, .ref 12, .ref 13]),
  (13, [.int (-1), .int (-1), .int (-1)]),
  (13, [.int 0, .int 0, .int 0]),
  (13, [.int 0, .int 0, .int 0]),
  (13, [.int 0, .int 0, .int 0]),
  (18, [.ref 23, .ref 28, .ref 33, .ref 38, .ref 43, .ref 48, .ref 53, .ref 58, .ref 63, .ref 68]),
  (4, [.int 10, .int 0, .int 0, .int (-1), .ref 16, .ref 19, .int 0, .int (-1), .int 0, .int 0, .int 0, .int (-1)]),
  (7, [.ref 17, .ref 18, .int 0]),
  (13, List.replicate 61 (.int 0)),
  (13, List.replicate 61 (.int 0)),
  (0, [.long 0, .long 0]),
  (13, List.replicate 10 (.int 0)),
  (13, List.replicate 6 (.int 0)),
  (13, List.replicate 125 (.int 0)),
  (4, [.int 0, .int 0, .int 0, .int (-1), .ref 24, .ref 27, .int 0, .int (-1), .int 0, .int 0, .int 0, .int (-1)]),
  (7, [.ref 25, .ref 26, .int 0]),
  (13, List.replicate 61 (.int 0)),
  (13, List.replicate 61 (.int 0)),
  (0, [.long 0, .long 0]),
  (4, [.int 1, .int 0, .int 0, .int (-1), .ref 29, .ref 32, .int 0, .int (-1), .int 0, .int 0, .int 0, .int (-1)]),
  (7, [.ref 30, .ref 31, .int 0]),
  (13, List.replicate 61 (.int 0)),
  (13, List.replicate 61 (.int 0)),
  (0, [.long 0, .long 0]),
  (4, [.int 2, .int 0, .int 0, .int (-1), .ref 34, .ref 37, .int 0, .int (-1), .int 0, .int 0, .int 0, .int (-1)]),
  (7, [.ref 35, .ref 36, .int 0]),
  (13, List.replicate 61 (.int 0)),
  (13, List.replicate 61 (.int 0)),
  (0, [.long 0, .long 0]),
  (4, [.int 3, .int 0, .int 0, .int (-1), .ref 39, .ref 42, .int 0, .int (-1), .int 0, .int 0, .int 0, .int (-1)]),
  (7, [.ref 40, .ref 41, .int 0]),
  (13, List.replicate 61 (.int 0)),
  (13, List.replicate 61 (.int 0)),
  (0, [.long 0, .long 0]),
  (4, [.int 4, .int 0, .int 0, .int (-1), .ref 44, .ref 47, .int 0, .int (-1), .int 0, .int 0, .int 0, .int (-1)]),
  (7, [.ref 45, .ref 46, .int 0]),
  (13, List.replicate 61 (.int 0)),
  (13, List.replicate 61 (.int 0)),
  (0, [.long 0, .long 0]),
  (4, [.int 5, .int 0, .int 0, .int (-1), .ref 49, .ref 52, .int 0, .int (-1), .int 0, .int 0, .int 0, .int (-1)]),
  (7, [.ref 50, .ref 51, .int 0]),
  (13, List.replicate 61 (.int 0)),
  (13, List.replicate 61 (.int 0)),
  (0, [.long 0, .long 0]),
  (4, [.int 6, .int 0, .int 0, .int (-1), .ref 54, .ref 57, .int 0, .int (-1), .int 0, .int 0, .int 0, .int (-1)]),
  (7, [.ref 55, .ref 56, .int 0]),
  (13, List.replicate 61 (.int 0)),
  (13, List.replicate 61 (.int 0)),
  (0, [.long 0, .long 0]),
  (4, [.int 7, .int 0, .int 0, .int (-1), .ref 59, .ref 62, .int 0, .int (-1), .int 0, .int 0, .int 0, .int (-1)]),
  (7, [.ref 60, .ref 61, .int 0]),
  (13, List.replicate 61 (.int 0)),
  (13, List.replicate 61 (.int 0)),
  (0, [.long 0, .long 0]),
  (4, [.int 8, .int 0, .int 0, .int (-1), .ref 64, .ref 67, .int 0, .int (-1), .int 0, .int 0, .int 0, .int (-1)]),
  (7, [.ref 65, .ref 66, .int 0]),
  (13, List.replicate 61 (.int 0)),
  (13, List.replicate 61 (.int 0)),
  (0, [.long 0, .long 0]),
  (4, [.int 9, .int 0, .int 0, .int (-1), .ref 69, .ref 72, .int 0, .int (-1), .int 0, .int 0, .int 0, .int (-1)]),
  (7, [.ref 70, .ref 71, .int 0]),
  (13, List.replicate 61 (.int 0)),
  (13, List.replicate 61 (.int 0)),
  (0, [.long 0, .long 0]),
  (1, [.int 0, .int 0, .ref 74, .ref 75, .ref 76, .ref 77]),
  (13, List.replicate 40 (.int 0)),
  (13, List.replicate 40 (.int 0)),
  (13, List.replicate 40 (.int 0)),
  (13, List.replicate 40 (.int 0)),
  (8, [.ref 79, .ref 84, .ref 85, .ref 86, .int (-1), .int (-1)]),
  (4, [.int 10, .int 0, .int 0, .int (-1), .ref 80, .ref 83, .int 0, .int (-1), .int 0, .int 0, .int 0, .int (-1)]),
  (7, [.ref 81, .ref 82, .int 0]),
  (13, List.replicate 61 (.int 0)),
  (13, List.replicate 61 (.int 0)),
  (0, [.long 0, .long 0]),
  (17, [.ref 87, .ref 88, .ref 89, .ref 90, .ref 91, .ref 92, .ref 93, .ref 94, .ref 95, .ref 96, .ref 97, .ref 98, .ref 99, .ref 100, .ref 101, .ref 102, .ref 103, .ref 104, .ref 105, .ref 106, .ref 107, .ref 108, .ref 109, .ref 110, .ref 111, .ref 112, .ref 113, .ref 114, .ref 115, .ref 116, .ref 117, .ref 118, .ref 119, .ref 120, .ref 121, .ref 122, .ref 123, .ref 124, .ref 125, .ref 126, .ref 127, .ref 128, .ref 129, .ref 130, .ref 131]),
  (0, [.long (-1), .long 2305843009213693951]),
  (13, List.replicate 31 (.int 0)),
  (0, [.long 0, .long 0]),
  (0, [.long 0, .long 0]),
  (0, [.long 0, .long 0]),
  (0, [.long 0, .long 0]),
  (0, [.long 0, .long 0]),
  (0, [.long 0, .long 0]),
  (0, [.long 0, .long 0]),
  (0, [.long 0, .long 0]),
  (0, [.long 0, .long 0]),
  (0, [.long 0, .long 0]),
  (0, [.long 0, .long 0]),
  (0, [.long 0, .long 0]),
  (0, [.long 0, .long 0]),
  (0, [.long 0, .long 0]),
  (0, [.long 0, .long 0]),
  (0, [.long 0, .long 0]),
  (0, [.long 0, .long 0]),
  (0, [.long 0, .long 0]),
  (0, [.long 0, .long 0]),
  (0, [.long 0, .long 0]),
  (0, [.long 0, .long 0]),
  (0, [.long 0, .long 0]),
  (0, [.long 0, .long 0]),
  (0, [.long 0, .long 0]),
  (0, [.long 0, .long 0]),
  (0, [.long 0, .long 0]),
  (0, [.long 0, .long 0]),
  (0, [.long 0, .long 0]),
  (0, [.long 0, .long 0]),
  (0, [.long 0, .long 0]),
  (0, [.long 0, .long 0]),
  (0, [.long 0, .long 0]),
  (0, [.long 0, .long 0]),
  (0, [.long 0, .long 0]),
  (0, [.long 0, .long 0]),
  (0, [.long 0, .long 0]),
  (0, [.long 0, .long 0]),
  (0, [.long 0, .long 0]),
  (0, [.long 0, .long 0]),
  (0, [.long 0, .long 0]),
  (0, [.long 0, .long 0]),
  (0, [.long 0, .long 0]),
  (0, [.long 0, .long 0]),
  (0, [.long 0, .long 0]),
  (0, [.long 0, .long 0]),
  (2, [.int 0, .int 0, .ref 133, .ref 134]),
  (13, List.replicate 50 (.int 0)),
  (13, List.replicate 24 (.int 0)),
  (19, [.ref 139, .ref 141, .ref 143, .ref 145, .ref 147, .ref 149]),
  (6, [.int (-1), .int (-1), .int 0, .ref 137]),
  (14, List.replicate 60 (.long 0)),
  (0, [.long 0, .long 0]),
  (6, [.int (-1), .int (-1), .int 0, .ref 140]),
  (14, List.replicate 60 (.long 0)),
  (6, [.int (-1), .int (-1), .int 0, .ref 142]),
  (14, List.replicate 60 (.long 0)),
  (6, [.int (-1), .int (-1), .int 0, .ref 144]),
  (14, List.replicate 60 (.long 0)),
  (6, [.int (-1), .int (-1), .int 0, .ref 146]),
  (14, List.replicate 60 (.long 0)),
  (6, [.int (-1), .int (-1), .int 0, .ref 148]),
  (14, List.replicate 60 (.long 0)),
  (6, [.int (-1), .int (-1), .int 0, .ref 150]),
  (14, List.replicate 60 (.long 0))]
def s_outE (x : sR) (o : Option Value) (M' : sM) : Bool := match x with
  | some q => decide (q.1 = o) && decide (q.2 = M')
  | none => false
theorem s_ev_runE {E0 E : sE} (hE : s_El E0 E) {n d : Nat} {μ : sMeth} {pc : Nat} {ls : sL} {st : List Value} {M M' : sM} {o : Option Value} {Q : Option Value → sM → Prop} (h : s_outE (s_x s_prog s_fty s_ft E0 n d μ pc ls st M) o M' = true) (hQ : Q o M') : s_Ev E d μ pc ls st M Q := by
  unfold s_outE at h
  split at h
  · rename_i q hq
    simp only [Bool.and_eq_true, decide_eq_true_eq] at h
    obtain ⟨o1, M1⟩ := q
    obtain ⟨h1, h2⟩ := h
    dsimp only at h1 h2
    subst h1; subst h2
    exact s_ev_run hE hq hQ
  · cases h
set_option maxRecDepth 1000000 in
theorem s_ct1 : s_outE (s_x s_prog s_fty s_ft (s_rows 2 0 (fun _ => 0)) 756 1299 s_e133.1 0 (lv_args 0 [.ref 0]) [] [(10, [.null, .int 0, .null, .null, .null, .null, .null, .null, .null, .null, .null, .int 0])]) none s_M1 = true := by decide +kernel
set_option maxRecDepth 1000000 in
theorem s_ct2 : s_outE (s_x s_prog s_fty s_ft (s_rows 2 0 (fun _ => 0)) 224 1299 s_e180.1 0 (lv_args 0 [.ref 151]) [] (s_M1 ++ [(11, [.int 0, .null, .int 0, .int 0, .int 0, .int 0, .int 0, .null, .null, .null, .null, .null, .null, .null, .int 0, .null, .null, .null, .int 0, .int 0, .null, .null, .null, .int 0, .int 0, .null, .null, .null, .null, .null, .int 0, .int 0, .null, .null, .null, .int 0, .int 0, .null, .null, .null, .null, .null, .int 0, .null, .int 0, .null, .null, .null, .null, .null])])) none s_M0 = true := by decide +kernel
set_option maxRecDepth 100000 in
set_option maxHeartbeats 8000000 in
theorem s_law_start {L : Nat} {xs : Nat → Int32} {Q : Option Value → sM → Prop} (h : s_Ev (s_rows 3 L xs) 1300 s_law 18 [(3, .int 0), (2, .ref 151), (1, .ref 0), (0, .retAddr 2)] [] s_M0 Q) : s_Ev (s_rows 3 L xs) 1300 s_law 0 [(0, .retAddr 2)] [] [] Q := by
  refine s_ev_one (P := 3) (ls' := [(0, .retAddr 2)]) (st' := [.ref 0]) (M' := [(10, [.null, .int 0, .null, .null, .null, .null, .null, .null, .null, .null, .null, .int 0])]) (fun _ => rfl) ?_
  refine s_ev_bk 1 (P := 4) (ls' := [(0, .retAddr 2)]) (st' := [.ref 0, .ref 0]) (M' := [(10, [.null, .int 0, .null, .null, .null, .null, .null, .null, .null, .null, .null, .int 0])]) rfl ?_
  refine s_ev_call (ν := s_e133.1) (P := 7) (as := [.ref 0]) (r := [.ref 0]) (fun _ => rfl) rfl ?_
  refine s_ev_runE s_El_rows s_ct1 ?_
  show s_Ev (s_rows 3 L xs) 1300 s_law 7 [(0, .retAddr 2)] [.ref 0] s_M1 Q
  refine s_ev_bk 1 (P := 8) (ls' := [(1, .ref 0), (0, .retAddr 2)]) (st' := []) (M' := s_M1) rfl ?_
  refine s_ev_one (P := 11) (ls' := [(1, .ref 0), (0, .retAddr 2)]) (st' := [.ref 151]) (M' := s_M1 ++ [(11, [.int 0, .null, .int 0, .int 0, .int 0, .int 0, .int 0, .null, .null, .null, .null, .null, .null, .null, .int 0, .null, .null, .null, .int 0, .int 0, .null, .null, .null, .int 0, .int 0, .null, .null, .null, .null, .null, .int 0, .int 0, .null, .null, .null, .int 0, .int 0, .null, .null, .null, .null, .null, .int 0, .null, .int 0, .null, .null, .null, .null, .null])]) (fun _ => rfl) ?_
  refine s_ev_bk 1 (P := 12) (ls' := [(1, .ref 0), (0, .retAddr 2)]) (st' := [.ref 151, .ref 151]) (M' := s_M1 ++ [(11, [.int 0, .null, .int 0, .int 0, .int 0, .int 0, .int 0, .null, .null, .null, .null, .null, .null, .null, .int 0, .null, .null, .null, .int 0, .int 0, .null, .null, .null, .int 0, .int 0, .null, .null, .null, .null, .null, .int 0, .int 0, .null, .null, .null, .int 0, .int 0, .null, .null, .null, .null, .null, .int 0, .null, .int 0, .null, .null, .null, .null, .null])]) rfl ?_
  refine s_ev_call (ν := s_e180.1) (P := 15) (as := [.ref 151]) (r := [.ref 151]) (fun _ => rfl) rfl ?_
  refine s_ev_runE s_El_rows s_ct2 ?_
  show s_Ev (s_rows 3 L xs) 1300 s_law 15 [(1, .ref 0), (0, .retAddr 2)] [.ref 151] s_M0 Q
  exact s_ev_bk 3 (P := 18) (ls' := [(3, .int 0), (2, .ref 151), (1, .ref 0), (0, .retAddr 2)]) (st' := []) (M' := s_M0) rfl h
theorem s_M0_size : s_M0.length ≤ 600000 ∧ s_slots s_M0 ≤ 7302250 := by decide +kernel
/-- the law in the small machine, on every script of at most six ints -/
theorem s_law_all {L : Nat} (hL : L ≤ 6) (xs : Nat → Int32) : ∃ n M', s_x s_prog s_fty s_ft (s_rows 3 L xs) n 1300 s_law 0 [(0, .retAddr 2)] [] [] = some (some (.int 1), M') ∧ M'.length ≤ 600000 ∧ s_slots M' ≤ 7302250 := by
  obtain ⟨n, o, M', h1, h2, rfl⟩ := s_law_start (s_law_L hL xs)
  exact ⟨n, M', h1, by rw [h2.1]; exact s_M0_size.1, by rw [h2.2.1]; exact s_M0_size.2⟩
