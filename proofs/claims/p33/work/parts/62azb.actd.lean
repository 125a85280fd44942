/-! acts, the class: the walks, and each act by each kind -/
theorem e_w0_0 : e_wk 0 0 0 1 := ⟨fun _ _ _ _ _ _ => rfl, fun _ => rfl⟩
theorem e_w0_1 : e_wk 0 0 1 10 := ⟨fun _ _ _ _ _ _ => rfl, fun _ => rfl⟩
theorem e_w0_2 : e_wk 0 0 2 11 := ⟨fun _ _ _ _ _ _ => rfl, fun _ => rfl⟩
theorem e_w0_3 : e_wk 0 0 3 2 := ⟨fun _ _ _ _ _ _ => rfl, fun _ => rfl⟩
theorem e_w1_0 : e_wk 1 1 0 20 := ⟨fun _ _ _ _ _ _ => rfl, fun _ => rfl⟩
theorem e_w1_1 : e_wk 1 0 1 10 := ⟨fun _ _ _ _ _ _ => rfl, fun _ => rfl⟩
theorem e_w1_2 : e_wk 1 0 2 11 := ⟨fun _ _ _ _ _ _ => rfl, fun _ => rfl⟩
theorem e_w1_3 : e_wk 1 0 3 2 := ⟨fun _ _ _ _ _ _ => rfl, fun _ => rfl⟩
theorem e_w2_0 : e_wk 2 0 0 1 := ⟨fun _ _ _ _ _ _ => rfl, fun _ => rfl⟩
theorem e_w2_1 : e_wk 2 2 1 30 := ⟨fun _ _ _ _ _ _ => rfl, fun _ => rfl⟩
theorem e_w2_2 : e_wk 2 0 2 11 := ⟨fun _ _ _ _ _ _ => rfl, fun _ => rfl⟩
theorem e_w2_3 : e_wk 2 0 3 2 := ⟨fun _ _ _ _ _ _ => rfl, fun _ => rfl⟩
theorem e_w3_0 : e_wk 3 0 0 1 := ⟨fun _ _ _ _ _ _ => rfl, fun _ => rfl⟩
theorem e_w3_1 : e_wk 3 3 1 41 := ⟨fun _ _ _ _ _ _ => rfl, fun _ => rfl⟩
theorem e_w3_2 : e_wk 3 3 2 40 := ⟨fun _ _ _ _ _ _ => rfl, fun _ => rfl⟩
theorem e_w3_3 : e_wk 3 0 3 2 := ⟨fun _ _ _ _ _ _ => rfl, fun _ => rfl⟩
theorem e_w4_0 : e_wk 4 1 0 20 := ⟨fun _ _ _ _ _ _ => rfl, fun _ => rfl⟩
theorem e_w4_1 : e_wk 4 0 1 10 := ⟨fun _ _ _ _ _ _ => rfl, fun _ => rfl⟩
theorem e_w4_2 : e_wk 4 0 2 11 := ⟨fun _ _ _ _ _ _ => rfl, fun _ => rfl⟩
theorem e_w4_3 : e_wk 4 4 3 50 := ⟨fun _ _ _ _ _ _ => rfl, fun _ => rfl⟩
theorem e_w5_0 : e_wk 5 0 0 1 := ⟨fun _ _ _ _ _ _ => rfl, fun _ => rfl⟩
theorem e_w5_1 : e_wk 5 3 1 41 := ⟨fun _ _ _ _ _ _ => rfl, fun _ => rfl⟩
theorem e_w5_2 : e_wk 5 5 2 60 := ⟨fun _ _ _ _ _ _ => rfl, fun _ => rfl⟩
theorem e_w5_3 : e_wk 5 5 3 61 := ⟨fun _ _ _ _ _ _ => rfl, fun _ => rfl⟩
theorem e_w6_0 : e_wk 6 6 0 70 := ⟨fun _ _ _ _ _ _ => rfl, fun _ => rfl⟩
theorem e_w6_1 : e_wk 6 0 1 10 := ⟨fun _ _ _ _ _ _ => rfl, fun _ => rfl⟩
theorem e_w6_2 : e_wk 6 0 2 11 := ⟨fun _ _ _ _ _ _ => rfl, fun _ => rfl⟩
theorem e_w6_3 : e_wk 6 0 3 2 := ⟨fun _ _ _ _ _ _ => rfl, fun _ => rfl⟩
theorem e_w7_0 : e_wk 7 7 0 81 := ⟨fun _ _ _ _ _ _ => rfl, fun _ => rfl⟩
theorem e_w7_1 : e_wk 7 7 1 80 := ⟨fun _ _ _ _ _ _ => rfl, fun _ => rfl⟩
theorem e_w7_2 : e_wk 7 0 2 11 := ⟨fun _ _ _ _ _ _ => rfl, fun _ => rfl⟩
theorem e_w7_3 : e_wk 7 0 3 2 := ⟨fun _ _ _ _ _ _ => rfl, fun _ => rfl⟩
theorem e_u1 (s : vS) : f_Cl_above 1 s = some (0, s) := rfl
theorem e_u2 (s : vS) : f_Cl_above 2 s = some (0, s) := rfl
theorem e_u3 (s : vS) : f_Cl_above 3 s = some (2, s) := rfl
theorem e_u4 (s : vS) : f_Cl_above 4 s = some (1, s) := rfl
theorem e_u5 (s : vS) : f_Cl_above 5 s = some (3, s) := rfl
theorem e_u6 (s : vS) : f_Cl_above 6 s = some (0, s) := rfl
theorem e_u7 (s : vS) : f_Cl_above 7 s = some (6, s) := rfl
theorem e_t1 {rec : eR} {n x f : Int32} {s : vS} : v_P (f_Cl_atTop rec 1 n x f s) (fun r t => r = x + n ∧ t = e_aC [] s) := by
  unfold f_Cl_atTop
  rw [if_pos (by decide)]
  exact v_Pret ⟨rfl, rfl⟩
theorem e_t11 {rec : eR} {n x f : Int32} {s : vS} : v_P (f_Cl_atTop rec 11 n x f s) (fun r t => r = x ^^^ n ∧ t = e_aC [] s) := by
  unfold f_Cl_atTop
  rw [if_neg (by decide), if_neg (by decide), if_neg (by decide), if_pos (by decide)]
  exact v_Pret ⟨rfl, rfl⟩
theorem e_t10 {rec : eR} {n k x f : Int32} {s : vS} {D : Int} (h : e_fr rec k 0 n k D (e_SV k n) (e_SE k)) (hq : e_Q n k s) (h0 : 0 ≤ f.toInt) (h1 : f.toInt ≤ D) : v_P (f_Cl_atTop rec 10 n x f s) (fun r t => r = e_SV k n x * 2 ∧ t = e_aC (e_SE k) s) := by
  unfold f_Cl_atTop
  rw [if_neg (by decide), if_neg (by decide), if_pos (by decide)]
  refine v_Pbi (e_own h hq h0 h1) ?_
  rintro r t ⟨rfl, rfl⟩
  exact v_Pret ⟨rfl, rfl⟩
theorem e_t2 {rec : eR} {n k x f : Int32} {s : vS} {D D2 : Int} (h : e_fr rec k 1 n k D (e_HV k n) (e_HE k)) (h2 : e_fr rec k 2 n k D2 (e_BV k n) (e_BE k)) (hq : e_Q n k s) (h0 : 0 ≤ f.toInt) (h1 : f.toInt ≤ D) (h3 : f.toInt ≤ D2) : v_P (f_Cl_atTop rec 2 n x f s) (fun r t => r = e_HV k n x - e_BV k n 1 ∧ t = e_aC (e_HE k ++ e_BE k) s) := by
  unfold f_Cl_atTop
  rw [if_neg (by decide), if_pos (by decide)]
  refine v_Pbi (e_own h hq h0 h1) ?_
  rintro r t ⟨rfl, rfl⟩
  refine v_Pbi (e_own h2 (e_Qa hq _) h0 h3) ?_
  rintro r t ⟨rfl, rfl⟩
  exact v_Pret ⟨rfl, (e_aC_app _ _ s).symm⟩
theorem e_c20 {rec : eR} {n y f : Int32} {s : vS} : v_P (f_Cl_changed rec 20 y n f s) (fun r t => r = y + 3 ∧ t = e_aC [] s) := by
  unfold f_Cl_changed
  rw [if_pos (by decide)]
  exact v_Pret ⟨rfl, rfl⟩
theorem e_c30 {rec : eR} {n y f : Int32} {s : vS} : v_P (f_Cl_changed rec 30 y n f s) (fun r t => r = -y ∧ t = e_aC [] s) := by
  unfold f_Cl_changed
  rw [if_neg (by decide), if_pos (by decide)]
  exact v_Pret ⟨rfl, rfl⟩
theorem e_c40 {rec : eR} {n y f : Int32} {s : vS} : v_P (f_Cl_changed rec 40 y n f s) (fun r t => r = y * 3 ∧ t = e_aC [] s) := by
  unfold f_Cl_changed
  rw [if_neg (by decide), if_neg (by decide), if_pos (by decide)]
  exact v_Pret ⟨rfl, rfl⟩
theorem e_c50 {rec : eR} {n y f : Int32} {s : vS} : v_P (f_Cl_changed rec 50 y n f s) (fun r t => r = y ^^^ 5 ∧ t = e_aC [] s) := by
  unfold f_Cl_changed
  rw [if_neg (by decide), if_neg (by decide), if_neg (by decide), if_neg (by decide), if_pos (by decide)]
  exact v_Pret ⟨rfl, rfl⟩
theorem e_c61 {rec : eR} {n y f : Int32} {s : vS} : v_P (f_Cl_changed rec 61 y n f s) (fun r t => r = y + 1 ∧ t = e_aC [] s) := by
  unfold f_Cl_changed
  rw [if_neg (by decide), if_neg (by decide), if_neg (by decide), if_neg (by decide), if_neg (by decide), if_neg (by decide), if_pos (by decide)]
  exact v_Pret ⟨rfl, rfl⟩
theorem e_c70 {rec : eR} {n y f : Int32} {s : vS} : v_P (f_Cl_changed rec 70 y n f s) (fun r t => r = y * 2 ∧ t = e_aC [] s) := by
  unfold f_Cl_changed
  rw [if_neg (by decide), if_neg (by decide), if_neg (by decide), if_neg (by decide), if_neg (by decide), if_neg (by decide), if_neg (by decide), if_pos (by decide)]
  exact v_Pret ⟨rfl, rfl⟩
theorem e_c81 {rec : eR} {n y f : Int32} {s : vS} : v_P (f_Cl_changed rec 81 y n f s) (fun r t => r = y - 1 ∧ t = e_aC [] s) := by
  unfold f_Cl_changed
  rw [if_neg (by decide), if_neg (by decide), if_neg (by decide), if_neg (by decide), if_neg (by decide), if_neg (by decide), if_neg (by decide), if_neg (by decide), if_neg (by decide), if_pos (by decide)]
  exact v_Pret ⟨rfl, rfl⟩
theorem e_c60 {rec : eR} {n k y f : Int32} {s : vS} {D : Int} (h : e_fr rec k 0 n k D (e_SV k n) (e_SE k)) (hq : e_Q n k s) (h0 : 0 ≤ f.toInt) (h1 : f.toInt ≤ D) : v_P (f_Cl_changed rec 60 y n f s) (fun r t => r = y - e_SV k n 2 ∧ t = e_aC (e_SE k) s) := by
  unfold f_Cl_changed
  rw [if_neg (by decide), if_neg (by decide), if_neg (by decide), if_neg (by decide), if_neg (by decide), if_pos (by decide)]
  refine v_Pbi (e_own h hq h0 h1) ?_
  rintro r t ⟨rfl, rfl⟩
  exact v_Pret ⟨rfl, rfl⟩
theorem e_c80 {rec : eR} {n k y f : Int32} {s : vS} {D : Int} (h : e_fr rec k 2 n k D (e_BV k n) (e_BE k)) (hq : e_Q n k s) (h0 : 0 ≤ f.toInt) (h1 : f.toInt ≤ D) : v_P (f_Cl_changed rec 80 y n f s) (fun r t => r = y + e_BV k n 2 ∧ t = e_aC (e_BE k) s) := by
  unfold f_Cl_changed
  rw [if_neg (by decide), if_neg (by decide), if_neg (by decide), if_neg (by decide), if_neg (by decide), if_neg (by decide), if_neg (by decide), if_neg (by decide), if_pos (by decide)]
  refine v_Pbi (e_own h hq h0 h1) ?_
  rintro r t ⟨rfl, rfl⟩
  exact v_Pret ⟨rfl, rfl⟩
theorem e_S0 (m : Nat) {n k : Int32} : e_fr (f_Cl_from m) 0 0 n k 38 (fun x => x + n) ([1]) := by
  cases m with
  | zero => exact e_fr0
  | succ m =>
    exact e_from0 e_w0_0 (by decide) (fun x f s _ _ _ => e_t1)
theorem e_S2 (m : Nat) {n k : Int32} : e_fr (f_Cl_from m) 2 0 n k 38 (fun x => x + n) ([1]) := by
  cases m with
  | zero => exact e_fr0
  | succ m =>
    exact e_from0 e_w2_0 (by decide) (fun x f s _ _ _ => e_t1)
theorem e_S3 (m : Nat) {n k : Int32} : e_fr (f_Cl_from m) 3 0 n k 38 (fun x => x + n) ([1]) := by
  cases m with
  | zero => exact e_fr0
  | succ m =>
    exact e_from0 e_w3_0 (by decide) (fun x f s _ _ _ => e_t1)
theorem e_S5 (m : Nat) {n k : Int32} : e_fr (f_Cl_from m) 5 0 n k 38 (fun x => x + n) ([1]) := by
  cases m with
  | zero => exact e_fr0
  | succ m =>
    exact e_from0 e_w5_0 (by decide) (fun x f s _ _ _ => e_t1)
theorem e_S1 (m : Nat) {n k : Int32} : e_fr (f_Cl_from m) 1 0 n k 37 (fun x => x + n + 3) ([20, 1]) := by
  cases m with
  | zero => exact e_fr0
  | succ m =>
    exact e_from1 (E := [1]) (F := []) e_w1_0 (e_u1 ·) (by decide) (by decide) (by decide) (e_S0 m) (fun x f s _ _ _ => e_c20)
theorem e_S4 (m : Nat) {n k : Int32} : e_fr (f_Cl_from m) 4 0 n k 37 (fun x => x + n + 3) ([20, 1]) := by
  cases m with
  | zero => exact e_fr0
  | succ m =>
    exact e_from1 (E := [1]) (F := []) e_w4_0 (e_u1 ·) (by decide) (by decide) (by decide) (e_S0 m) (fun x f s _ _ _ => e_c20)
theorem e_S6 (m : Nat) {n k : Int32} : e_fr (f_Cl_from m) 6 0 n k 37 (fun x => (x + n) * 2) ([70, 1]) := by
  cases m with
  | zero => exact e_fr0
  | succ m =>
    exact e_from1 (E := [1]) (F := []) e_w6_0 (e_u6 ·) (by decide) (by decide) (by decide) (e_S0 m) (fun x f s _ _ _ => e_c70)
theorem e_S7 (m : Nat) {n k : Int32} : e_fr (f_Cl_from m) 7 0 n k 36 (fun x => (x + n) * 2 - 1) ([81, 70, 1]) := by
  cases m with
  | zero => exact e_fr0
  | succ m =>
    exact e_from1 (E := [70, 1]) (F := []) e_w7_0 (e_u7 ·) (by decide) (by decide) (by decide) (e_S6 m) (fun x f s _ _ _ => e_c81)
theorem e_S (m : Nat) {n k : Int32} (hk : 0 ≤ k.toInt ∧ k.toInt ≤ 7) : e_fr (f_Cl_from m) k 0 n k 36 (e_SV k n) (e_SE k) := by
  rcases u_lit hk with rfl | rfl | rfl | rfl | rfl | rfl | rfl | rfl
  · exact e_frm (e_S0 m) (by decide)
  · exact e_frm (e_S1 m) (by decide)
  · exact e_frm (e_S2 m) (by decide)
  · exact e_frm (e_S3 m) (by decide)
  · exact e_frm (e_S4 m) (by decide)
  · exact e_frm (e_S5 m) (by decide)
  · exact e_frm (e_S6 m) (by decide)
  · exact e_frm (e_S7 m) (by decide)
theorem e_B0 (m : Nat) {n k : Int32} : e_fr (f_Cl_from m) 0 2 n k 36 (fun x => x ^^^ n) ([11]) := by
  cases m with
  | zero => exact e_fr0
  | succ m =>
    exact e_from0 e_w0_2 (by decide) (fun x f s _ _ _ => e_t11)
theorem e_B1 (m : Nat) {n k : Int32} : e_fr (f_Cl_from m) 1 2 n k 36 (fun x => x ^^^ n) ([11]) := by
  cases m with
  | zero => exact e_fr0
  | succ m =>
    exact e_from0 e_w1_2 (by decide) (fun x f s _ _ _ => e_t11)
theorem e_B2 (m : Nat) {n k : Int32} : e_fr (f_Cl_from m) 2 2 n k 36 (fun x => x ^^^ n) ([11]) := by
  cases m with
  | zero => exact e_fr0
  | succ m =>
    exact e_from0 e_w2_2 (by decide) (fun x f s _ _ _ => e_t11)
theorem e_B4 (m : Nat) {n k : Int32} : e_fr (f_Cl_from m) 4 2 n k 36 (fun x => x ^^^ n) ([11]) := by
  cases m with
  | zero => exact e_fr0
  | succ m =>
    exact e_from0 e_w4_2 (by decide) (fun x f s _ _ _ => e_t11)
theorem e_B6 (m : Nat) {n k : Int32} : e_fr (f_Cl_from m) 6 2 n k 36 (fun x => x ^^^ n) ([11]) := by
  cases m with
  | zero => exact e_fr0
  | succ m =>
    exact e_from0 e_w6_2 (by decide) (fun x f s _ _ _ => e_t11)
theorem e_B7 (m : Nat) {n k : Int32} : e_fr (f_Cl_from m) 7 2 n k 36 (fun x => x ^^^ n) ([11]) := by
  cases m with
  | zero => exact e_fr0
  | succ m =>
    exact e_from0 e_w7_2 (by decide) (fun x f s _ _ _ => e_t11)
theorem e_B3 (m : Nat) {n k : Int32} : e_fr (f_Cl_from m) 3 2 n k 35 (fun x => (x ^^^ n) * 3) ([40, 11]) := by
  cases m with
  | zero => exact e_fr0
  | succ m =>
    exact e_from1 (E := [11]) (F := []) e_w3_2 (e_u3 ·) (by decide) (by decide) (by decide) (e_B2 m) (fun x f s _ _ _ => e_c40)
theorem e_B5 (m : Nat) {n k : Int32} (hk : 0 ≤ k.toInt ∧ k.toInt ≤ 7) : e_fr (f_Cl_from m) 5 2 n k 34 (fun x => (x ^^^ n) * 3 - e_SV k n 2) (60 :: 40 :: 11 :: e_SE k) := by
  cases m with
  | zero => exact e_fr0
  | succ m =>
    exact e_from1 (E := [40, 11]) (F := e_SE k) e_w5_2 (e_u5 ·) (by decide) (by decide) (by decide) (e_B3 m) (fun x f s hq h0 h1 => e_c60 (e_S m hk) hq h0 (by omega))
theorem e_B (m : Nat) {n k : Int32} (hk : 0 ≤ k.toInt ∧ k.toInt ≤ 7) : e_fr (f_Cl_from m) k 2 n k 34 (e_BV k n) (e_BE k) := by
  rcases u_lit hk with rfl | rfl | rfl | rfl | rfl | rfl | rfl | rfl
  · exact e_frm (e_B0 m) (by decide)
  · exact e_frm (e_B1 m) (by decide)
  · exact e_frm (e_B2 m) (by decide)
  · exact e_frm (e_B3 m) (by decide)
  · exact e_frm (e_B4 m) (by decide)
  · exact e_frm (e_B5 m hk) (by decide)
  · exact e_frm (e_B6 m) (by decide)
  · exact e_frm (e_B7 m) (by decide)
theorem e_H0 (m : Nat) {n k : Int32} (hk : 0 ≤ k.toInt ∧ k.toInt ≤ 7) : e_fr (f_Cl_from m) 0 1 n k 33 (fun x => e_SV k n x * 2) (10 :: e_SE k) := by
  cases m with
  | zero => exact e_fr0
  | succ m =>
    exact e_from0 e_w0_1 (by decide) (fun x f s hq h0 h1 => e_t10 (e_S m hk) hq h0 (by omega))
theorem e_H1 (m : Nat) {n k : Int32} (hk : 0 ≤ k.toInt ∧ k.toInt ≤ 7) : e_fr (f_Cl_from m) 1 1 n k 33 (fun x => e_SV k n x * 2) (10 :: e_SE k) := by
  cases m with
  | zero => exact e_fr0
  | succ m =>
    exact e_from0 e_w1_1 (by decide) (fun x f s hq h0 h1 => e_t10 (e_S m hk) hq h0 (by omega))
theorem e_H4 (m : Nat) {n k : Int32} (hk : 0 ≤ k.toInt ∧ k.toInt ≤ 7) : e_fr (f_Cl_from m) 4 1 n k 33 (fun x => e_SV k n x * 2) (10 :: e_SE k) := by
  cases m with
  | zero => exact e_fr0
  | succ m =>
    exact e_from0 e_w4_1 (by decide) (fun x f s hq h0 h1 => e_t10 (e_S m hk) hq h0 (by omega))
theorem e_H6 (m : Nat) {n k : Int32} (hk : 0 ≤ k.toInt ∧ k.toInt ≤ 7) : e_fr (f_Cl_from m) 6 1 n k 33 (fun x => e_SV k n x * 2) (10 :: e_SE k) := by
  cases m with
  | zero => exact e_fr0
  | succ m =>
    exact e_from0 e_w6_1 (by decide) (fun x f s hq h0 h1 => e_t10 (e_S m hk) hq h0 (by omega))
theorem e_H2 (m : Nat) {n k : Int32} (hk : 0 ≤ k.toInt ∧ k.toInt ≤ 7) : e_fr (f_Cl_from m) 2 1 n k 32 (fun x => -(e_SV k n x * 2)) (30 :: ((10 :: e_SE k) ++ [])) := by
  cases m with
  | zero => exact e_fr0
  | succ m =>
    exact e_from1 (E := 10 :: e_SE k) (F := []) e_w2_1 (e_u2 ·) (by decide) (by decide) (by decide) (e_H0 m hk) (fun x f s _ _ _ => e_c30)
theorem e_H3 (m : Nat) {n k : Int32} (hk : 0 ≤ k.toInt ∧ k.toInt ≤ 7) : e_fr (f_Cl_from m) 3 1 n k 31 (fun x => -(e_SV k n (x + 1) * 2)) (41 :: 30 :: ((10 :: e_SE k) ++ [])) := by
  cases m with
  | zero => exact e_fr0
  | succ m =>
    exact e_from41 (V := fun x => -(e_SV k n x * 2)) e_w3_1 (e_u3 ·) (by decide) (by decide) (e_H2 m hk)
theorem e_H5 (m : Nat) {n k : Int32} (hk : 0 ≤ k.toInt ∧ k.toInt ≤ 7) : e_fr (f_Cl_from m) 5 1 n k 31 (fun x => -(e_SV k n (x + 1) * 2)) (41 :: 30 :: ((10 :: e_SE k) ++ [])) := by
  cases m with
  | zero => exact e_fr0
  | succ m =>
    exact e_from41 (V := fun x => -(e_SV k n x * 2)) e_w5_1 (e_u3 ·) (by decide) (by decide) (e_H2 m hk)
theorem e_H7 (m : Nat) {n k : Int32} (hk : 0 ≤ k.toInt ∧ k.toInt ≤ 7) : e_fr (f_Cl_from m) 7 1 n k 32 (fun x => e_SV k n x * 2 + e_BV k n 2) (80 :: ((10 :: e_SE k) ++ e_BE k)) := by
  cases m with
  | zero => exact e_fr0
  | succ m =>
    exact e_from1 (E := 10 :: e_SE k) (F := e_BE k) e_w7_1 (e_u7 ·) (by decide) (by decide) (by decide) (e_H6 m hk) (fun x f s hq h0 h1 => e_c80 (e_B m hk) hq h0 (by omega))
theorem e_H (m : Nat) {n k : Int32} (hk : 0 ≤ k.toInt ∧ k.toInt ≤ 7) : e_fr (f_Cl_from m) k 1 n k 31 (e_HV k n) (e_HE k) := by
  rcases u_lit hk with rfl | rfl | rfl | rfl | rfl | rfl | rfl | rfl
  · exact e_frm (e_H0 m hk) (by decide)
  · exact e_frm (e_H1 m hk) (by decide)
  · exact e_frm (e_H2 m hk) (by decide)
  · exact e_frm (e_H3 m hk) (by decide)
  · exact e_frm (e_H4 m hk) (by decide)
  · exact e_frm (e_H5 m hk) (by decide)
  · exact e_frm (e_H6 m hk) (by decide)
  · exact e_frm (e_H7 m hk) (by decide)
theorem e_T0 (m : Nat) {n k : Int32} (hk : 0 ≤ k.toInt ∧ k.toInt ≤ 7) : e_fr (f_Cl_from m) 0 3 n k 30 (fun x => e_HV k n x - e_BV k n 1) (2 :: (e_HE k ++ e_BE k)) := by
  cases m with
  | zero => exact e_fr0
  | succ m =>
    exact e_from0 e_w0_3 (by decide) (fun x f s hq h0 h1 => e_t2 (e_H m hk) (e_B m hk) hq h0 (by omega) (by omega))
theorem e_T1 (m : Nat) {n k : Int32} (hk : 0 ≤ k.toInt ∧ k.toInt ≤ 7) : e_fr (f_Cl_from m) 1 3 n k 30 (fun x => e_HV k n x - e_BV k n 1) (2 :: (e_HE k ++ e_BE k)) := by
  cases m with
  | zero => exact e_fr0
  | succ m =>
    exact e_from0 e_w1_3 (by decide) (fun x f s hq h0 h1 => e_t2 (e_H m hk) (e_B m hk) hq h0 (by omega) (by omega))
theorem e_T2 (m : Nat) {n k : Int32} (hk : 0 ≤ k.toInt ∧ k.toInt ≤ 7) : e_fr (f_Cl_from m) 2 3 n k 30 (fun x => e_HV k n x - e_BV k n 1) (2 :: (e_HE k ++ e_BE k)) := by
  cases m with
  | zero => exact e_fr0
  | succ m =>
    exact e_from0 e_w2_3 (by decide) (fun x f s hq h0 h1 => e_t2 (e_H m hk) (e_B m hk) hq h0 (by omega) (by omega))
theorem e_T3 (m : Nat) {n k : Int32} (hk : 0 ≤ k.toInt ∧ k.toInt ≤ 7) : e_fr (f_Cl_from m) 3 3 n k 30 (fun x => e_HV k n x - e_BV k n 1) (2 :: (e_HE k ++ e_BE k)) := by
  cases m with
  | zero => exact e_fr0
  | succ m =>
    exact e_from0 e_w3_3 (by decide) (fun x f s hq h0 h1 => e_t2 (e_H m hk) (e_B m hk) hq h0 (by omega) (by omega))
theorem e_T6 (m : Nat) {n k : Int32} (hk : 0 ≤ k.toInt ∧ k.toInt ≤ 7) : e_fr (f_Cl_from m) 6 3 n k 30 (fun x => e_HV k n x - e_BV k n 1) (2 :: (e_HE k ++ e_BE k)) := by
  cases m with
  | zero => exact e_fr0
  | succ m =>
    exact e_from0 e_w6_3 (by decide) (fun x f s hq h0 h1 => e_t2 (e_H m hk) (e_B m hk) hq h0 (by omega) (by omega))
theorem e_T7 (m : Nat) {n k : Int32} (hk : 0 ≤ k.toInt ∧ k.toInt ≤ 7) : e_fr (f_Cl_from m) 7 3 n k 30 (fun x => e_HV k n x - e_BV k n 1) (2 :: (e_HE k ++ e_BE k)) := by
  cases m with
  | zero => exact e_fr0
  | succ m =>
    exact e_from0 e_w7_3 (by decide) (fun x f s hq h0 h1 => e_t2 (e_H m hk) (e_B m hk) hq h0 (by omega) (by omega))
theorem e_T4 (m : Nat) {n k : Int32} (hk : 0 ≤ k.toInt ∧ k.toInt ≤ 7) : e_fr (f_Cl_from m) 4 3 n k 29 (fun x => (e_HV k n x - e_BV k n 1) ^^^ 5) (50 :: ((2 :: (e_HE k ++ e_BE k)) ++ [])) := by
  cases m with
  | zero => exact e_fr0
  | succ m =>
    exact e_from1 (E := 2 :: (e_HE k ++ e_BE k)) (F := []) e_w4_3 (e_u4 ·) (by decide) (by decide) (by decide) (e_T1 m hk) (fun x f s _ _ _ => e_c50)
theorem e_T5 (m : Nat) {n k : Int32} (hk : 0 ≤ k.toInt ∧ k.toInt ≤ 7) : e_fr (f_Cl_from m) 5 3 n k 29 (fun x => (e_HV k n x - e_BV k n 1) + 1) (61 :: ((2 :: (e_HE k ++ e_BE k)) ++ [])) := by
  cases m with
  | zero => exact e_fr0
  | succ m =>
    exact e_from1 (E := 2 :: (e_HE k ++ e_BE k)) (F := []) e_w5_3 (e_u5 ·) (by decide) (by decide) (by decide) (e_T3 m hk) (fun x f s _ _ _ => e_c61)
theorem e_T (m : Nat) {n k : Int32} (hk : 0 ≤ k.toInt ∧ k.toInt ≤ 7) : e_fr (f_Cl_from m) k 3 n k 29 (e_TV k n) (e_TE k) := by
  rcases u_lit hk with rfl | rfl | rfl | rfl | rfl | rfl | rfl | rfl
  · exact e_frm (e_T0 m hk) (by decide)
  · exact e_frm (e_T1 m hk) (by decide)
  · exact e_frm (e_T2 m hk) (by decide)
  · exact e_frm (e_T3 m hk) (by decide)
  · exact e_frm (e_T4 m hk) (by decide)
  · exact e_frm (e_T5 m hk) (by decide)
  · exact e_frm (e_T6 m hk) (by decide)
  · exact e_frm (e_T7 m hk) (by decide)
