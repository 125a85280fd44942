/-! image, back -/
theorem y_at10 {s : vS} {v : Int32} (h0 : 0 ≤ v.toInt) (h9 : v.toInt < 10) : f_Ct_at v s = some (23 + 5 * v.toInt.toNat, s) := jz_at v s ⟨h0, by omega⟩
def j_iC (s0 s : vS) (m : Int) : Prop := j_E (fun a j => ¬ (23 ≤ a ∧ a ≤ 68 ∧ a % 5 = 3 ∧ 9 ≤ j ∧ j ≤ 11)) s0 s ∧ ∀ k : Nat, (k : Int) < m → k < 10 → s.1 (23 + 5 * k) 9 = s0.1 (23 + 5 * k) 1 ∧ s.1 (23 + 5 * k) 10 = s0.1 (23 + 5 * k) 2 ∧ s.1 (23 + 5 * k) 11 = s0.1 (23 + 5 * k) 3
theorem y_imL {s0 : vS} (hm : (s0.1 8 1).toInt ≤ 10) {k : vS → Option (Int32 × vS)} {Q : Int32 → vS → Prop} (hk : ∀ t, j_iC s0 t (s0.1 8 1).toInt → v_P (k t) Q) : ∀ (n : Nat) (v : Int32) (s : vS), 0 ≤ v.toInt → j_iC s0 s v.toInt → v_P (f_Ol_image_L2 k n v s) Q
  | 0, _, _, _, _ => v_Pnone
  | n + 1, v, s, hv, h => by
    show v_P (f_Ol_image_L2b k (f_Ol_image_L2 k n) v s) Q
    unfold f_Ol_image_L2b
    have e1 : s.1 8 1 = s0.1 8 1 := h.1 8 1 (by omega)
    rw [e1]
    by_cases hc : (s0.1 8 1).toInt ≤ v.toInt
    · rw [if_pos hc]
      exact hk s ⟨h.1, fun k hk9 => h.2 k (by omega)⟩
    · rw [if_neg hc, y_at10 hv (by omega), v_bi_some]
      refine v_Pif (fun _ => ?_) (fun _ => v_Pnone)
      unfold f_Lw_draw
      have ei := v_inc (x := v) (by omega)
      have ev : ((v.toInt.toNat : Nat) : Int) = v.toInt := by omega
      generalize v.toInt.toNat = w at ev ⊢
      refine v_Pbi (P := fun _ t => j_iC s0 t (v + 1).toInt) (v_Plet (v_Plet (v_Plet (v_Pret ?_)))) (fun _ t ht => y_imL hm hk n (v + 1) t (by omega) ht)
      have eA : (v_w1 s (23 + 5 * w) 9 (s.1 (23 + 5 * w) 1)).1 (23 + 5 * w) 2 = s.1 (23 + 5 * w) 2 := v_w1_1.trans (if_neg (by omega))
      rw [eA]
      have eB : (v_w1 (v_w1 s (23 + 5 * w) 9 (s.1 (23 + 5 * w) 1)) (23 + 5 * w) 10 (s.1 (23 + 5 * w) 2)).1 (23 + 5 * w) 3 = s.1 (23 + 5 * w) 3 := by rw [v_w1_1, if_neg (by omega), v_w1_1, if_neg (by omega)]
      rw [eB]
      have f1 : ∀ j, j ≤ 3 → s.1 (23 + 5 * w) j = s0.1 (23 + 5 * w) j := fun j hj => h.1 _ _ (by omega)
      refine ⟨j_E_tr h.1 (j_E_w1 (j_E_w1 (j_E_w1 j_E_rf (fun q => q (by omega))) (fun q => q (by omega))) (fun q => q (by omega))), fun k hk hk9 => ?_⟩
      rw [ei] at hk
      by_cases hz : k = w
      · subst hz
        exact ⟨by rw [v_w1_1, if_neg (by omega), v_w1_1, if_neg (by omega), v_w1_1, if_pos ⟨rfl, rfl⟩, f1 1 (by decide)], by rw [v_w1_1, if_neg (by omega), v_w1_1, if_pos ⟨rfl, rfl⟩, f1 2 (by decide)], by rw [v_w1_1, if_pos ⟨rfl, rfl⟩, f1 3 (by decide)]⟩
      · have h2 := h.2 k (by omega) hk9
        exact ⟨by rw [v_w1_1, if_neg (by omega), v_w1_1, if_neg (by omega), v_w1_1, if_neg (by omega)]; exact h2.1, by rw [v_w1_1, if_neg (by omega), v_w1_1, if_neg (by omega), v_w1_1, if_neg (by omega)]; exact h2.2.1, by rw [v_w1_1, if_neg (by omega), v_w1_1, if_neg (by omega), v_w1_1, if_neg (by omega)]; exact h2.2.2⟩
/-- three words come to another row -/
theorem j_cp3 {s : vS} {x y : Nat} (hxy : ¬ x = y) : j_E (fun a _ => ¬ a = y) s (v_cp1 s x 0 y 0 3) ∧ ∀ w, w < 3 → (v_cp1 s x 0 y 0 3).1 y w = s.1 x w := by
  refine ⟨j_E_cp1 j_E_rf (fun j q => q rfl), fun w hw => ?_⟩
  show (if y = y ∧ 0 ≤ w ∧ w < 0 + 3 then s.1 x (0 + (w - 0)) else s.1 y w) = _
  rw [if_pos ⟨rfl, Nat.zero_le _, by omega⟩, Nat.zero_add, Nat.sub_zero]
theorem y_draw (s : vS) : v_P (f_Ws_draw s) (fun _ t => j_E (fun a _ => ¬ (a = 12 ∨ a = 13)) s t ∧ ∀ w, w < 3 → t.1 12 w = s.1 10 w ∧ t.1 13 w = s.1 11 w) := by
  unfold f_Ws_draw
  refine v_Pif (fun _ => v_Plet (v_Pif (fun _ => v_Plet (v_Pret ?_)) (fun _ => v_Pnone))) (fun _ => v_Pnone)
  obtain ⟨a1, a2⟩ := j_cp3 (s := s) (x := 10) (y := 12) (by decide)
  obtain ⟨b1, b2⟩ := j_cp3 (s := v_cp1 s 10 0 12 0 3) (x := 11) (y := 13) (by decide)
  exact ⟨j_E_tr (j_E_im a1 (fun a j q => by omega)) (j_E_im b1 (fun a j q => by omega)), fun w hw => ⟨by rw [b1 12 w (by omega)]; exact a2 w hw, by rw [b2 w hw]; exact a1 11 w (by omega)⟩⟩
theorem y_restore (s : vS) : v_P (f_Ws_restore s) (fun _ t => j_E (fun a _ => ¬ (a = 10 ∨ a = 11)) s t ∧ ∀ w, w < 3 → t.1 10 w = s.1 12 w ∧ t.1 11 w = s.1 13 w) := by
  unfold f_Ws_restore
  refine v_Pif (fun _ => v_Plet (v_Pif (fun _ => v_Plet (v_Pret ?_)) (fun _ => v_Pnone))) (fun _ => v_Pnone)
  obtain ⟨a1, a2⟩ := j_cp3 (s := s) (x := 12) (y := 10) (by decide)
  obtain ⟨b1, b2⟩ := j_cp3 (s := v_cp1 s 12 0 10 0 3) (x := 13) (y := 11) (by decide)
  exact ⟨j_E_tr (j_E_im a1 (fun a j q => by omega)) (j_E_im b1 (fun a j q => by omega)), fun w hw => ⟨by rw [b1 10 w (by omega)]; exact a2 w hw, by rw [b2 w hw]; exact a1 13 w (by omega)⟩⟩
def jp_img (a j : Nat) : Prop := (a = 0 ∧ j = 11) ∨ (23 ≤ a ∧ a ≤ 68 ∧ a % 5 = 3 ∧ 9 ≤ j ∧ j ≤ 11) ∨ a = 12 ∨ a = 13 ∨ (a = 151 ∧ 35 ≤ j ∧ j ≤ 36) ∨ (174 ≤ a ∧ a ≤ 178)
def j_imC (s t : vS) : Prop := j_E (fun a j => ¬ jp_img a j) s t ∧ t.1 0 11 = s.1 8 1 ∧ (∀ k : Nat, (k : Int) < (s.1 8 1).toInt → k < 10 → t.1 (23 + 5 * k) 9 = s.1 (23 + 5 * k) 1 ∧ t.1 (23 + 5 * k) 10 = s.1 (23 + 5 * k) 2 ∧ t.1 (23 + 5 * k) 11 = s.1 (23 + 5 * k) 3) ∧ ∀ w, w < 3 → t.1 12 w = s.1 10 w ∧ t.1 13 w = s.1 11 w
theorem y_Ol_image (s : vS) (hm : (s.1 8 1).toInt ≤ 10) : v_P (f_Ol_image s) (fun r t => r = s.1 8 1 ∧ j_imC s t) := by
  unfold f_Ol_image
  refine y_imL hm (fun t ht => ?_) 4096 0 s (by decide) ⟨j_E_rf, fun k hk => absurd hk (by show ¬ (k : Int) < 0; omega)⟩
  refine v_Pbi (y_draw t) ?_
  rintro _ u ⟨u1, u2⟩
  have em : u.1 8 1 = s.1 8 1 := (u1 8 1 (by omega)).trans (ht.1 8 1 (by omega))
  refine v_Plet (v_Pret ⟨by rw [v_w1_1, if_pos ⟨rfl, rfl⟩, em], j_E_w1 (j_E_tr (j_E_im ht.1 (fun a j q => by unfold jp_img at q; omega)) (j_E_im u1 (fun a j q => by unfold jp_img at q; omega))) (fun q => q (by unfold jp_img; omega)), by rw [v_w1_1, if_pos ⟨rfl, rfl⟩, em], fun k hk hk9 => ?_, fun w hw => ?_⟩)
  · have h2 := ht.2 k hk hk9
    refine ⟨?_, ?_, ?_⟩
    · rw [v_w1_1, if_neg (by omega), u1 _ _ (by omega)]; exact h2.1
    · rw [v_w1_1, if_neg (by omega), u1 _ _ (by omega)]; exact h2.2.1
    · rw [v_w1_1, if_neg (by omega), u1 _ _ (by omega)]; exact h2.2.2
  · have h2 := u2 w hw
    refine ⟨?_, ?_⟩
    · rw [v_w1_1, if_neg (by omega), h2.1]; exact ht.1 10 w (by omega)
    · rw [v_w1_1, if_neg (by omega), h2.2]; exact ht.1 11 w (by omega)
/-- the reference's loops over laws and words: three rows, two rows come to others -/
theorem y_imM {s0 : vS} {k : vS → Option (Int32 × vS)} {Q : Int32 → vS → Prop} (hk : ∀ t, j_E (fun a _ => ¬ (174 ≤ a ∧ a ≤ 176)) s0 t → (∀ k : Nat, (k : Int) < (s0.1 151 14).toInt → t.1 174 k = s0.1 160 k ∧ t.1 175 k = s0.1 161 k ∧ t.1 176 k = s0.1 162 k) → v_P (k t) Q) : ∀ (n : Nat) (v : Int32) (s : vS), 0 ≤ v.toInt → j_E (fun a _ => ¬ (174 ≤ a ∧ a ≤ 176)) s0 s → (∀ k : Nat, (k : Int) < v.toInt → s.1 174 k = s0.1 160 k ∧ s.1 175 k = s0.1 161 k ∧ s.1 176 k = s0.1 162 k) → v_P (f_Md_image_L15 k n v s) Q
  | 0, _, _, _, _, _ => v_Pnone
  | n + 1, v, s, hv, hE, h => by
    show v_P (f_Md_image_L15b k (f_Md_image_L15 k n) v s) Q
    unfold f_Md_image_L15b
    rw [hE 151 14 (by omega)]
    by_cases hc : (s0.1 151 14).toInt ≤ v.toInt
    · rw [if_pos hc]
      exact hk s hE (fun k hk9 => h k (by omega))
    · rw [if_neg hc]
      refine v_Pif (fun hv11 => v_Pif (fun hv10 => v_Plet (v_Pif (fun _ => v_Pif (fun _ => v_Plet (v_Pif (fun _ => v_Pif (fun _ => v_Plet ?_) (fun _ => v_Pnone)) (fun _ => v_Pnone))) (fun _ => v_Pnone)) (fun _ => v_Pnone))) (fun _ => v_Pnone)) (fun _ => v_Pnone)
      have h10 := hv10.2
      have ei := v_inc (x := v) (by omega)
      have ev : ((v.toNatClampNeg : Nat) : Int) = v.toInt := by rw [v_nc]; omega
      generalize v.toNatClampNeg = w at ev ⊢
      refine y_imM hk n (v + 1) _ (by omega) (j_E_w1 (j_E_w1 (j_E_w1 hE (fun q => q (by decide))) (fun q => q (by decide))) (fun q => q (by decide))) (fun k hk9 => ?_)
      rw [ei] at hk9
      have eA : (v_w1 s 174 w (s.1 160 w)).1 161 w = s.1 161 w := v_w1_1.trans (if_neg (by omega))
      have eB : (v_w1 (v_w1 s 174 w (s.1 160 w)) 175 w ((v_w1 s 174 w (s.1 160 w)).1 161 w)).1 162 w = s.1 162 w := by rw [v_w1_1, if_neg (by omega), v_w1_1, if_neg (by omega)]
      by_cases hz : k = w
      · subst hz
        exact ⟨by rw [v_w1_1, if_neg (by omega), v_w1_1, if_neg (by omega), v_w1_1, if_pos ⟨rfl, rfl⟩, hE 160 k (by omega)], by rw [v_w1_1, if_neg (by omega), v_w1_1, if_pos ⟨rfl, rfl⟩, eA, hE 161 k (by omega)], by rw [v_w1_1, if_pos ⟨rfl, rfl⟩, eB, hE 162 k (by omega)]⟩
      · have h2 := h k (by omega)
        exact ⟨by rw [v_w1_1, if_neg (by omega), v_w1_1, if_neg (by omega), v_w1_1, if_neg (by omega)]; exact h2.1, by rw [v_w1_1, if_neg (by omega), v_w1_1, if_neg (by omega), v_w1_1, if_neg (by omega)]; exact h2.2.1, by rw [v_w1_1, if_neg (by omega), v_w1_1, if_neg (by omega), v_w1_1, if_neg (by omega)]; exact h2.2.2⟩
theorem y_imW {s0 : vS} {k : vS → Option (Int32 × vS)} {Q : Int32 → vS → Prop} (hk : ∀ t, j_E (fun a _ => ¬ (177 ≤ a ∧ a ≤ 178)) s0 t → (∀ k : Nat, k < 3 → t.1 177 k = s0.1 163 k ∧ t.1 178 k = s0.1 164 k) → v_P (k t) Q) : ∀ (n : Nat) (v : Int32) (s : vS), 0 ≤ v.toInt → j_E (fun a _ => ¬ (177 ≤ a ∧ a ≤ 178)) s0 s → (∀ k : Nat, (k : Int) < v.toInt → s.1 177 k = s0.1 163 k ∧ s.1 178 k = s0.1 164 k) → v_P (f_Md_image_L67 k n v s) Q
  | 0, _, _, _, _, _ => v_Pnone
  | n + 1, v, s, hv, hE, h => by
    show v_P (f_Md_image_L67b k (f_Md_image_L67 k n) v s) Q
    unfold f_Md_image_L67b
    by_cases hc : 3 ≤ v.toInt
    · rw [if_pos hc]
      exact hk s hE (fun k hk9 => h k (by omega))
    · rw [if_neg hc]
      refine v_Pif (fun hv11 => v_Pif (fun hv10 => v_Plet (v_Pif (fun _ => v_Pif (fun _ => v_Plet ?_) (fun _ => v_Pnone)) (fun _ => v_Pnone))) (fun _ => v_Pnone)) (fun _ => v_Pnone)
      have ei := v_inc (x := v) (by omega)
      have ev : ((v.toNatClampNeg : Nat) : Int) = v.toInt := by rw [v_nc]; omega
      generalize v.toNatClampNeg = w at ev ⊢
      refine y_imW hk n (v + 1) _ (by omega) (j_E_w1 (j_E_w1 hE (fun q => q (by decide))) (fun q => q (by decide))) (fun k hk9 => ?_)
      rw [ei] at hk9
      have eA : (v_w1 s 177 w (s.1 163 w)).1 164 w = s.1 164 w := v_w1_1.trans (if_neg (by omega))
      by_cases hz : k = w
      · subst hz
        exact ⟨by rw [v_w1_1, if_neg (by omega), v_w1_1, if_pos ⟨rfl, rfl⟩, hE 163 k (by omega)], by rw [v_w1_1, if_pos ⟨rfl, rfl⟩, eA, hE 164 k (by omega)]⟩
      · have h2 := h k (by omega)
        exact ⟨by rw [v_w1_1, if_neg (by omega), v_w1_1, if_neg (by omega)]; exact h2.1, by rw [v_w1_1, if_neg (by omega), v_w1_1, if_neg (by omega)]; exact h2.2⟩
def j_imM (s t : vS) : Prop := j_E (fun a j => ¬ jp_img a j) s t ∧ t.1 151 35 = 1 ∧ t.1 151 36 = s.1 151 14 ∧ (∀ k : Nat, (k : Int) < (s.1 151 14).toInt → t.1 174 k = s.1 160 k ∧ t.1 175 k = s.1 161 k ∧ t.1 176 k = s.1 162 k) ∧ ∀ w, w < 3 → t.1 177 w = s.1 163 w ∧ t.1 178 w = s.1 164 w
theorem y_Md_image (s : vS) : v_P (f_Md_image s) (fun r t => r = s.1 151 14 ∧ j_imM s t) := by
  unfold f_Md_image
  refine v_Plet (v_Plet ?_)
  have e1 : (v_w1 s 151 35 1).1 151 14 = s.1 151 14 := v_w1_1.trans (if_neg (by omega))
  rw [e1]
  have hE : j_E (fun a j => ¬ (a = 151 ∧ 35 ≤ j ∧ j ≤ 36)) s (v_w1 (v_w1 s 151 35 1) 151 36 (s.1 151 14)) := j_E_w1 (j_E_w1 j_E_rf (fun q => q (by omega))) (fun q => q (by omega))
  have e35 : (v_w1 (v_w1 s 151 35 1) 151 36 (s.1 151 14)).1 151 35 = 1 := by rw [v_w1_1, if_neg (by omega), v_w1_1, if_pos ⟨rfl, rfl⟩]
  have e36 : (v_w1 (v_w1 s 151 35 1) 151 36 (s.1 151 14)).1 151 36 = s.1 151 14 := by rw [v_w1_1, if_pos ⟨rfl, rfl⟩]
  generalize v_w1 (v_w1 s 151 35 1) 151 36 (s.1 151 14) = u at hE e35 e36 ⊢
  refine y_imM (s0 := u) (fun t tE t2 => ?_) 4096 0 u (by decide) j_E_rf (fun k hk => absurd hk (by show ¬ (k : Int) < 0; omega))
  refine y_imW (s0 := t) (fun w wE w2 => ?_) 4096 0 t (by decide) j_E_rf (fun k hk => absurd hk (by show ¬ (k : Int) < 0; omega))
  have em : u.1 151 14 = s.1 151 14 := hE 151 14 (by omega)
  refine v_Pret ⟨by rw [wE 151 14 (by omega), tE 151 14 (by omega), em], j_E_tr (j_E_im hE (fun a j q => by unfold jp_img at q; omega)) (j_E_tr (j_E_im tE (fun a j q => by unfold jp_img at q; omega)) (j_E_im wE (fun a j q => by unfold jp_img at q; omega))), by rw [wE 151 35 (by omega), tE 151 35 (by omega), e35], by rw [wE 151 36 (by omega), tE 151 36 (by omega), e36], fun k hk => ?_, fun w hw => ?_⟩
  · obtain ⟨a1, a2, a3⟩ := t2 k (by rw [em]; exact hk)
    rw [wE 174 k (by omega), wE 175 k (by omega), wE 176 k (by omega), a1, a2, a3]
    exact ⟨hE 160 k (by omega), hE 161 k (by omega), hE 162 k (by omega)⟩
  · obtain ⟨a1, a2⟩ := w2 w hw
    rw [a1, a2, tE 163 w (by omega), tE 164 w (by omega)]
    exact ⟨hE 163 w (by omega), hE 164 w (by omega)⟩
theorem j_img_w {s t s2 t2 : vS} (h : j_R s t) (hs : j_E (fun a j => ¬ jp_img a j) s s2) (ht : j_E (fun a j => ¬ jp_img a j) t t2) (hi : j_img s2 t2) (hn : j_ran s2) : j_R s2 t2 :=
  j_mix jp_img h hs ht (Or.inl (fun a j q z => by unfold jb_many at q; unfold jp_img at z; omega)) (Or.inl (fun a j q z => by unfold jb_tape at q; unfold jp_img at z; omega)) (Or.inl (fun a j q z => by unfold jb_num at q; unfold jp_img at z; omega)) (Or.inl (fun a j q z => by unfold jb_law at q; unfold jp_img at z; omega)) (Or.inl (fun a j q z => by unfold jb_rt at q; unfold jp_img at z; omega)) (Or.inl (fun a j q z => by unfold jb_textC jb_textM at q; unfold jp_img at z; omega)) (Or.inl (fun a j q z => by unfold jb_word at q; unfold jp_img at z; omega)) (Or.inr hi) (Or.inl (fun a j q z => by unfold jb_chg at q; unfold jp_img at z; omega)) (Or.inr hn)
theorem j_image {s t : vS} (h : j_R s t) (hR : v_RI t) : j_S (f_Ol_image s) (f_Md_image t) := by
  have hm := hR.1.1
  have em : s.1 8 1 = t.1 151 14 := h.1
  refine j_SP (y_Ol_image s (by rw [em]; exact hm.2)) (y_Md_image t) ?_
  rintro r1 s1 r2 t1 ⟨rfl, a1, a2, a3, a4⟩ ⟨rfl, b1, b2, b3, b4, b5⟩
  have hrn := h.2.2.2.2.2.2.2.2.2
  refine ⟨j_img_w h a1 b1 (Or.inr ⟨by rw [b2]; decide, by rw [a2, b3, em], ?_, fun k hk hk9 => ?_, fun w hw => ?_⟩) ⟨fun k hk hk9 => ?_, ?_, fun k hk hk9 => ?_, fun j hj => ?_⟩, em⟩
  · rw [a2, a1 8 1 (by unfold jp_img; omega), em]; omega
  · rw [a2] at hk
    obtain ⟨c1, c2, c3⟩ := a3 k hk hk9
    obtain ⟨d1, d2, d3⟩ := b4 k (by rw [← em]; exact hk)
    obtain ⟨l1, l2, l3⟩ := h.2.2.2.1 k hk hk9
    rw [c1, c2, c3, d1, d2, d3]
    exact ⟨l1, l2, l3⟩
  · obtain ⟨c1, c2⟩ := a4 w hw
    obtain ⟨d1, d2⟩ := b5 w hw
    rw [c1, c2, d1, d2]
    exact h.2.2.2.2.2.2.1 w hw
  · rw [a1 8 1 (by unfold jp_img; omega)] at hk
    rw [a1 _ 1 (by unfold jp_img; omega), a1 _ 2 (by unfold jp_img; omega), a1 _ 3 (by unfold jp_img; omega)]
    exact hrn.1 k hk hk9
  · rw [a1 8 2 (by unfold jp_img; omega), a1 8 3 (by unfold jp_img; omega)]
    exact hrn.2.1
  · rw [a2] at hk
    obtain ⟨c1, c2, c3⟩ := a3 k hk hk9
    rw [c1, c2, c3]
    exact hrn.1 k hk hk9
  · rw [a1 73 1 (by unfold jp_img; omega)] at hj
    rw [a1 75 _ (by unfold jp_img; omega), a1 76 _ (by unfold jp_img; omega), a1 77 _ (by unfold jp_img; omega)]
    exact hrn.2.2.2 j hj
/-! back -/
def j_bC (s0 s : vS) (m : Int) : Prop := j_E (fun a j => ¬ (23 ≤ a ∧ a ≤ 68 ∧ a % 5 = 3 ∧ 1 ≤ j ∧ j ≤ 3)) s0 s ∧ ∀ k : Nat, k < 10 → if (k : Int) < m then s.1 (23 + 5 * k) 1 = s0.1 (23 + 5 * k) 9 ∧ s.1 (23 + 5 * k) 2 = s0.1 (23 + 5 * k) 10 ∧ s.1 (23 + 5 * k) 3 = s0.1 (23 + 5 * k) 11 else s.1 (23 + 5 * k) 1 = s0.1 (23 + 5 * k) 1 ∧ s.1 (23 + 5 * k) 2 = s0.1 (23 + 5 * k) 2 ∧ s.1 (23 + 5 * k) 3 = s0.1 (23 + 5 * k) 3
theorem y_bkL {s0 : vS} (hm : (s0.1 0 11).toInt ≤ 10) {k : vS → Option (Int32 × vS)} {Q : Int32 → vS → Prop} (hk : ∀ t, j_bC s0 t (s0.1 0 11).toInt → v_P (k t) Q) : ∀ (n : Nat) (v : Int32) (s : vS), 0 ≤ v.toInt → v.toInt ≤ (s0.1 0 11).toInt → j_bC s0 s v.toInt → v_P (f_Ol_back_L13 k n v s) Q
  | 0, _, _, _, _, _ => v_Pnone
  | n + 1, v, s, hv, hvm, h => by
    show v_P (f_Ol_back_L13b k (f_Ol_back_L13 k n) v s) Q
    unfold f_Ol_back_L13b
    have e1 : s.1 0 11 = s0.1 0 11 := h.1 0 11 (by omega)
    rw [e1]
    by_cases hc : (s0.1 0 11).toInt ≤ v.toInt
    · rw [if_pos hc]
      exact hk s (by rw [show (s0.1 0 11).toInt = v.toInt by omega]; exact h)
    · rw [if_neg hc, y_at10 hv (by omega), v_bi_some]
      refine v_Pif (fun _ => ?_) (fun _ => v_Pnone)
      unfold f_Lw_restore
      have ei := v_inc (x := v) (by omega)
      have ev : ((v.toInt.toNat : Nat) : Int) = v.toInt := by omega
      generalize v.toInt.toNat = w at ev ⊢
      refine v_Pbi (P := fun _ t => j_bC s0 t (v + 1).toInt) (v_Plet (v_Plet (v_Plet (v_Pret ?_)))) (fun _ t ht => y_bkL hm hk n (v + 1) t (by omega) (by omega) ht)
      have eA : (v_w1 s (23 + 5 * w) 1 (s.1 (23 + 5 * w) 9)).1 (23 + 5 * w) 10 = s.1 (23 + 5 * w) 10 := v_w1_1.trans (if_neg (by omega))
      rw [eA]
      have eB : (v_w1 (v_w1 s (23 + 5 * w) 1 (s.1 (23 + 5 * w) 9)) (23 + 5 * w) 2 (s.1 (23 + 5 * w) 10)).1 (23 + 5 * w) 11 = s.1 (23 + 5 * w) 11 := by rw [v_w1_1, if_neg (by omega), v_w1_1, if_neg (by omega)]
      rw [eB]
      have f1 : ∀ j, 9 ≤ j → j ≤ 11 → s.1 (23 + 5 * w) j = s0.1 (23 + 5 * w) j := fun j hj _ => h.1 _ _ (by omega)
      refine ⟨j_E_tr h.1 (j_E_w1 (j_E_w1 (j_E_w1 j_E_rf (fun q => q (by omega))) (fun q => q (by omega))) (fun q => q (by omega))), fun k hk9 => ?_⟩
      have h2 := h.2 k hk9
      rw [ei]
      by_cases hz : k = w
      · subst hz
        rw [if_pos (by omega)]
        exact ⟨by rw [v_w1_1, if_neg (by omega), v_w1_1, if_neg (by omega), v_w1_1, if_pos ⟨rfl, rfl⟩, f1 9 (by decide) (by decide)], by rw [v_w1_1, if_neg (by omega), v_w1_1, if_pos ⟨rfl, rfl⟩, f1 10 (by decide) (by decide)], by rw [v_w1_1, if_pos ⟨rfl, rfl⟩, f1 11 (by decide) (by decide)]⟩
      · have g1 : (v_w1 (v_w1 (v_w1 s (23 + 5 * w) 1 (s.1 (23 + 5 * w) 9)) (23 + 5 * w) 2 (s.1 (23 + 5 * w) 10)) (23 + 5 * w) 3 (s.1 (23 + 5 * w) 11)).1 (23 + 5 * k) 1 = s.1 (23 + 5 * k) 1 := by rw [v_w1_1, if_neg (by omega), v_w1_1, if_neg (by omega), v_w1_1, if_neg (by omega)]
        have g2 : (v_w1 (v_w1 (v_w1 s (23 + 5 * w) 1 (s.1 (23 + 5 * w) 9)) (23 + 5 * w) 2 (s.1 (23 + 5 * w) 10)) (23 + 5 * w) 3 (s.1 (23 + 5 * w) 11)).1 (23 + 5 * k) 2 = s.1 (23 + 5 * k) 2 := by rw [v_w1_1, if_neg (by omega), v_w1_1, if_neg (by omega), v_w1_1, if_neg (by omega)]
        have g3 : (v_w1 (v_w1 (v_w1 s (23 + 5 * w) 1 (s.1 (23 + 5 * w) 9)) (23 + 5 * w) 2 (s.1 (23 + 5 * w) 10)) (23 + 5 * w) 3 (s.1 (23 + 5 * w) 11)).1 (23 + 5 * k) 3 = s.1 (23 + 5 * k) 3 := by rw [v_w1_1, if_neg (by omega), v_w1_1, if_neg (by omega), v_w1_1, if_neg (by omega)]
        rw [g1, g2, g3]
        by_cases hx : (k : Int) < v.toInt
        · rw [if_pos (by omega)]
          rw [if_pos hx] at h2
          exact h2
        · rw [if_neg (by omega)]
          rw [if_neg hx] at h2
          exact h2
theorem y_bkM {s0 : vS} {k : vS → Option (Int32 × vS)} {Q : Int32 → vS → Prop} (hk : ∀ t, j_E (fun a _ => ¬ (160 ≤ a ∧ a ≤ 162)) s0 t → (∀ k : Nat, if (k : Int) < (s0.1 151 36).toInt then t.1 160 k = s0.1 174 k ∧ t.1 161 k = s0.1 175 k ∧ t.1 162 k = s0.1 176 k else t.1 160 k = s0.1 160 k ∧ t.1 161 k = s0.1 161 k ∧ t.1 162 k = s0.1 162 k) → v_P (k t) Q) : ∀ (n : Nat) (v : Int32) (s : vS), 0 ≤ v.toInt → v.toInt ≤ (s0.1 151 36).toInt → j_E (fun a _ => ¬ (160 ≤ a ∧ a ≤ 162)) s0 s → (∀ k : Nat, if (k : Int) < v.toInt then s.1 160 k = s0.1 174 k ∧ s.1 161 k = s0.1 175 k ∧ s.1 162 k = s0.1 176 k else s.1 160 k = s0.1 160 k ∧ s.1 161 k = s0.1 161 k ∧ s.1 162 k = s0.1 162 k) → v_P (f_Md_back_L12 k n v s) Q
  | 0, _, _, _, _, _, _ => v_Pnone
  | n + 1, v, s, hv, hvm, hE, h => by
    show v_P (f_Md_back_L12b k (f_Md_back_L12 k n) v s) Q
    unfold f_Md_back_L12b
    rw [hE 151 36 (by omega)]
    by_cases hc : (s0.1 151 36).toInt ≤ v.toInt
    · rw [if_pos hc]
      exact hk s hE (by rw [show (s0.1 151 36).toInt = v.toInt by omega]; exact h)
    · rw [if_neg hc]
      refine v_Pif (fun hv10 => v_Pif (fun hv11 => v_Plet (v_Pif (fun _ => v_Pif (fun _ => v_Plet (v_Pif (fun _ => v_Pif (fun _ => v_Plet ?_) (fun _ => v_Pnone)) (fun _ => v_Pnone))) (fun _ => v_Pnone)) (fun _ => v_Pnone))) (fun _ => v_Pnone)) (fun _ => v_Pnone)
      have h10 := hv10.2
      have ei := v_inc (x := v) (by omega)
      have ev : ((v.toNatClampNeg : Nat) : Int) = v.toInt := by rw [v_nc]; omega
      generalize v.toNatClampNeg = w at ev ⊢
      refine y_bkM hk n (v + 1) _ (by omega) (by omega) (j_E_w1 (j_E_w1 (j_E_w1 hE (fun q => q (by decide))) (fun q => q (by decide))) (fun q => q (by decide))) (fun k => ?_)
      have h2 := h k
      rw [ei]
      have eA : (v_w1 s 160 w (s.1 174 w)).1 175 w = s.1 175 w := v_w1_1.trans (if_neg (by omega))
      have eB : (v_w1 (v_w1 s 160 w (s.1 174 w)) 161 w ((v_w1 s 160 w (s.1 174 w)).1 175 w)).1 176 w = s.1 176 w := by rw [v_w1_1, if_neg (by omega), v_w1_1, if_neg (by omega)]
      by_cases hz : k = w
      · subst hz
        rw [if_pos (by omega)]
        exact ⟨by rw [v_w1_1, if_neg (by omega), v_w1_1, if_neg (by omega), v_w1_1, if_pos ⟨rfl, rfl⟩, hE 174 k (by omega)], by rw [v_w1_1, if_neg (by omega), v_w1_1, if_pos ⟨rfl, rfl⟩, eA, hE 175 k (by omega)], by rw [v_w1_1, if_pos ⟨rfl, rfl⟩, eB, hE 176 k (by omega)]⟩
      · have f : ∀ x y z : Int32, ∀ a, 160 ≤ a → a ≤ 162 → (v_w1 (v_w1 (v_w1 s 160 w x) 161 w y) 162 w z).1 a k = s.1 a k := fun x y z a _ _ => by rw [v_w1_1, if_neg (by omega), v_w1_1, if_neg (by omega), v_w1_1, if_neg (by omega)]
        rw [f _ _ _ 160 (by decide) (by decide), f _ _ _ 161 (by decide) (by decide), f _ _ _ 162 (by decide) (by decide)]
        by_cases hx : (k : Int) < v.toInt
        · rw [if_pos (by omega)]
          rw [if_pos hx] at h2
          exact h2
        · rw [if_neg (by omega)]
          rw [if_neg hx] at h2
          exact h2
theorem y_bkW {s0 : vS} {k : vS → Option (Int32 × vS)} {Q : Int32 → vS → Prop} (hk : ∀ t, j_E (fun a _ => ¬ (163 ≤ a ∧ a ≤ 164)) s0 t → (∀ k : Nat, k < 3 → t.1 163 k = s0.1 177 k ∧ t.1 164 k = s0.1 178 k) → v_P (k t) Q) : ∀ (n : Nat) (v : Int32) (s : vS), 0 ≤ v.toInt → j_E (fun a _ => ¬ (163 ≤ a ∧ a ≤ 164)) s0 s → (∀ k : Nat, (k : Int) < v.toInt → s.1 163 k = s0.1 177 k ∧ s.1 164 k = s0.1 178 k) → v_P (f_Md_back_L64 k n v s) Q
  | 0, _, _, _, _, _ => v_Pnone
  | n + 1, v, s, hv, hE, h => by
    show v_P (f_Md_back_L64b k (f_Md_back_L64 k n) v s) Q
    unfold f_Md_back_L64b
    by_cases hc : 3 ≤ v.toInt
    · rw [if_pos hc]
      exact hk s hE (fun k hk9 => h k (by omega))
    · rw [if_neg hc]
      refine v_Pif (fun hv11 => v_Pif (fun hv10 => v_Plet (v_Pif (fun _ => v_Pif (fun _ => v_Plet ?_) (fun _ => v_Pnone)) (fun _ => v_Pnone))) (fun _ => v_Pnone)) (fun _ => v_Pnone)
      have ei := v_inc (x := v) (by omega)
      have ev : ((v.toNatClampNeg : Nat) : Int) = v.toInt := by rw [v_nc]; omega
      generalize v.toNatClampNeg = w at ev ⊢
      refine y_bkW hk n (v + 1) _ (by omega) (j_E_w1 (j_E_w1 hE (fun q => q (by decide))) (fun q => q (by decide))) (fun k hk9 => ?_)
      rw [ei] at hk9
      have eA : (v_w1 s 163 w (s.1 177 w)).1 178 w = s.1 178 w := v_w1_1.trans (if_neg (by omega))
      by_cases hz : k = w
      · subst hz
        exact ⟨by rw [v_w1_1, if_neg (by omega), v_w1_1, if_pos ⟨rfl, rfl⟩, hE 177 k (by omega)], by rw [v_w1_1, if_pos ⟨rfl, rfl⟩, eA, hE 178 k (by omega)]⟩
      · have h2 := h k (by omega)
        exact ⟨by rw [v_w1_1, if_neg (by omega), v_w1_1, if_neg (by omega)]; exact h2.1, by rw [v_w1_1, if_neg (by omega), v_w1_1, if_neg (by omega)]; exact h2.2⟩
def jp_back (a j : Nat) : Prop := (23 ≤ a ∧ a ≤ 68 ∧ a % 5 = 3 ∧ 1 ≤ j ∧ j ≤ 3) ∨ (160 ≤ a ∧ a ≤ 164) ∨ a = 10 ∨ a = 11 ∨ (a = 73 ∧ j ≤ 1) ∨ (a = 151 ∧ 23 ≤ j ∧ j ≤ 24)
theorem j_back_w {s t s2 t2 : vS} (h : j_R s t) (hs : j_E (fun a j => ¬ jp_back a j) s s2) (ht : j_E (fun a j => ¬ jp_back a j) t t2) (hl : j_law s2 t2) (hw : j_word s2 t2) (hc : j_chg s2 t2) (hn : j_ran s2) : j_R s2 t2 :=
  j_mix jp_back h hs ht (Or.inl (fun a j q z => by unfold jb_many at q; unfold jp_back at z; omega)) (Or.inl (fun a j q z => by unfold jb_tape at q; unfold jp_back at z; omega)) (Or.inl (fun a j q z => by unfold jb_num at q; unfold jp_back at z; omega)) (Or.inr hl) (Or.inl (fun a j q z => by unfold jb_rt at q; unfold jp_back at z; omega)) (Or.inl (fun a j q z => by unfold jb_textC jb_textM at q; unfold jp_back at z; omega)) (Or.inr hw) (Or.inl (fun a j q z => by unfold jb_img at q; unfold jp_back at z; omega)) (Or.inr hc) (Or.inr hn)
def j_bkC (s t : vS) : Prop := j_E (fun a j => ¬ jp_back a j) s t ∧ (t.1 73 0 = 0 ∧ t.1 73 1 = 0) ∧ (∀ k : Nat, k < 10 → if (k : Int) < (s.1 0 11).toInt then t.1 (23 + 5 * k) 1 = s.1 (23 + 5 * k) 9 ∧ t.1 (23 + 5 * k) 2 = s.1 (23 + 5 * k) 10 ∧ t.1 (23 + 5 * k) 3 = s.1 (23 + 5 * k) 11 else t.1 (23 + 5 * k) 1 = s.1 (23 + 5 * k) 1 ∧ t.1 (23 + 5 * k) 2 = s.1 (23 + 5 * k) 2 ∧ t.1 (23 + 5 * k) 3 = s.1 (23 + 5 * k) 3) ∧ ∀ w, w < 3 → t.1 10 w = s.1 12 w ∧ t.1 11 w = s.1 13 w
def j_bkM (s t : vS) : Prop := j_E (fun a j => ¬ jp_back a j) s t ∧ (t.1 151 23 = 0 ∧ t.1 151 24 = 0) ∧ (∀ k : Nat, if (k : Int) < (s.1 151 36).toInt then t.1 160 k = s.1 174 k ∧ t.1 161 k = s.1 175 k ∧ t.1 162 k = s.1 176 k else t.1 160 k = s.1 160 k ∧ t.1 161 k = s.1 161 k ∧ t.1 162 k = s.1 162 k) ∧ ∀ w, w < 3 → t.1 163 w = s.1 177 w ∧ t.1 164 w = s.1 178 w
theorem y_Ol_back (s : vS) (hm : (s.1 0 11).toInt = -1 ∨ (0 ≤ (s.1 0 11).toInt ∧ (s.1 0 11).toInt ≤ 10)) : v_P (f_Ol_back s) (fun r t => if (s.1 0 11).toInt = -1 then r = -5 ∧ t = s else r = s.1 0 11 ∧ j_bkC s t) := by
  unfold f_Ol_back
  by_cases h0 : (s.1 0 11).toInt = -1
  · rw [if_pos h0]
    exact v_Pret (by rw [if_pos h0]; exact ⟨rfl, rfl⟩)
  · rw [if_neg h0]
    refine y_bkL (by omega) (fun t ht => ?_) 4096 0 s (by decide) (by show (0 : Int) ≤ _; omega) ⟨j_E_rf, fun k _ => by rw [if_neg (by show ¬ (k : Int) < 0; omega)]; exact ⟨rfl, rfl, rfl⟩⟩
    refine v_Pbi (y_restore t) ?_
    rintro _ u ⟨u1, u2⟩
    unfold f_Ch_forget
    refine v_Pbi (P := fun _ w => w = v_w1 (v_w1 u 73 0 0) 73 1 0) (v_Plet (v_Plet (v_Pret rfl))) ?_
    rintro _ w rfl
    have hE : j_E (fun a j => ¬ (a = 73 ∧ j ≤ 1)) u (v_w1 (v_w1 u 73 0 0) 73 1 0) := j_E_w1 (j_E_w1 j_E_rf (fun q => q (by omega))) (fun q => q (by omega))
    have z0 : (v_w1 (v_w1 u 73 0 0) 73 1 0).1 73 0 = 0 := by rw [v_w1_1, if_neg (by omega), v_w1_1, if_pos ⟨rfl, rfl⟩]
    have z1 : (v_w1 (v_w1 u 73 0 0) 73 1 0).1 73 1 = 0 := by rw [v_w1_1, if_pos ⟨rfl, rfl⟩]
    generalize v_w1 (v_w1 u 73 0 0) 73 1 0 = w at hE z0 z1 ⊢
    refine v_Pret ?_
    rw [if_neg h0]
    refine ⟨by rw [hE 0 11 (by omega), u1 0 11 (by omega), ht.1 0 11 (by omega)], j_E_tr (j_E_im ht.1 (fun a j q => by unfold jp_back at q; omega)) (j_E_tr (j_E_im u1 (fun a j q => by unfold jp_back at q; omega)) (j_E_im hE (fun a j q => by unfold jp_back at q; omega))), ⟨z0, z1⟩, fun k hk9 => ?_, fun x hx => ?_⟩
    · rw [hE _ _ (by omega), hE _ _ (by omega), hE _ _ (by omega), u1 _ _ (by omega), u1 _ _ (by omega), u1 _ _ (by omega)]
      exact ht.2 k hk9
    · rw [hE _ _ (by omega), hE _ _ (by omega), (u2 x hx).1, (u2 x hx).2]
      exact ⟨ht.1 12 x (by omega), ht.1 13 x (by omega)⟩
theorem y_Md_back (s : vS) (hm : 0 ≤ (s.1 151 36).toInt) : v_P (f_Md_back s) (fun r t => if (s.1 151 35).toInt = 0 then r = -5 ∧ t = s else r = s.1 151 36 ∧ j_bkM s t) := by
  unfold f_Md_back
  by_cases h0 : (s.1 151 35).toInt = 0
  · rw [if_pos h0]
    exact v_Pret (by rw [if_pos h0]; exact ⟨rfl, rfl⟩)
  · rw [if_neg h0]
    refine y_bkM (fun t tE t2 => ?_) 4096 0 s (by decide) (by show (0 : Int) ≤ _; omega) j_E_rf (fun k => by rw [if_neg (by show ¬ (k : Int) < 0; omega)]; exact ⟨rfl, rfl, rfl⟩)
    refine y_bkW (s0 := t) (fun u uE u2 => ?_) 4096 0 t (by decide) j_E_rf (fun k hk => absurd hk (by show ¬ (k : Int) < 0; omega))
    refine v_Plet (v_Plet ?_)
    have hE : j_E (fun a j => ¬ (a = 151 ∧ 23 ≤ j ∧ j ≤ 24)) u (v_w1 (v_w1 u 151 23 0) 151 24 0) := j_E_w1 (j_E_w1 j_E_rf (fun q => q (by omega))) (fun q => q (by omega))
    have z0 : (v_w1 (v_w1 u 151 23 0) 151 24 0).1 151 23 = 0 := by rw [v_w1_1, if_neg (by omega), v_w1_1, if_pos ⟨rfl, rfl⟩]
    have z1 : (v_w1 (v_w1 u 151 23 0) 151 24 0).1 151 24 = 0 := by rw [v_w1_1, if_pos ⟨rfl, rfl⟩]
    generalize v_w1 (v_w1 u 151 23 0) 151 24 0 = w at hE z0 z1 ⊢
    refine v_Pret ?_
    rw [if_neg h0]
    refine ⟨by rw [hE 151 36 (by omega), uE 151 36 (by omega), tE 151 36 (by omega)], j_E_tr (j_E_im tE (fun a j q => by unfold jp_back at q; omega)) (j_E_tr (j_E_im uE (fun a j q => by unfold jp_back at q; omega)) (j_E_im hE (fun a j q => by unfold jp_back at q; omega))), ⟨z0, z1⟩, fun k => ?_, fun x hx => ?_⟩
    · rw [hE 160 k (by omega), hE 161 k (by omega), hE 162 k (by omega), uE 160 k (by omega), uE 161 k (by omega), uE 162 k (by omega)]
      exact t2 k
    · rw [hE 163 x (by omega), hE 164 x (by omega), (u2 x hx).1, (u2 x hx).2]
      exact ⟨tE 177 x (by omega), tE 178 x (by omega)⟩
theorem j_back {s t : vS} (h : j_R s t) (hR : v_RI t) : j_S (f_Ol_back s) (f_Md_back t) := by
  have hm := hR.1.1
  have h36 := hR.2.2.2.2.1
  have em : s.1 8 1 = t.1 151 14 := h.1
  have hi := h.2.2.2.2.2.2.2.1
  have hrn := h.2.2.2.2.2.2.2.2.2
  refine j_SP (y_Ol_back s (by rcases hi with ⟨z, -⟩ | ⟨-, -, z, -⟩; exact Or.inl z; exact Or.inr ⟨z.1, by rw [em] at z; omega⟩)) (y_Md_back t h36.1) ?_
  intro r1 s1 r2 t1 p1 p2
  rcases hi with ⟨z1, z2⟩ | ⟨z1, z2, z3, z4, z5⟩
  · rw [if_pos z1] at p1
    rw [if_pos z2] at p2
    obtain ⟨rfl, rfl⟩ := p1
    obtain ⟨rfl, rfl⟩ := p2
    exact ⟨h, rfl⟩
  · rw [if_neg (by omega)] at p1
    rw [if_neg z1] at p2
    obtain ⟨rfl, a1, ⟨a2, a3⟩, a4, a5⟩ := p1
    obtain ⟨rfl, b1, ⟨b2, b3⟩, b4, b5⟩ := p2
    refine ⟨j_back_w h a1 b1 (fun k hk hk9 => ?_) (fun w hw => ?_) ⟨by rw [a2, b2], by rw [a3, b2, b3]; rfl, fun j hj => ?_⟩ ⟨fun k hk hk9 => ?_, ?_, fun k hk hk9 => ?_, fun j hj => ?_⟩, z2⟩
    · rw [a1 8 1 (by unfold jp_back; omega)] at hk
      have c1 := a4 k hk9
      have c2 := b4 k
      rw [← z2] at c2
      by_cases hx : (k : Int) < (s.1 0 11).toInt
      · rw [if_pos hx] at c1 c2
        rw [c1.1, c1.2.1, c1.2.2, c2.1, c2.2.1, c2.2.2]
        exact z4 k hx hk9
      · rw [if_neg hx] at c1 c2
        rw [c1.1, c1.2.1, c1.2.2, c2.1, c2.2.1, c2.2.2]
        exact h.2.2.2.1 k hk hk9
    · rw [(a5 w hw).1, (a5 w hw).2, (b5 w hw).1, (b5 w hw).2]
      exact z5 w hw
    · rw [a3] at hj
      exact absurd hj (by show ¬ (j : Int) < 0; omega)
    · rw [a1 8 1 (by unfold jp_back; omega)] at hk
      have c1 := a4 k hk9
      by_cases hx : (k : Int) < (s.1 0 11).toInt
      · rw [if_pos hx] at c1
        rw [c1.1, c1.2.1, c1.2.2]
        exact hrn.2.2.1 k hx hk9
      · rw [if_neg hx] at c1
        rw [c1.1, c1.2.1, c1.2.2]
        exact hrn.1 k hk hk9
    · rw [a1 8 2 (by unfold jp_back; omega), a1 8 3 (by unfold jp_back; omega)]
      exact hrn.2.1
    · rw [a1 0 11 (by unfold jp_back; omega)] at hk
      rw [a1 _ 9 (by unfold jp_back; omega), a1 _ 10 (by unfold jp_back; omega), a1 _ 11 (by unfold jp_back; omega)]
      exact hrn.2.2.1 k hk hk9
    · rw [a3] at hj
      exact absurd hj (by show ¬ (j : Int) < 0; omega)
