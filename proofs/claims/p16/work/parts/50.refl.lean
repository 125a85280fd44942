/-! the reference: who speaks, who stands, who holds -/
theorem m_125 {b v : Int32} (hb : 0 ≤ b.toInt ∧ b.toInt ≤ 10) (hv : 0 ≤ v.toInt ∧ v.toInt ≤ 200) : ((125 : Int32) * b + v).toInt = 125 * b.toInt + v.toInt := by
  have e1 : ((125 : Int32) * b).toInt = 125 * b.toInt := i32_mul (x := 125) (show -2 ^ 31 ≤ (125 : Int) * b.toInt by omega) (show (125 : Int) * b.toInt < 2 ^ 31 by omega)
  rw [i32_add (by omega) (by omega), e1]
theorem m_1250 {v : Int32} (hv : 0 ≤ v.toInt ∧ v.toInt ≤ 200) : ((1250 : Int32) + v).toInt = 1250 + v.toInt := i32_add (x := 1250) (show -2 ^ 31 ≤ (1250 : Int) + v.toInt by omega) (show (1250 : Int) + v.toInt < 2 ^ 31 by omega)
theorem m_doesSpeakL {s0 : vS} {b c : Int32} {k : vS → Option (Int32 × vS)} {Q : Int32 → vS → Prop} (hk : ∀ t, v_F v_sd s0 t → v_T (k t) Q) : ∀ (m n : Nat) (v : Int32) (s : vS), v.toInt + m = 3 → 0 ≤ v.toInt → v_F v_sd s0 s → m < n → v_T (f_Md_doesSpeak_L2 b c k n v s) Q := by
  intro m
  induction m with
  | zero =>
    intro n v s hm hv h0 hn
    obtain ⟨n, rfl⟩ : ∃ q, n = q + 1 := ⟨n - 1, by omega⟩
    show v_T (f_Md_doesSpeak_L2b b c k (f_Md_doesSpeak_L2 b c k n) v s) _
    unfold f_Md_doesSpeak_L2b
    rw [if_pos (by omega)]
    exact hk s h0
  | succ m ih =>
    intro n v s hm hv h0 hn
    obtain ⟨n, rfl⟩ : ∃ q, n = q + 1 := ⟨n - 1, by omega⟩
    show v_T (f_Md_doesSpeak_L2b b c k (f_Md_doesSpeak_L2 b c k n) v s) _
    unfold f_Md_doesSpeak_L2b
    have hv1 : (v + 1).toInt = v.toInt + 1 := v_inc (by omega)
    rw [if_neg (by omega)]
    refine v_Tbi (m_meaning v s ⟨hv, by omega⟩) ?_
    rintro _ _ rfl
    refine v_Tbi (m_wordIn ..) ?_
    rintro _ _ rfl
    rw [if_pos ⟨hv, by omega⟩]
    exact v_FTw h0 (by unfold v_sd; omega) (fun t ht => ih n _ t (by omega) (by omega) ht (by omega))
theorem m_doesSpeak {s : vS} {b c : Int32} {p : Nat} {acc : List gL} (hb : b.toInt = p) (hp : p ≤ 10) (h : m_text s p acc) : v_T (f_Md_doesSpeak b c s) (fun r t => v_F v_sd s t ∧ (r = 0 ∨ r = 1)) := by
  unfold f_Md_doesSpeak
  refine m_doesSpeakL (s0 := s) (fun t ht => ?_) 3 4096 0 s (by decide) (by decide) v_F_rf (by decide)
  refine v_Tck ⟨by omega, by omega⟩ ?_
  refine v_FTw ht (by unfold v_sd; omega) (fun t ht => v_FTw ht (by unfold v_sd; omega) (fun t ht => v_FTw ht (by unfold v_sd; omega) (fun t ht => ?_)))
  have h2 := m_text_eq h (t := t) (ht 155 p (by unfold v_sd; omega)).1 (fun j _ _ => ⟨(ht 153 j (by unfold v_sd; omega)).1, (ht 154 j (by unfold v_sd; omega)).1⟩) (fun j _ _ => ⟨(ht 156 j (by unfold v_sd; omega)).1, (ht 157 j (by unfold v_sd; omega)).1⟩)
  exact v_FTb ht (m_gives hb hp h2) (fun _ t ht => v_Tif (fun _ => v_Tret ⟨ht, Or.inl rfl⟩) (fun _ => v_Tret ⟨ht, Or.inr rfl⟩))
theorem m_speaksQ {s0 s : vS} (h : v_RQ s0) (h0 : v_F v_sd s0 s) {b : Int32} (hb : 0 ≤ b.toInt ∧ b.toInt < (s0.1 151 14).toInt) (c : Int32) : v_T (f_Md_doesSpeak b c s) (fun r t => v_F v_sd s t ∧ (r = 0 ∨ r = 1)) := by
  have h1 := v_RQ_F h h0
  have hl := h.1
  obtain ⟨acc, ha⟩ := h1.2.2 b.toInt.toNat (by rw [v_lw h0]; omega)
  exact m_doesSpeak (p := b.toInt.toNat) (by omega) (by omega) ha
theorem m_fsL19 {s0 : vS} (hq : v_RQ s0) {b : Int32} (hb : 0 ≤ b.toInt ∧ b.toInt < (s0.1 151 14).toInt) {k : vS → Option (Unit × vS)} {Q : Unit → vS → Prop} (hk : ∀ t, v_F v_sd s0 t → v_T (k t) Q) : ∀ (m n : Nat) (v : Int32) (s : vS), v.toInt + m = 125 → 0 ≤ v.toInt → v_F v_sd s0 s → m < n → v_T (f_Md_findSpeaks_L19 b k n v s) Q := by
  have hl := hq.1
  intro m
  induction m with
  | zero =>
    intro n v s hm hv h0 hn
    obtain ⟨n, rfl⟩ : ∃ q, n = q + 1 := ⟨n - 1, by omega⟩
    show v_T (f_Md_findSpeaks_L19b b k (f_Md_findSpeaks_L19 b k n) v s) _
    unfold f_Md_findSpeaks_L19b
    rw [if_pos (by omega)]
    exact hk s h0
  | succ m ih =>
    intro n v s hm hv h0 hn
    obtain ⟨n, rfl⟩ : ∃ q, n = q + 1 := ⟨n - 1, by omega⟩
    show v_T (f_Md_findSpeaks_L19b b k (f_Md_findSpeaks_L19 b k n) v s) _
    unfold f_Md_findSpeaks_L19b
    have hv1 : (v + 1).toInt = v.toInt + 1 := v_inc (by omega)
    have e := m_125 (b := b) (v := v) ⟨by omega, by omega⟩ ⟨by omega, by omega⟩
    have hi : v_in ((125 : Int32) * b + v) 1375 := ⟨by omega, by omega⟩
    have hb1 : v_in b 11 := ⟨by omega, by omega⟩
    rw [if_neg (by omega)]
    refine v_FTb2 h0 (m_speaksQ hq h0 hb _) (fun r t ht _ => ?_)
    rw [if_pos hi]
    refine v_FTw ht (by unfold v_sd; omega) (fun t ht => ?_)
    rw [if_pos hi]
    refine v_Tif (fun _ => ih n _ t (by omega) (by omega) ht (by omega)) (fun _ => ?_)
    rw [if_pos hb1, if_pos hb1]
    exact v_FTw ht (by unfold v_sd; omega) (fun t ht => ih n _ t (by omega) (by omega) ht (by omega))
theorem m_fsL2 {s0 : vS} (hq : v_RQ s0) {k : vS → Option (Unit × vS)} {Q : Unit → vS → Prop} (hk : ∀ t, v_F v_sd s0 t → v_T (k t) Q) : ∀ (m n : Nat) (v : Int32) (s : vS), (s0.1 151 14).toInt ≤ v.toInt + m → 0 ≤ v.toInt → v_F v_sd s0 s → m < n → v_T (f_Md_findSpeaks_L2 k n v s) Q := by
  have hl := hq.1
  intro m
  induction m with
  | zero =>
    intro n v s hm hv h0 hn
    obtain ⟨n, rfl⟩ : ∃ q, n = q + 1 := ⟨n - 1, by omega⟩
    show v_T (f_Md_findSpeaks_L2b k (f_Md_findSpeaks_L2 k n) v s) _
    unfold f_Md_findSpeaks_L2b
    rw [v_lw h0, if_pos (by omega)]
    exact hk s h0
  | succ m ih =>
    intro n v s hm hv h0 hn
    obtain ⟨n, rfl⟩ : ∃ q, n = q + 1 := ⟨n - 1, by omega⟩
    show v_T (f_Md_findSpeaks_L2b k (f_Md_findSpeaks_L2 k n) v s) _
    unfold f_Md_findSpeaks_L2b
    rw [v_lw h0]
    refine v_Tif (fun _ => hk s h0) (fun hc => ?_)
    have hv1 : (v + 1).toInt = v.toInt + 1 := v_inc (by omega)
    rw [if_pos ⟨by omega, by omega⟩]
    refine v_FTw h0 (by unfold v_sd; omega) (fun t ht => ?_)
    exact m_fsL19 hq ⟨by omega, by omega⟩ (fun t ht => ih n _ t (by omega) (by omega) ht (by omega)) 125 4096 0 t (by decide) (by decide) ht (by decide)
theorem m_findSpeaks (s : vS) (h : v_RQ s) : v_T (f_Md_findSpeaks s) (fun _ t => v_F v_sd s t) := by
  unfold f_Md_findSpeaks
  exact m_fsL2 h (fun t ht => v_Tret ht) 10 4096 0 s (by have := h.1; show _ ≤ (0 : Int) + 10; omega) (by decide) v_F_rf (by decide)
theorem m_stL12 {s0 : vS} (hl : 0 ≤ (s0.1 151 14).toInt ∧ (s0.1 151 14).toInt ≤ 10) {k : vS → Option (Unit × vS)} {Q : Unit → vS → Prop} (hk : ∀ t, v_F v_sd s0 t → v_T (k t) Q) : ∀ (m n : Nat) (v : Int32) (s : vS), (s0.1 151 14).toInt ≤ v.toInt + m → 0 ≤ v.toInt → v_F v_sd s0 s → m < n → v_T (f_Md_findStands_L12 k n v s) Q := by
  intro m
  induction m with
  | zero =>
    intro n v s hm hv h0 hn
    obtain ⟨n, rfl⟩ : ∃ q, n = q + 1 := ⟨n - 1, by omega⟩
    show v_T (f_Md_findStands_L12b k (f_Md_findStands_L12 k n) v s) _
    unfold f_Md_findStands_L12b
    rw [v_lw h0, if_pos (by omega)]
    exact hk s h0
  | succ m ih =>
    intro n v s hm hv h0 hn
    obtain ⟨n, rfl⟩ : ∃ q, n = q + 1 := ⟨n - 1, by omega⟩
    show v_T (f_Md_findStands_L12b k (f_Md_findStands_L12 k n) v s) _
    unfold f_Md_findStands_L12b
    rw [v_lw h0]
    refine v_Tif (fun _ => hk s h0) (fun hc => ?_)
    have hv1 : (v + 1).toInt = v.toInt + 1 := v_inc (by omega)
    rw [if_pos ⟨by omega, by omega⟩]
    exact v_FTw h0 (by unfold v_sd; omega) (fun t ht => ih n _ t (by omega) (by omega) ht (by omega))
/-- the oldest of those not yet taken: there is one as long as fewer are taken than there are -/
theorem m_stL53 {s0 : vS} (hl : 0 ≤ (s0.1 151 14).toInt ∧ (s0.1 151 14).toInt ≤ 10) {x y : Int32} {k : Int32 → vS → Option (Unit × vS)} {Q : Unit → vS → Prop} (hx : b_cnt x (s0.1 151 14).toInt.toNat < (s0.1 151 14).toInt.toNat) (hk : ∀ w t, 0 ≤ w.toInt ∧ w.toInt < (s0.1 151 14).toInt → v_F v_sd s0 t → v_T (k w t) Q) : ∀ (m n : Nat) (u v : Int32) (s : vS), (s0.1 151 14).toInt ≤ v.toInt + m → 0 ≤ v.toInt → v.toInt ≤ (s0.1 151 14).toInt → u.toInt < (s0.1 151 14).toInt → (u.toInt < 0 → ∀ i, i < v.toInt.toNat → bt x i = true) → v_F v_sd s0 s → m < n → v_T (f_Md_findStands_L53 x y k n u v s) Q := by
  have hend : ∀ (u v : Int32) (s : vS), (s0.1 151 14).toInt ≤ v.toInt → v.toInt ≤ (s0.1 151 14).toInt → u.toInt < (s0.1 151 14).toInt → (u.toInt < 0 → ∀ i, i < v.toInt.toNat → bt x i = true) → v_F v_sd s0 s → v_T (k u s) Q := by
    intro u v s h1 h1b h2 h3 h0
    refine hk u s ⟨?_, h2⟩ h0
    by_cases hu : u.toInt < 0
    · have h4 := b_cnt_all (x := x) v.toInt.toNat (h3 hu)
      have h5 : v.toInt = (s0.1 151 14).toInt := by omega
      rw [h5] at h4
      omega
    · omega
  intro m
  induction m with
  | zero =>
    intro n u v s hm hv hv2 hu h3 h0 hn
    obtain ⟨n, rfl⟩ : ∃ q, n = q + 1 := ⟨n - 1, by omega⟩
    show v_T (f_Md_findStands_L53b x y k (f_Md_findStands_L53 x y k n) u v s) _
    unfold f_Md_findStands_L53b
    rw [v_lw h0, if_pos (by omega)]
    exact hend u v s (by omega) hv2 hu h3 h0
  | succ m ih =>
    intro n u v s hm hv hv2 hu h3 h0 hn
    obtain ⟨n, rfl⟩ : ∃ q, n = q + 1 := ⟨n - 1, by omega⟩
    show v_T (f_Md_findStands_L53b x y k (f_Md_findStands_L53 x y k n) u v s) _
    unfold f_Md_findStands_L53b
    rw [v_lw h0]
    refine v_Tif (fun hc => hend u v s hc hv2 hu h3 h0) (fun hc => ?_)
    have hv1 : (v + 1).toInt = v.toInt + 1 := v_inc (by omega)
    have hvn : (v + 1).toInt.toNat = v.toInt.toNat + 1 := by omega
    have hvo : v = Int32.ofNat v.toInt.toNat := v_of hv
    have hbit : ((x >>> (v &&& 31)) &&& (1 : Int32)).toInt = 0 ↔ bt x v.toInt.toNat = false := by
      have h := b_get (x := x) (n := v.toInt.toNat) (by omega)
      rw [← hvo] at h
      exact h
    refine v_Tif (fun hb => ?_) (fun hb => ?_)
    · refine v_Tif (fun hu0 => ih n _ _ s (by omega) (by omega) (by omega) (by omega) (fun z => by omega) h0 (by omega)) (fun hu0 => ?_)
      refine v_Tbi (m_isOlder v u s ⟨by omega, by omega⟩ ⟨by omega, by omega⟩) ?_
      rintro _ _ ⟨rfl, _⟩
      exact v_Tif (fun _ => ih n _ _ _ (by omega) (by omega) (by omega) hu (fun z => by omega) h0 (by omega)) (fun _ => ih n _ _ _ (by omega) (by omega) (by omega) (by omega) (fun z => by omega) h0 (by omega))
    · refine ih n _ _ s (by omega) (by omega) (by omega) hu (fun z i hi => ?_) h0 (by omega)
      rw [hvn] at hi
      by_cases he : i = v.toInt.toNat
      · rw [he]
        cases hq : bt x v.toInt.toNat with
        | true => rfl
        | false => exact absurd (hbit.mpr hq) hb
      · exact h3 z i (by omega)
theorem m_stL115 {s0 : vS} (hl : 0 ≤ (s0.1 151 14).toInt ∧ (s0.1 151 14).toInt ≤ 10) {x y w : Int32} (hw : v_in w 11) {k : Int32 → vS → Option (Unit × vS)} {Q : Unit → vS → Prop} (hk : ∀ r t, v_F v_sd s0 t → v_T (k r t) Q) : ∀ (m n : Nat) (u v : Int32) (s : vS), (s0.1 151 14).toInt ≤ v.toInt + m → 0 ≤ v.toInt → v_F v_sd s0 s → m < n → v_T (f_Md_findStands_L115 x y w k n u v s) Q := by
  intro m
  induction m with
  | zero =>
    intro n u v s hm hv h0 hn
    obtain ⟨n, rfl⟩ : ∃ q, n = q + 1 := ⟨n - 1, by omega⟩
    show v_T (f_Md_findStands_L115b x y w k (f_Md_findStands_L115 x y w k n) u v s) _
    unfold f_Md_findStands_L115b
    rw [v_lw h0, if_pos (by omega)]
    exact hk u s h0
  | succ m ih =>
    intro n u v s hm hv h0 hn
    obtain ⟨n, rfl⟩ : ∃ q, n = q + 1 := ⟨n - 1, by omega⟩
    show v_T (f_Md_findStands_L115b x y w k (f_Md_findStands_L115 x y w k n) u v s) _
    unfold f_Md_findStands_L115b
    rw [v_lw h0]
    refine v_Tif (fun _ => hk u s h0) (fun hc => ?_)
    have hv1 : (v + 1).toInt = v.toInt + 1 := v_inc (by omega)
    have hvi : v_in v 11 := ⟨by omega, by omega⟩
    have hgo : ∀ u, v_T (f_Md_findStands_L115 x y w k n u (v + 1) s) Q := fun u => ih n u _ s (by omega) (by omega) h0 (by omega)
    rw [if_pos hvi]
    refine v_Tif (fun _ => hgo _) (fun _ => ?_)
    rw [if_pos hvi]
    refine v_Tif (fun _ => ?_) (fun _ => hgo _)
    refine v_Tbi (m_isOlder v w s hvi hw) ?_
    rintro _ _ ⟨rfl, _⟩
    exact v_Tif (fun _ => hgo _) (fun _ => hgo _)
theorem m_stL38 {s0 : vS} (hl : 0 ≤ (s0.1 151 14).toInt ∧ (s0.1 151 14).toInt ≤ 10) {k : vS → Option (Unit × vS)} {Q : Unit → vS → Prop} (hk : ∀ t, v_F v_sd s0 t → v_T (k t) Q) : ∀ (m n : Nat) (x v : Int32) (s : vS), (s0.1 151 14).toInt ≤ v.toInt + m → 0 ≤ v.toInt → b_cnt x (s0.1 151 14).toInt.toNat ≤ v.toInt.toNat → v_F v_sd s0 s → m < n → v_T (f_Md_findStands_L38 k n x v s) Q := by
  intro m
  induction m with
  | zero =>
    intro n x v s hm hv hx h0 hn
    obtain ⟨n, rfl⟩ : ∃ q, n = q + 1 := ⟨n - 1, by omega⟩
    show v_T (f_Md_findStands_L38b k (f_Md_findStands_L38 k n) x v s) _
    unfold f_Md_findStands_L38b
    rw [v_lw h0, if_pos (by omega)]
    exact hk s h0
  | succ m ih =>
    intro n x v s hm hv hx h0 hn
    obtain ⟨n, rfl⟩ : ∃ q, n = q + 1 := ⟨n - 1, by omega⟩
    show v_T (f_Md_findStands_L38b k (f_Md_findStands_L38 k n) x v s) _
    unfold f_Md_findStands_L38b
    rw [v_lw h0]
    refine v_Tif (fun _ => hk s h0) (fun hc => ?_)
    have hv1 : (v + 1).toInt = v.toInt + 1 := v_inc (by omega)
    have hvn : (v + 1).toInt.toNat = v.toInt.toNat + 1 := by omega
    refine m_stL53 hl (by omega) (fun w t hw ht => ?_) 10 4096 (-1) 0 s (by show _ ≤ (0 : Int) + 10; omega) (by decide) (by show (0 : Int) ≤ _; omega) (by show (-1 : Int) < _; omega) (fun _ i hi => absurd hi (Nat.not_lt_zero i)) h0 (by decide)
    have hwi : v_in w 11 := ⟨by omega, by omega⟩
    refine v_Tbi (m_isIn w t hwi) ?_
    rintro r _ ⟨rfl, _⟩
    refine m_stL115 hl hwi (fun r2 t2 ht2 => ?_) 10 4096 r 0 _ (by show _ ≤ (0 : Int) + 10; omega) (by decide) ht (by decide)
    rw [if_pos hwi]
    refine v_FTw ht2 (by unfold v_sd; omega) (fun t3 ht3 => ih n _ _ t3 (by omega) (by omega) ?_ ht3 (by omega))
    have hwo : w = Int32.ofNat w.toInt.toNat := v_of hw.1
    have h1 := b_cnt_le (x := x) (y := x ||| ((1 : Int32) <<< (w &&& 31))) (k := w.toInt.toNat) (s0.1 151 14).toInt.toNat (fun i hi => by
      have h2 := b_set (x := x) (n := w.toInt.toNat) (i := i) (by omega) (by omega)
      rw [← hwo] at h2
      exact h2)
    rw [hvn]
    have h3 : (if w.toInt.toNat < (s0.1 151 14).toInt.toNat then 1 else 0) ≤ 1 := by
      by_cases h : w.toInt.toNat < (s0.1 151 14).toInt.toNat
      · rw [if_pos h]; omega
      · rw [if_neg h]; omega
    omega
theorem m_findStands (b c : Int32) (s : vS) (h : v_RQ s) : v_T (f_Md_findStands b c s) (fun _ t => v_F v_sd s t) := by
  have hl := h.1
  unfold f_Md_findStands
  refine v_FTw (P := v_sd) v_F_rf (by unfold v_sd; omega) (fun t ht => v_FTw ht (by unfold v_sd; omega) (fun t ht => ?_))
  refine m_stL12 (s0 := s) hl (fun t ht => ?_) 10 4096 0 t (by show _ ≤ (0 : Int) + 10; omega) (by decide) ht (by decide)
  exact m_stL38 (s0 := s) hl (fun t ht => v_Tret ht) 10 4096 0 0 t (by show _ ≤ (0 : Int) + 10; omega) (by decide) (by rw [b_cnt0]; omega) ht (by decide)
theorem m_findAll (s : vS) (h : v_RQ s) : v_T (f_Md_findAll s) (fun _ t => v_F v_sd s t) := by
  unfold f_Md_findAll
  refine v_FTb v_F_rf (m_findSpeaks s h) (fun _ t ht => ?_)
  exact v_FTb ht (m_findStands _ _ t (v_RQ_F h ht)) (fun _ t ht => v_Tret ht)
theorem m_holderL {s : vS} (hl : 0 ≤ (s.1 151 14).toInt ∧ (s.1 151 14).toInt ≤ 10) {c y : Int32} (hc : 0 ≤ c.toInt ∧ c.toInt < 125) : ∀ (m n : Nat) (u v : Int32), (s.1 151 14).toInt ≤ v.toInt + m → 0 ≤ v.toInt → u.toInt < (s.1 151 14).toInt → m < n → v_T (f_Md_holder_L5 c y (fun w1 s2 => (some (w1, s2))) n u v s) (fun r t => t = s ∧ r.toInt < (s.1 151 14).toInt) := by
  intro m
  induction m with
  | zero =>
    intro n u v hm hv hu hn
    obtain ⟨n, rfl⟩ : ∃ q, n = q + 1 := ⟨n - 1, by omega⟩
    show v_T (f_Md_holder_L5b c y (fun w1 s2 => (some (w1, s2))) (f_Md_holder_L5 c y (fun w1 s2 => (some (w1, s2))) n) u v s) _
    unfold f_Md_holder_L5b
    rw [if_pos (by omega)]
    exact v_Tret ⟨rfl, hu⟩
  | succ m ih =>
    intro n u v hm hv hu hn
    obtain ⟨n, rfl⟩ : ∃ q, n = q + 1 := ⟨n - 1, by omega⟩
    show v_T (f_Md_holder_L5b c y (fun w1 s2 => (some (w1, s2))) (f_Md_holder_L5 c y (fun w1 s2 => (some (w1, s2))) n) u v s) _
    unfold f_Md_holder_L5b
    refine v_Tif (fun _ => v_Tret ⟨rfl, hu⟩) (fun hcn => ?_)
    have hv1 : (v + 1).toInt = v.toInt + 1 := v_inc (by omega)
    have e := m_125 (b := v) (v := c) ⟨by omega, by omega⟩ ⟨by omega, by omega⟩
    have hgo : ∀ u : Int32, u.toInt < (s.1 151 14).toInt → v_T (f_Md_holder_L5 c y (fun w1 s2 => (some (w1, s2))) n u (v + 1) s) (fun r t => t = s ∧ r.toInt < (s.1 151 14).toInt) := fun u hu => ih n u _ (by omega) (by omega) hu (by omega)
    refine v_Tck ⟨by omega, by omega⟩ (v_Tif (fun _ => hgo u hu) (fun _ => v_Tck ⟨by omega, by omega⟩ (v_Tif (fun _ => hgo u hu) (fun _ => v_Tif (fun _ => hgo v (by omega)) (fun hu0 => ?_)))))
    refine v_Tbi (m_isAhead v u y s ⟨by omega, by omega⟩ ⟨by omega, by omega⟩) ?_
    rintro _ _ ⟨rfl, _⟩
    exact v_Tif (fun _ => hgo u hu) (fun _ => hgo v (by omega))
theorem m_holder (c y : Int32) (s : vS) (hl : 0 ≤ (s.1 151 14).toInt ∧ (s.1 151 14).toInt ≤ 10) (hc : 0 ≤ c.toInt ∧ c.toInt < 125) : v_T (f_Md_holder c y s) (fun r t => t = s ∧ r.toInt < (s.1 151 14).toInt) := by
  unfold f_Md_holder
  exact m_holderL hl hc 10 4096 (-1) 0 (by show _ ≤ (0 : Int) + 10; omega) (by decide) (by show (-1 : Int) < _; omega) (by decide)
theorem m_verdictIn (c y : Int32) (s : vS) (hl : 0 ≤ (s.1 151 14).toInt ∧ (s.1 151 14).toInt ≤ 10) (hc : 0 ≤ c.toInt ∧ c.toInt < 125) : v_T (f_Md_verdictIn c y s) (fun _ t => t = s) := by
  unfold f_Md_verdictIn
  refine v_Tbi (m_holder c y s hl hc) ?_
  rintro r _ ⟨rfl, hr⟩
  exact v_Tif (fun _ => v_Tck ⟨by omega, by omega⟩ (v_Tret rfl)) (fun _ => v_Tret rfl)
