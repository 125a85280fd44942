/-! put and shift touch no word of the shelves' own; keep and row, alike on both sides -/
theorem v_Plet {α : Type} {e : vS} {k : vS → Option (α × vS)} {Q : α → vS → Prop} (h : v_P (k e) Q) : v_P (v_let e k) Q := h
theorem p_Ol_put (b c : Int32) (d : Int64) (s : vS) : v_P (f_Ol_put b c d s) (fun _ t => t.1 = s.1) := by
  unfold f_Ol_put
  refine v_Pbi (v_PT (n_refEl b c s)) ?_
  rintro r s ⟨rfl, hr⟩
  refine v_Pif (fun hz => ?_) (fun _ => v_Pret rfl)
  refine v_Pbi (v_PT (n_shAt b s (hr hz))) ?_
  rintro r2 s ⟨rfl, -, -⟩
  refine v_Pif (fun _ => ?_) (fun _ => v_Pnone)
  refine v_Pbi (P := fun _ t => t.1 = s.1) ?_ (fun _ t ht => v_Pret ht)
  unfold f_Sh_set
  refine v_Pif (fun _ => v_Pret rfl) (fun _ => v_Pif (fun _ => v_Pret rfl) (fun _ => v_Pif (fun _ => v_Pret rfl) (fun _ => ?_)))
  refine v_Pbi (v_PT (n_cut ..)) ?_
  rintro _ s rfl
  exact v_Pif (fun _ => v_Plet (v_Pret rfl)) (fun _ => v_Pnone)
theorem p_copyFrom (a b : Nat) (c d e : Int32) (s : vS) : v_P (f_Sh_copyFrom a b c d e s) (fun _ t => t.1 = s.1) := by
  unfold f_Sh_copyFrom
  refine v_Pbi (v_PT (n_hasPlaces ..)) ?_
  rintro _ s ⟨rfl, -⟩
  refine v_Pif (fun _ => v_Pret rfl) (fun _ => ?_)
  refine v_Pbi (v_PT (n_hasPlaces ..)) ?_
  rintro _ s ⟨rfl, -⟩
  refine v_Pif (fun _ => v_Pret rfl) (fun _ => ?_)
  exact v_Pif (fun _ => v_Plet (v_Pret rfl)) (fun _ => v_Pnone)
theorem p_Ol_shift (b c d e f : Int32) (s : vS) : v_P (f_Ol_shift b c d e f s) (fun _ t => t.1 = s.1) := by
  unfold f_Ol_shift
  refine v_Pbi (v_PT (n_isShelf2 b s)) ?_
  rintro r s ⟨rfl, hr⟩
  refine v_Pif (fun _ => v_Pret rfl) (fun hn => ?_)
  have hb := hr.resolve_left hn
  refine v_Pbi (v_PT (n_isShelf2 d s)) ?_
  rintro r s ⟨rfl, hr⟩
  refine v_Pif (fun _ => v_Pret rfl) (fun hn2 => ?_)
  have hd := hr.resolve_left hn2
  refine v_Pbi (v_PT (n_shAt b s hb)) ?_
  rintro r1 s ⟨rfl, -, -⟩
  refine v_Pif (fun _ => ?_) (fun _ => v_Pnone)
  refine v_Pbi (v_PT (n_shAt d s hd)) ?_
  rintro r2 s ⟨rfl, -, -⟩
  refine v_Pif (fun _ => ?_) (fun _ => v_Pnone)
  refine v_Pbi (v_PT (n_isBare ..)) ?_
  rintro _ s rfl
  refine v_Pif (fun _ => ?_) (fun _ => v_Pret rfl)
  refine v_Pbi (v_PT (n_isBare ..)) ?_
  rintro _ s rfl
  refine v_Pif (fun _ => ?_) (fun _ => v_Pret rfl)
  refine v_Pbi (v_PT (n_isRow ..)) ?_
  rintro _ s rfl
  refine v_Pif (fun _ => v_Pret rfl) (fun _ => v_Pif (fun _ => ?_) (fun _ => v_Pret rfl))
  refine v_Pbi (v_PT (n_hasPlaces ..)) ?_
  rintro _ s ⟨rfl, -⟩
  refine v_Pif (fun _ => v_Pret rfl) (fun _ => ?_)
  refine v_Pbi (v_PT (n_hasPlaces ..)) ?_
  rintro _ s ⟨rfl, -⟩
  refine v_Pif (fun _ => v_Pret rfl) (fun _ => ?_)
  exact v_Pbi (p_copyFrom r2 r1 c e f s) (fun _ t ht => v_Pret ht)
theorem p_Md_put (b c : Int32) (d : Int64) (s : vS) (h : v_RI s) : v_P (f_Md_put b c d s) (fun _ t => t.1 = s.1) := by
  unfold f_Md_put
  refine v_Pbi (v_PT (m_why b c s h.1)) ?_
  rintro r s ⟨rfl, -⟩
  repeat' first
    | ((with_reducible refine v_Pret ?_); (focus exact rfl))
    | with_reducible exact v_Pnone
    | with_reducible refine v_Pif (fun _ => ?_) (fun _ => ?_)
    | with_reducible refine v_Plet ?_
theorem p_L150 {s0 : vS} {p3 p4 p5 : Int32} {k : vS → Option (Int32 × vS)} {Q : Int32 → vS → Prop} (hk : ∀ t : vS, t.1 = s0.1 → v_P (k t) Q) : ∀ (n : Nat) (v : Int32) (s : vS), s.1 = s0.1 → v_P (f_Md_shift_L150 p3 p4 p5 k n v s) Q
  | 0, v, s, _ => v_Pnone
  | n + 1, v, s, hs => by
    show v_P (f_Md_shift_L150b p3 p4 p5 k (f_Md_shift_L150 p3 p4 p5 k n) v s) Q
    unfold f_Md_shift_L150b
    exact v_Pif (fun _ => hk s hs) (fun _ => v_Pif (fun _ => v_Pif (fun _ => v_Plet (p_L150 hk n _ _ hs)) (fun _ => v_Pnone)) (fun _ => v_Pnone))
theorem p_L113 {s0 : vS} {p1 p2 p3 p4 p5 : Int32} {k : vS → Option (Int32 × vS)} {Q : Int32 → vS → Prop} (hk : ∀ t : vS, t.1 = s0.1 → v_P (k t) Q) : ∀ (n : Nat) (v : Int32) (s : vS), s.1 = s0.1 → v_P (f_Md_shift_L113 p1 p2 p3 p4 p5 k n v s) Q
  | 0, v, s, _ => v_Pnone
  | n + 1, v, s, hs => by
    show v_P (f_Md_shift_L113b p1 p2 p3 p4 p5 k (f_Md_shift_L113 p1 p2 p3 p4 p5 k n) v s) Q
    unfold f_Md_shift_L113b
    exact v_Pif (fun _ => hk s hs) (fun _ => v_Pif (fun _ => v_Pif (fun _ => v_Plet (p_L113 hk n _ _ hs)) (fun _ => v_Pnone)) (fun _ => v_Pnone))
theorem p_Md_shift (b c d e f : Int32) (s : vS) : v_P (f_Md_shift b c d e f s) (fun _ t => t.1 = s.1) := by
  unfold f_Md_shift
  rw [z_MisShelf, v_bi_some, z_MisShelf, v_bi_some]
  repeat' first
    | ((with_reducible refine v_Pret ?_); (focus exact rfl))
    | with_reducible exact v_Pnone
    | with_reducible exact p_L113 (s0 := s) (fun t ht => p_L150 (s0 := s) (fun t ht => v_Pret ht) 4096 0 t ht) 4096 0 s rfl
    | with_reducible refine v_Pif (fun _ => ?_) (fun _ => ?_)
/-- one shelf is written, the others stand -/
theorem z_r0_upd {s t : vS} {b : Nat} (hb : b < 6) (h : ∀ k, k < 6 → z_r0 s k) (h1 : ∀ a j, 139 ≤ a → a ≤ 150 → a ≠ 139 + 2 * b → t.1 a j = s.1 a j) (h2 : ∀ k, k ≠ b → t.1 181 k = s.1 181 k ∧ t.1 182 k = s.1 182 k) (hz : z_r0 t b) : ∀ k, k < 6 → z_r0 t k := fun k hk => by
  by_cases e : k = b
  · rw [e]; exact hz
  · exact z_r0_eq (h k hk) (fun j => h1 _ j (by omega) (by omega) (by omega)) (h2 k e).1 (h2 k e).2
