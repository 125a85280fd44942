/-! ONE STEP of the small machine, taken apart; what a whole run keeps -/
def s_sp8 (r : List Value) : Prop := (r.map fun v => v.category).sum ≤ 8
set_option maxHeartbeats 4000000 in
theorem s_step_sp {prog : Nat → Option sMeth} {fty : Nat → Nat → FieldType} {ft : List (Nat × (Nat → FieldType))} {E : sE} {rec : Nat → sMeth → Nat → sL → List Value → sM → sR} {d : Nat} {μ : sMeth} {pc : Nat} {ls : sL} {st : List Value} {M M' : sM} {o : Option Value} (h : s_step prog fty ft E rec d μ pc ls st M = some (o, M')) :
    ∃ i len, s_fetch μ.2.2.2 pc = some (i, len) ∧
      ((∃ w as a r ν, i = .invokevirtual w ∧ s_split (w % 8) [] st = some (as, .ref a :: r) ∧ prog (w / 8) = some ν ∧ s_kd M a = ν.2.2.1 ∧ s_call rec d μ ν (pc + 3) ls (.ref a :: as) r M = some (o, M')) ∨
       (∃ a r d', i = .invokespecial 0 ∧ d = d' + 1 ∧ st = .ref a :: r ∧ s_sp8 r ∧ rec d μ (pc + 3) ls r M = some (o, M')) ∨
       (∃ w as a r ν, i = .invokespecial w ∧ w ≠ 0 ∧ s_split (w % 8) [] st = some (as, .ref a :: r) ∧ prog (w / 8) = some ν ∧ s_call rec d μ ν (pc + 3) ls (.ref a :: as) r M = some (o, M')) ∨
       (∃ w as r ν, i = .invokestatic w ∧ s_split (w % 8) [] st = some (as, r) ∧ prog (w / 8) = some ν ∧ s_call rec d μ ν (pc + 3) ls as r M = some (o, M')) ∨
       (∃ w k as r ν, i = .invokeinterface w k ∧ s_split (w % 8) [] st = some (as, r) ∧ prog (w / 8) = some ν ∧ s_call rec d μ ν (pc + 3) ls as r M = some (o, M')) ∨
       (∃ r d' M2, i = .invokedynamic 0 ∧ d = d' + 1 ∧ s_ac st M = some (r, M2) ∧ rec d μ (pc + 3) ls r M2 = some (o, M')) ∨
       (∃ w x y r d', i = .invokedynamic w ∧ w ≠ 0 ∧ d = d' + 1 ∧ st = .int y :: .int x :: r ∧ s_sp8 r ∧ rec d μ (pc + 3) ls (.int (bif Nat.beq w 1 then (if y < x then y else x) else (if x < y then y else x)) :: r) M = some (o, M')) ∨
       (∃ x, i = .ireturn ∧ st = [.int x] ∧ s_rv μ.2.1 (.int x) = true ∧ o = some (.int x) ∧ M' = M) ∨
       (∃ x, i = .lreturn ∧ st = [.long x] ∧ s_rv μ.2.1 (.long x) = true ∧ o = some (.long x) ∧ M' = M) ∨
       (∃ x, i = .areturn ∧ st = [.ref x] ∧ s_rv μ.2.1 (.ref x) = true ∧ o = some (.ref x) ∧ M' = M) ∨
       (i = .areturn ∧ st = [.null] ∧ s_rv μ.2.1 .null = true ∧ o = some .null ∧ M' = M) ∨
       (i = .return_ ∧ st = [] ∧ μ.2.1 = none ∧ o = none ∧ M' = M) ∨
       (∃ r M2, s_wr fty i st M = some (r, M2) ∧ rec d μ (pc + len) ls r M2 = some (o, M')) ∨
       (∃ r M2, s_al ft i st M = some (r, M2) ∧ rec d μ (pc + len) ls r M2 = some (o, M')) ∨
       (∃ P ls' st', s_pure E μ.1 i pc (pc + len) ls st M = some (P, ls', st') ∧ rec d μ P ls' st' M = some (o, M'))) := by
  unfold s_step at h
  split at h
  · cases h
  · rename_i q hq
    obtain ⟨i, len⟩ := q
    refine ⟨i, len, hq, ?_⟩
    dsimp only at h
    split at h
    · rename_i w
      split at h
      · rename_i as a r hs
        split at h
        · rename_i ν hν
          cases hz : Nat.beq (s_kd M a) ν.2.2.1 with
          | true => rw [hz, cond_true] at h; exact Or.inl ⟨w, as, a, r, ν, rfl, hs, hν, Nat.eq_of_beq_eq_true hz, h⟩
          | false => rw [hz] at h; cases h
        · cases h
      · cases h
    · rename_i w
      cases hw : Nat.beq w 0 with
      | true =>
        rw [hw, cond_true] at h
        have e := Nat.eq_of_beq_eq_true hw
        subst e
        split at h
        · rename_i d' a r
          cases hz : Nat.ble (r.map fun v => v.category).sum 8 with
          | true => rw [hz, cond_true] at h; exact Or.inr (Or.inl ⟨a, r, d', rfl, rfl, rfl, Nat.le_of_ble_eq_true hz, h⟩)
          | false => rw [hz] at h; cases h
        · cases h
      | false =>
        rw [hw, cond_false] at h
        have hw0 : w ≠ 0 := fun e => by rw [e] at hw; cases hw
        split at h
        · rename_i as a r hs
          split at h
          · rename_i ν hν
            exact Or.inr (Or.inr (Or.inl ⟨w, as, a, r, ν, rfl, hw0, hs, hν, h⟩))
          · cases h
        · cases h
    · rename_i w
      split at h
      · rename_i as r hs
        split at h
        · rename_i ν hν
          exact Or.inr (Or.inr (Or.inr (Or.inl ⟨w, as, r, ν, rfl, hs, hν, h⟩)))
        · cases h
      · cases h
    · rename_i w k
      split at h
      · rename_i as r hs
        split at h
        · rename_i ν hν
          exact Or.inr (Or.inr (Or.inr (Or.inr (Or.inl ⟨w, k, as, r, ν, rfl, hs, hν, h⟩))))
        · cases h
      · cases h
    · rename_i w
      split at h
      · cases h
      · rename_i d'
        cases hw : Nat.beq w 0 with
        | true =>
          rw [hw, cond_true] at h
          have e := Nat.eq_of_beq_eq_true hw
          subst e
          split at h
          · rename_i r M2 hs
            exact Or.inr (Or.inr (Or.inr (Or.inr (Or.inr (Or.inl ⟨r, d', M2, rfl, rfl, hs, h⟩)))))
          · cases h
        | false =>
          rw [hw, cond_false] at h
          have hw0 : w ≠ 0 := fun e => by rw [e] at hw; cases hw
          split at h
          · rename_i y x r
            cases hz : Nat.ble (r.map fun v => v.category).sum 8 with
            | true => rw [hz, cond_true] at h; exact Or.inr (Or.inr (Or.inr (Or.inr (Or.inr (Or.inr (Or.inl ⟨w, x, y, r, d', rfl, hw0, rfl, rfl, Nat.le_of_ble_eq_true hz, h⟩))))))
            | false => rw [hz] at h; cases h
          · cases h
    · split at h
      · rename_i x
        cases hz : s_rv μ.2.1 (.int x) with
        | true => rw [hz, cond_true] at h; cases h; exact Or.inr (Or.inr (Or.inr (Or.inr (Or.inr (Or.inr (Or.inr (Or.inl ⟨x, rfl, rfl, hz, rfl, rfl⟩)))))))
        | false => rw [hz] at h; cases h
      · cases h
    · split at h
      · rename_i x
        cases hz : s_rv μ.2.1 (.long x) with
        | true => rw [hz, cond_true] at h; cases h; exact Or.inr (Or.inr (Or.inr (Or.inr (Or.inr (Or.inr (Or.inr (Or.inr (Or.inl ⟨x, rfl, rfl, hz, rfl, rfl⟩))))))))
        | false => rw [hz] at h; cases h
      · cases h
    · split at h
      · rename_i v
        cases hz : (s_rv μ.2.1 v && !Nat.beq v.category 2) with
        | true =>
          rw [hz, cond_true] at h
          rw [Bool.and_eq_true] at hz
          split at h
          · rename_i x
            cases h
            exact Or.inr (Or.inr (Or.inr (Or.inr (Or.inr (Or.inr (Or.inr (Or.inr (Or.inr (Or.inl ⟨x, rfl, rfl, hz.1, rfl, rfl⟩)))))))))
          · cases h
            exact Or.inr (Or.inr (Or.inr (Or.inr (Or.inr (Or.inr (Or.inr (Or.inr (Or.inr (Or.inr (Or.inl ⟨rfl, rfl, hz.1, rfl, rfl⟩))))))))))
          · cases h
        | false => rw [hz] at h; cases h
      · cases h
    · split at h
      · rename_i hrt
        cases h
        exact Or.inr (Or.inr (Or.inr (Or.inr (Or.inr (Or.inr (Or.inr (Or.inr (Or.inr (Or.inr (Or.inr (Or.inl ⟨rfl, rfl, hrt, rfl, rfl⟩)))))))))))
      · cases h
    iterate 7
      · split at h
        · rename_i r M2 hs
          exact Or.inr (Or.inr (Or.inr (Or.inr (Or.inr (Or.inr (Or.inr (Or.inr (Or.inr (Or.inr (Or.inr (Or.inr (Or.inl ⟨r, M2, hs, h⟩))))))))))))
        · cases h
    iterate 3
      · split at h
        · rename_i r M2 hs
          exact Or.inr (Or.inr (Or.inr (Or.inr (Or.inr (Or.inr (Or.inr (Or.inr (Or.inr (Or.inr (Or.inr (Or.inr (Or.inr (Or.inl ⟨r, M2, hs, h⟩)))))))))))))
        · cases h
    · split at h
      · rename_i P ls' st' hs
        exact Or.inr (Or.inr (Or.inr (Or.inr (Or.inr (Or.inr (Or.inr (Or.inr (Or.inr (Or.inr (Or.inr (Or.inr (Or.inr (Or.inr ⟨P, ls', st', hs, h⟩)))))))))))))
      · cases h
/-- a run keeps the cells, and every reference within them -/
def s_In (M M' : sM) (o : Option Value) : Prop := M.length ≤ M'.length ∧ s_slots M ≤ s_slots M' ∧ s_Mok M'.length M' ∧ ∀ v, o = some v → s_vok M'.length v
theorem s_In.of {M M2 M' : sM} {o : Option Value} (h : s_In M2 M' o) (h1 : M.length ≤ M2.length) (h2 : s_slots M ≤ s_slots M2) : s_In M M' o := ⟨Nat.le_trans h1 h.1, Nat.le_trans h2 h.2.1, h.2.2⟩
theorem s_tol_ok {n : Nat} {o : Option Value} {r : List Value} (h : ∀ v, o = some v → s_vok n v) (hr : s_lok n r) : s_lok n (o.toList ++ r) := by
  cases o with
  | none => exact hr
  | some v => exact s_lok_c.mpr ⟨h v rfl, hr⟩
set_option maxHeartbeats 4000000 in
theorem s_inv {prog : Nat → Option sMeth} {fty : Nat → Nat → FieldType} {E : sE} : ∀ (n d : Nat) (μ : sMeth) (pc : Nat) (ls : sL) (st : List Value) (M M' : sM) (o : Option Value), s_x prog fty s_ft E n d μ pc ls st M = some (o, M') → s_sok M.length ls → s_lok M.length st → s_Mok M.length M → s_In M M' o := by
  intro n
  induction n with
  | zero => intro d μ pc ls st M M' o h; cases h
  | succ n ih =>
    intro d μ pc ls st M M' o h a b c
    have call : ∀ {ν : sMeth} {p : Nat} {as r : List Value}, s_call (s_x prog fty s_ft E n) d μ ν p ls as r M = some (o, M') → s_lok M.length as → s_lok M.length r → s_In M M' o := by
      intro ν p as r hc ha hr
      obtain ⟨d', v, M2, -, -, h1, h2⟩ := s_call_sp hc
      obtain ⟨g1, g2, g3, g4⟩ := ih _ _ _ _ _ _ _ _ h1 (s_args_ok ha 0) s_lok_nil c
      exact (ih _ _ _ _ _ _ _ _ h2 (s_sok_le g1 a) (s_tol_ok g4 (s_lok_le g1 hr)) g3).of g1 g2
    rw [s_xs] at h
    obtain ⟨i, len, -, h⟩ := s_step_sp h
    rcases h with ⟨w, as, x, r, ν, -, h1, -, -, h2⟩ | ⟨x, r, d', -, -, rfl, -, h2⟩ | ⟨w, as, x, r, ν, -, -, h1, -, h2⟩ | ⟨w, as, r, ν, -, h1, -, h2⟩ | ⟨w, k, as, r, ν, -, h1, -, h2⟩ | ⟨r, d', M2, -, -, h1, h2⟩ | ⟨w, x, y, r, d', -, -, -, rfl, -, h2⟩ | ⟨x, -, rfl, -, rfl, rfl⟩ | ⟨x, -, rfl, -, rfl, rfl⟩ | ⟨x, -, rfl, -, rfl, rfl⟩ | ⟨-, rfl, -, rfl, rfl⟩ | ⟨-, rfl, -, rfl, rfl⟩ | ⟨r, M2, h1, h2⟩ | ⟨r, M2, h1, h2⟩ | ⟨P, ls', st', h1, h2⟩
    · obtain ⟨k1, k2⟩ := s_split_ok h1 b
      exact call h2 (s_lok_c.mpr ⟨(s_lok_c.mp k2).1, k1⟩) (s_lok_c.mp k2).2
    · exact ih _ _ _ _ _ _ _ _ h2 a (s_lok_c.mp b).2 c
    · obtain ⟨k1, k2⟩ := s_split_ok h1 b
      exact call h2 (s_lok_c.mpr ⟨(s_lok_c.mp k2).1, k1⟩) (s_lok_c.mp k2).2
    · obtain ⟨k1, k2⟩ := s_split_ok h1 b
      exact call h2 k1 k2
    · obtain ⟨k1, k2⟩ := s_split_ok h1 b
      exact call h2 k1 k2
    · obtain ⟨k1, k2, k3, k4⟩ := s_ac_ok h1 b c
      exact (ih _ _ _ _ _ _ _ _ h2 (by rw [k2]; exact a) (by rw [k2]; exact k1) (by rw [k2]; exact k4)).of (by rw [k2]; exact Nat.le_refl _) (by rw [k3]; exact Nat.le_refl _)
    · exact ih _ _ _ _ _ _ _ _ h2 a (s_lok_c.mpr ⟨s_vok_i, (s_lok_c.mp (s_lok_c.mp b).2).2⟩) c
    · exact ⟨Nat.le_refl _, Nat.le_refl _, c, fun v hv => by cases hv; exact s_vok_i⟩
    · exact ⟨Nat.le_refl _, Nat.le_refl _, c, fun v hv => by cases hv; exact s_vok_l⟩
    · exact ⟨Nat.le_refl _, Nat.le_refl _, c, fun v hv => by cases hv; exact (s_lok_c.mp b).1⟩
    · exact ⟨Nat.le_refl _, Nat.le_refl _, c, fun v hv => by cases hv; exact s_vok_n⟩
    · exact ⟨Nat.le_refl _, Nat.le_refl _, c, fun v hv => by cases hv⟩
    · obtain ⟨k1, k2, k3, k4⟩ := s_wr_ok h1 b c
      exact (ih _ _ _ _ _ _ _ _ h2 (by rw [k2]; exact a) (by rw [k2]; exact k1) (by rw [k2]; exact k4)).of (by rw [k2]; exact Nat.le_refl _) (by rw [k3]; exact Nat.le_refl _)
    · obtain ⟨k1, k2, k3, k4⟩ := s_al_ok h1 b c
      exact (ih _ _ _ _ _ _ _ _ h2 (s_sok_le (by omega) a) k1 k4).of (by omega) (by omega)
    · obtain ⟨k1, k2⟩ := s_pure_ok h1 a b c
      exact ih _ _ _ _ _ _ _ _ h2 k1 k2 c
