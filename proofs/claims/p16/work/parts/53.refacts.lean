/-! the reference: acts -/
theorem m_isUnder (b c : Int32) (s : vS) : v_T (f_Md_isUnder b c s) (fun _ t => t = s) := by
  unfold f_Md_isUnder
  repeat' first
    | ((with_reducible refine v_Tret ?_); (focus exact rfl))
    | ((with_reducible refine v_Tret ?_); exact ⟨rfl, by first | assumption | decide | omega | exact Or.inl rfl | exact Or.inr rfl⟩)
    | ((with_reducible refine v_Tck ?_ ?_); (focus first | assumption | exact ⟨by omega, by omega⟩ | decide | omega))
    | with_reducible refine v_Tif (fun _ => ?_) (fun _ => ?_)
theorem m_plainSays (b c : Int32) : m_acO 1 (f_Md_plainSays b c) := fun s h0 h1 => by
  have hr := m_acR h0
  unfold f_Md_plainSays
  repeat' first
    | exact m_acE (by assumption) (by omega)
    | with_reducible refine v_Tif (fun _ => ?_) (fun _ => ?_)
    | ((with_reducible refine v_Tbi (m_isUnder ..) ?_); rintro _ _ rfl)
    | with_reducible refine m_acB (by assumption) (by omega) (m_ran _) (fun _ _ _ => ?_)
theorem m_wordSays (b c : Int32) : m_acO 2 (f_Md_wordSays b c) := fun s h0 h1 => by
  have hr := m_acR h0
  unfold f_Md_wordSays
  repeat' first
    | exact m_acE (by assumption) (by omega)
    | with_reducible refine v_Tif (fun _ => ?_) (fun _ => ?_)
    | ((with_reducible refine v_Tbi (m_isUnder ..) ?_); rintro _ _ rfl)
    | with_reducible refine m_acB (by assumption) (by omega) (m_ran _) (fun _ _ _ => ?_)
    | with_reducible refine m_acB (by assumption) (by omega) (m_plainSays _ _) (fun _ _ _ => ?_)
theorem m_saying (b c : Int32) (hb : v_in b 50) : m_acO 3 (f_Md_saying b c) := fun s h0 h1 => by
  have hr := m_acR h0
  unfold f_Md_saying
  repeat' first
    | exact m_acE (by assumption) (by omega)
    | ((with_reducible refine v_Tck ?_ ?_); (focus exact hb))
    | with_reducible refine v_Tif (fun _ => ?_) (fun _ => ?_)
    | ((with_reducible refine v_Tbi (m_isUnder ..) ?_); rintro _ _ rfl)
    | with_reducible refine m_acB (by assumption) (by omega) (m_ran _) (fun _ _ _ => ?_)
    | with_reducible refine m_acB (by assumption) (by omega) (m_wordSays _ _) (fun _ _ _ => ?_)
    | with_reducible refine m_acB (by assumption) (by omega) (m_plainSays _ _) (fun _ _ _ => ?_)
theorem m_plainHolds (b c : Int32) (hb : v_in b 50) : m_acO 4 (f_Md_plainHolds b c) := fun s h0 h1 => by
  have hr := m_acR h0
  unfold f_Md_plainHolds
  repeat' first
    | exact m_acE (by assumption) (by omega)
    | ((with_reducible refine v_Tck ?_ ?_); (focus exact hb))
    | with_reducible refine v_Tif (fun _ => ?_) (fun _ => ?_)
    | ((with_reducible refine v_Tbi (m_isUnder ..) ?_); rintro _ _ rfl)
    | with_reducible refine m_acB (by assumption) (by omega) (m_ran _) (fun _ _ _ => ?_)
    | with_reducible refine m_acB (by assumption) (by omega) (m_saying _ _ hb) (fun _ _ _ => ?_)
theorem m_mayHolds (b c : Int32) (hb : v_in b 50) : m_acO 5 (f_Md_mayHolds b c) := fun s h0 h1 => by
  have hr := m_acR h0
  unfold f_Md_mayHolds
  repeat' first
    | exact m_acE (by assumption) (by omega)
    | ((with_reducible refine v_Tck ?_ ?_); (focus exact hb))
    | with_reducible refine v_Tif (fun _ => ?_) (fun _ => ?_)
    | ((with_reducible refine v_Tbi (m_isUnder ..) ?_); rintro _ _ rfl)
    | with_reducible refine m_acB (by assumption) (by omega) (m_ran _) (fun _ _ _ => ?_)
    | with_reducible refine m_acB (by assumption) (by omega) (m_plainHolds _ _ hb) (fun _ _ _ => ?_)
theorem m_plainBeats (b c : Int32) : m_acO 1 (f_Md_plainBeats b c) := fun s h0 h1 => by
  have hr := m_acR h0
  unfold f_Md_plainBeats
  repeat' first
    | exact m_acE (by assumption) (by omega)
    | with_reducible refine v_Tif (fun _ => ?_) (fun _ => ?_)
    | ((with_reducible refine v_Tbi (m_isUnder ..) ?_); rintro _ _ rfl)
    | with_reducible refine m_acB (by assumption) (by omega) (m_ran _) (fun _ _ _ => ?_)
theorem m_unlessBeats (b c : Int32) : m_acO 2 (f_Md_unlessBeats b c) := fun s h0 h1 => by
  have hr := m_acR h0
  unfold f_Md_unlessBeats
  repeat' first
    | exact m_acE (by assumption) (by omega)
    | with_reducible refine v_Tif (fun _ => ?_) (fun _ => ?_)
    | ((with_reducible refine v_Tbi (m_isUnder ..) ?_); rintro _ _ rfl)
    | with_reducible refine m_acB (by assumption) (by omega) (m_ran _) (fun _ _ _ => ?_)
    | with_reducible refine m_acB (by assumption) (by omega) (m_plainBeats _ _) (fun _ _ _ => ?_)
theorem m_beating (b c : Int32) (hb : v_in b 50) : m_acO 6 (f_Md_beating b c) := fun s h0 h1 => by
  have hr := m_acR h0
  unfold f_Md_beating
  repeat' first
    | exact m_acE (by assumption) (by omega)
    | ((with_reducible refine v_Tck ?_ ?_); (focus exact hb))
    | with_reducible refine v_Tif (fun _ => ?_) (fun _ => ?_)
    | ((with_reducible refine v_Tbi (m_isUnder ..) ?_); rintro _ _ rfl)
    | with_reducible refine m_acB (by assumption) (by omega) (m_ran _) (fun _ _ _ => ?_)
    | with_reducible refine m_acB (by assumption) (by omega) (m_unlessBeats _ _) (fun _ _ _ => ?_)
    | with_reducible refine m_acB (by assumption) (by omega) (m_plainBeats _ _) (fun _ _ _ => ?_)
    | with_reducible refine m_acB (by assumption) (by omega) (m_saying _ _ hb) (fun _ _ _ => ?_)
theorem m_holding (b c : Int32) (hb : v_in b 50) : m_acO 11 (f_Md_holding b c) := fun s h0 h1 => by
  have hr := m_acR h0
  unfold f_Md_holding
  repeat' first
    | exact m_acE (by assumption) (by omega)
    | ((with_reducible refine v_Tck ?_ ?_); (focus exact hb))
    | with_reducible refine v_Tif (fun _ => ?_) (fun _ => ?_)
    | ((with_reducible refine v_Tbi (m_isUnder ..) ?_); rintro _ _ rfl)
    | with_reducible refine m_acB (by assumption) (by omega) (m_ran _) (fun _ _ _ => ?_)
    | with_reducible refine m_acB (by assumption) (by omega) (m_beating _ _ hb) (fun _ _ _ => ?_)
    | with_reducible refine m_acB (by assumption) (by omega) (m_mayHolds _ _ hb) (fun _ _ _ => ?_)
    | with_reducible refine m_acB (by assumption) (by omega) (m_plainHolds _ _ hb) (fun _ _ _ => ?_)
theorem m_plainTells (b c : Int32) (hb : v_in b 50) : m_acO 18 (f_Md_plainTells b c) := fun s h0 h1 => by
  have hr := m_acR h0
  unfold f_Md_plainTells
  repeat' first
    | exact m_acE (by assumption) (by omega)
    | ((with_reducible refine v_Tck ?_ ?_); (focus exact hb))
    | with_reducible refine v_Tif (fun _ => ?_) (fun _ => ?_)
    | ((with_reducible refine v_Tbi (m_isUnder ..) ?_); rintro _ _ rfl)
    | with_reducible refine m_acB (by assumption) (by omega) (m_ran _) (fun _ _ _ => ?_)
    | with_reducible refine m_acB (by assumption) (by omega) (m_holding _ _ hb) (fun _ _ _ => ?_)
    | with_reducible refine m_acB (by assumption) (by omega) (m_beating _ _ hb) (fun _ _ _ => ?_)
theorem m_telling (b c : Int32) (hb : v_in b 50) : m_acO 19 (f_Md_telling b c) := fun s h0 h1 => by
  have hr := m_acR h0
  unfold f_Md_telling
  repeat' first
    | exact m_acE (by assumption) (by omega)
    | ((with_reducible refine v_Tck ?_ ?_); (focus exact hb))
    | with_reducible refine v_Tif (fun _ => ?_) (fun _ => ?_)
    | ((with_reducible refine v_Tbi (m_isUnder ..) ?_); rintro _ _ rfl)
    | with_reducible refine m_acB (by assumption) (by omega) (m_ran _) (fun _ _ _ => ?_)
    | with_reducible refine m_acB (by assumption) (by omega) (m_plainTells _ _ hb) (fun _ _ _ => ?_)
