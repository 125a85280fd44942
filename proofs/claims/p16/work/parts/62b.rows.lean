/-! the 32 rows -/
theorem j2_feed (s : vS) (b : Int32) (h : v_I2 s) : v_T (f_Ol_feed b s) (fun r1 s1 => v_T (f_Md_feed b s1) (fun r2 s2 => v_I2 s2)) :=
  j_step h (j_c j_cA (q_gI h.1.1 (g_feed b s))) (fun t ht => j_m j_mA (m_feed b t ht))
theorem j2_law (s : vS) (b : Int32) (c : Int32) (h : v_I2 s) : v_T (f_Ol_law b c s) (fun r1 s1 => v_T (f_Md_law b c s1) (fun r2 s2 => v_I2 s2)) :=
  j_step h (j_c j_cA (q_gI h.1.1 (g_law b c s))) (fun t ht => j_m j_mA (m_law b c t ht))
theorem j2_laws (s : vS) (b : Int32) (c : Int32) (d : Int32) (h : v_I2 s) : v_T (f_Ol_laws b c d s) (fun r1 s1 => v_T (f_Md_laws b c d s1) (fun r2 s2 => v_I2 s2)) :=
  j_step h (j_c j_cA (q_gI h.1.1 (g_laws b c d s))) (fun t ht => j_m j_mA (m_laws b c d t ht))
theorem j2_mend (s : vS) (b : Int32) (c : Int32) (d : Int32) (h : v_I2 s) : v_T (f_Ol_mend b c d s) (fun r1 s1 => v_T (f_Md_mend b c d s1) (fun r2 s2 => v_I2 s2)) :=
  j_step h (j_c j_cA (q_gI h.1.1 (g_mend b c d s))) (fun t ht => j_m j_mA (m_mend b c d t ht))
theorem j2_moved (s : vS) (b : Int32) (c : Int32) (d : Int32) (h : v_I2 s) : v_T (f_Ol_moved b c d s) (fun r1 s1 => v_T (f_Md_moved b c d s1) (fun r2 s2 => v_I2 s2)) :=
  j_step h (j_c j_cA (q_gI h.1.1 (g_moved b c d s))) (fun t ht => j_m j_mA (m_moved b c d t ht))
theorem j2_of (s : vS) (b : Int32) (c : Int32) (h : v_I2 s) : v_T (f_Ol_of b c s) (fun r1 s1 => v_T (f_Md_of b c s1) (fun r2 s2 => v_I2 s2)) :=
  j_step h (j_c j_cA (q_qI h.1.1 (q_of b c s))) (fun t ht => j_m j_mA (m_quiet ht (m_of b c t)))
theorem j2_speaks (s : vS) (b : Int32) (c : Int32) (h : v_I2 s) : v_T (f_Ol_speaks b c s) (fun r1 s1 => v_T (f_Md_speaks b c s1) (fun r2 s2 => v_I2 s2)) :=
  j_step h (j_c j_cA (q_qI h.1.1 (q_speaks b c s))) (fun t ht => j_m j_mA (m_quiet ht (m_speaks b c t)))
theorem j2_verdict (s : vS) (b : Int32) (c : Int32) (h : v_I2 s) : v_T (f_Ol_verdict b c s) (fun r1 s1 => v_T (f_Md_verdict b c s1) (fun r2 s2 => v_I2 s2)) :=
  j_step h (j_c j_cA (q_qI h.1.1 (q_verdict b c s))) (fun t ht => j_m j_mA (m_quiet ht (m_verdict b c t)))
theorem j2_judge (s : vS) (b : Int32) (h : v_I2 s) : v_T (f_Ol_judge b s) (fun r1 s1 => v_T (f_Md_judge b s1) (fun r2 s2 => v_I2 s2)) :=
  j_step h (j_c j_cA (q_qI h.1.1 (q_judge b s))) (fun t ht => j_m j_mA (m_quiet ht (m_judge b t)))
theorem j2_never (s : vS) (h : v_I2 s) : v_T (f_Ol_never s) (fun r1 s1 => v_T (f_Md_never s1) (fun r2 s2 => v_I2 s2)) :=
  j_step h (j_c j_cA (q_qI h.1.1 (q_never s))) (fun t ht => j_m j_mA (m_quiet ht (m_never t)))
theorem j2_clash (s : vS) (b : Int32) (c : Int32) (h : v_I2 s) : v_T (f_Ol_clash b c s) (fun r1 s1 => v_T (f_Md_clash b c s1) (fun r2 s2 => v_I2 s2)) :=
  j_step h (j_c j_cA (q_qI h.1.1 (q_clash b c s))) (fun t ht => j_m j_mA (m_quiet ht (m_clash b c t)))
theorem j2_write (s : vS) (b : Int32) (c : Int32) (d : Int32) (h : v_I2 s) : v_T (f_Ol_write b c d s) (fun r1 s1 => v_T (f_Md_write b c d s1) (fun r2 s2 => v_I2 s2)) :=
  j_step h (j_c j_cA (q_qI h.1.1 (q_write b c d s))) (fun t ht => j_m j_mA (m_quiet ht (m_write b c d t)))
theorem j2_bars (s : vS) (b : Int32) (c : Int32) (d : Int32) (h : v_I2 s) : v_T (f_Ol_bars b c d s) (fun r1 s1 => v_T (f_Md_bars b c d s1) (fun r2 s2 => v_I2 s2)) :=
  j_step h (j_c j_cA (q_qI h.1.1 (q_bars b c d s))) (fun t ht => j_m j_mA (m_quiet ht (m_bars b c d t)))
theorem j2_meant (s : vS) (b : Int32) (c : Int32) (h : v_I2 s) : v_T (f_Ol_meant b c s) (fun r1 s1 => v_T (f_Md_meant b c s1) (fun r2 s2 => v_I2 s2)) :=
  j_step h (j_c j_cA (q_gI h.1.1 (g_meant b c s))) (fun t ht => j_m j_mA (m_meant b c t ht))
theorem j2_falseOnes (s : vS) (b : Int32) (h : v_I2 s) : v_T (f_Ol_falseOnes b s) (fun r1 s1 => v_T (f_Md_falseOnes b s1) (fun r2 s2 => v_I2 s2)) :=
  j_step h (j_c j_cA (q_qI h.1.1 (q_false b s))) (fun t ht => j_m j_mA (m_quiet ht (m_falseOnes b t)))
theorem j2_under (s : vS) (b : Int32) (c : Int32) (h : v_I2 s) : v_T (f_Ol_under b c s) (fun r1 s1 => v_T (f_Md_under b c s1) (fun r2 s2 => v_I2 s2)) :=
  j_step h (j_c j_cA (q_gI h.1.1 (g_under b c s))) (fun t ht => j_m j_mA (m_quiet ht (m_under b c t)))
theorem j2_unlike (s : vS) (b : Int32) (c : Int32) (h : v_I2 s) : v_T (f_Ol_unlike b c s) (fun r1 s1 => v_T (f_Md_unlike b c s1) (fun r2 s2 => v_I2 s2)) :=
  j_step h (j_c j_cA (q_qI h.1.1 (q_unlike b c s))) (fun t ht => j_m j_mA (m_quiet ht (m_unlike b c t)))
theorem j2_rings (s : vS) (h : v_I2 s) : v_T (f_Ol_rings s) (fun r1 s1 => v_T (f_Md_rings s1) (fun r2 s2 => v_I2 s2)) :=
  j_step h (j_cn h.1.1 (n_rings s h.1.1.1.1)) (fun t ht => j_m j_mA (m_quiet ht (m_rings t)))
theorem j2_image (s : vS) (h : v_I2 s) : v_T (f_Ol_image s) (fun r1 s1 => v_T (f_Md_image s1) (fun r2 s2 => v_I2 s2)) :=
  j_step h (j_c j_cA (q_gI h.1.1 (g_image s))) (fun t ht => j_m j_mA (m_image t ht))
theorem j2_back (s : vS) (h : v_I2 s) : v_T (f_Ol_back s) (fun r1 s1 => v_T (f_Md_back s1) (fun r2 s2 => v_I2 s2)) :=
  j_step h (j_c j_cA (q_gI h.1.1 (g_back s))) (fun t ht => j_m j_mA (m_back t ht))
theorem j2_undo (s : vS) (h : v_I2 s) : v_T (f_Ol_undo s) (fun r1 s1 => v_T (f_Md_undo s1) (fun r2 s2 => v_I2 s2)) :=
  j_step h (j_c j_cA (q_gI h.1.1 (g_undo s))) (fun t ht => j_m j_mA (m_undo t ht))
theorem j2_redo (s : vS) (h : v_I2 s) : v_T (f_Ol_redo s) (fun r1 s1 => v_T (f_Md_redo s1) (fun r2 s2 => v_I2 s2)) :=
  j_step h (j_c j_cA (q_gI h.1.1 (g_redo s))) (fun t ht => j_m j_mA (m_redo t ht))
theorem j2_body (s : vS) (b : Int32) (h : v_I2 s) : v_T (f_Ol_body b s) (fun r1 s1 => v_T (f_Md_body b s1) (fun r2 s2 => v_I2 s2)) :=
  j_stepN (x := z_body b) (y := z_many b) h (i_c i_cB (c_body b s h.1.1)) (fun t ht => i_m i_mB (m_body b t ht)) (z_Ol_body b s h.1.1) (fun t ht => z_Md_body b t ht)
theorem j2_act (s : vS) (b : Int32) (c : Int32) (d : Int32) (h : v_I2 s) : v_T (f_Ol_act b c d s) (fun r1 s1 => v_T (f_Md_act b c d s1) (fun r2 s2 => v_I2 s2)) :=
  j_step h (j_cact b c d s h.1.1) (fun t ht => j_mact b c d t ht)
theorem j2_trace (s : vS) (b : Int32) (h : v_I2 s) : v_T (f_Ol_trace b s) (fun r1 s1 => v_T (f_Md_trace b s1) (fun r2 s2 => v_I2 s2)) :=
  j_step h (j_cn h.1.1 (c_trace b s)) (fun t ht => j_mn ht (m_trace b t))
theorem j2_keep (s : vS) (b : Int32) (c : Int32) (h : v_I2 s) : v_T (f_Ol_keep b c s) (fun r1 s1 => v_T (f_Md_keep b c s1) (fun r2 s2 => v_I2 s2)) :=
  j_step h (j_c j_cS (c_keep b c s h.1.1)) (fun t ht => j_m j_mS (m_keep2 b c t ht))
theorem j2_row (s : vS) (b : Int32) (c : Int32) (d : Int32) (h : v_I2 s) : v_T (f_Ol_row b c d s) (fun r1 s1 => v_T (f_Md_row b c d s1) (fun r2 s2 => v_I2 s2)) :=
  j_step h (j_c j_cS (c_row b c d s h.1.1)) (fun t ht => j_m j_mS (m_row b c d t ht))
theorem j2_put (s : vS) (b : Int32) (c : Int32) (d : Int64) (h : v_I2 s) : v_T (f_Ol_put b c d s) (fun r1 s1 => v_T (f_Md_put b c d s1) (fun r2 s2 => v_I2 s2)) :=
  j_step h (j_c j_cS (c_put b c d s h.1.1)) (fun t ht => j_m j_mS (m_put b c d t ht))
theorem j2_element (s : vS) (b : Int32) (c : Int32) (h : v_I2 s) : v_T (f_Ol_element b c s) (fun r1 s1 => v_T (f_Md_element b c s1) (fun r2 s2 => v_I2 s2)) :=
  j_step h (j_cn h.1.1 (c_element b c s)) (fun t ht => j_mn ht (m_element b c t ht))
theorem j2_shift (s : vS) (b : Int32) (c : Int32) (d : Int32) (e : Int32) (f : Int32) (h : v_I2 s) : v_T (f_Ol_shift b c d e f s) (fun r1 s1 => v_T (f_Md_shift b c d e f s1) (fun r2 s2 => v_I2 s2)) :=
  j_step h (j_c j_cS (c_shift b c d e f s h.1.1)) (fun t ht => j_m j_mS (m_shift b c d e f t ht))
theorem j2_taken (s : vS) (b : Int32) (c : Int32) (h : v_I2 s) : v_T (f_Ol_taken b c s) (fun r1 s1 => v_T (f_Md_taken b c s1) (fun r2 s2 => v_I2 s2)) :=
  j_step h (j_cn h.1.1 (c_taken b c s)) (fun t ht => j_mn ht (m_taken b c t ht))
theorem j2_count (s : vS) (b : Int32) (h : v_I2 s) : v_T (f_Ol_count b s) (fun r1 s1 => v_T (f_Md_count b s1) (fun r2 s2 => v_I2 s2)) :=
  j_step h (j_c j_cA (q_qI h.1.1 (q_count b s))) (fun t ht => j_m j_mA (m_quiet ht (m_count b t)))
theorem j3_feed (s : vS) (b : Int32) (h : v_I3 s) : v_T (f_Ol_feed b s) (fun r1 s1 => v_T (f_Md_feed b s1) (fun r2 s2 => v_I3 s2)) :=
  k_step h (j2_feed s b h.1) (k_c k_cA (q_gI h.1.1.1 (g_feed b s))) (fun t ht => k_m k_mA (m_feed b t ht))
theorem j3_law (s : vS) (b : Int32) (c : Int32) (h : v_I3 s) : v_T (f_Ol_law b c s) (fun r1 s1 => v_T (f_Md_law b c s1) (fun r2 s2 => v_I3 s2)) :=
  k_step h (j2_law s b c h.1) (k_c k_cA (q_gI h.1.1.1 (g_law b c s))) (fun t ht => k_m k_mA (m_law b c t ht))
theorem j3_laws (s : vS) (b : Int32) (c : Int32) (d : Int32) (h : v_I3 s) : v_T (f_Ol_laws b c d s) (fun r1 s1 => v_T (f_Md_laws b c d s1) (fun r2 s2 => v_I3 s2)) :=
  k_step h (j2_laws s b c d h.1) (k_c k_cA (q_gI h.1.1.1 (g_laws b c d s))) (fun t ht => k_m k_mA (m_laws b c d t ht))
theorem j3_mend (s : vS) (b : Int32) (c : Int32) (d : Int32) (h : v_I3 s) : v_T (f_Ol_mend b c d s) (fun r1 s1 => v_T (f_Md_mend b c d s1) (fun r2 s2 => v_I3 s2)) :=
  k_step h (j2_mend s b c d h.1) (k_c k_cA (q_gI h.1.1.1 (g_mend b c d s))) (fun t ht => k_m k_mA (m_mend b c d t ht))
theorem j3_moved (s : vS) (b : Int32) (c : Int32) (d : Int32) (h : v_I3 s) : v_T (f_Ol_moved b c d s) (fun r1 s1 => v_T (f_Md_moved b c d s1) (fun r2 s2 => v_I3 s2)) :=
  k_step h (j2_moved s b c d h.1) (k_c k_cA (q_gI h.1.1.1 (g_moved b c d s))) (fun t ht => k_m k_mA (m_moved b c d t ht))
theorem j3_of (s : vS) (b : Int32) (c : Int32) (h : v_I3 s) : v_T (f_Ol_of b c s) (fun r1 s1 => v_T (f_Md_of b c s1) (fun r2 s2 => v_I3 s2)) :=
  k_step h (j2_of s b c h.1) (k_c k_cA (q_qI h.1.1.1 (q_of b c s))) (fun t ht => k_m k_mA (m_quiet ht (m_of b c t)))
theorem j3_speaks (s : vS) (b : Int32) (c : Int32) (h : v_I3 s) : v_T (f_Ol_speaks b c s) (fun r1 s1 => v_T (f_Md_speaks b c s1) (fun r2 s2 => v_I3 s2)) :=
  k_step h (j2_speaks s b c h.1) (k_c k_cA (q_qI h.1.1.1 (q_speaks b c s))) (fun t ht => k_m k_mA (m_quiet ht (m_speaks b c t)))
theorem j3_verdict (s : vS) (b : Int32) (c : Int32) (h : v_I3 s) : v_T (f_Ol_verdict b c s) (fun r1 s1 => v_T (f_Md_verdict b c s1) (fun r2 s2 => v_I3 s2)) :=
  k_step h (j2_verdict s b c h.1) (k_c k_cA (q_qI h.1.1.1 (q_verdict b c s))) (fun t ht => k_m k_mA (m_quiet ht (m_verdict b c t)))
theorem j3_judge (s : vS) (b : Int32) (h : v_I3 s) : v_T (f_Ol_judge b s) (fun r1 s1 => v_T (f_Md_judge b s1) (fun r2 s2 => v_I3 s2)) :=
  k_step h (j2_judge s b h.1) (k_c k_cA (q_qI h.1.1.1 (q_judge b s))) (fun t ht => k_m k_mA (m_quiet ht (m_judge b t)))
theorem j3_never (s : vS) (h : v_I3 s) : v_T (f_Ol_never s) (fun r1 s1 => v_T (f_Md_never s1) (fun r2 s2 => v_I3 s2)) :=
  k_step h (j2_never s h.1) (k_c k_cA (q_qI h.1.1.1 (q_never s))) (fun t ht => k_m k_mA (m_quiet ht (m_never t)))
theorem j3_clash (s : vS) (b : Int32) (c : Int32) (h : v_I3 s) : v_T (f_Ol_clash b c s) (fun r1 s1 => v_T (f_Md_clash b c s1) (fun r2 s2 => v_I3 s2)) :=
  k_step h (j2_clash s b c h.1) (k_c k_cA (q_qI h.1.1.1 (q_clash b c s))) (fun t ht => k_m k_mA (m_quiet ht (m_clash b c t)))
theorem j3_write (s : vS) (b : Int32) (c : Int32) (d : Int32) (h : v_I3 s) : v_T (f_Ol_write b c d s) (fun r1 s1 => v_T (f_Md_write b c d s1) (fun r2 s2 => v_I3 s2)) :=
  k_step h (j2_write s b c d h.1) (k_c k_cA (q_qI h.1.1.1 (q_write b c d s))) (fun t ht => k_m k_mA (m_quiet ht (m_write b c d t)))
theorem j3_bars (s : vS) (b : Int32) (c : Int32) (d : Int32) (h : v_I3 s) : v_T (f_Ol_bars b c d s) (fun r1 s1 => v_T (f_Md_bars b c d s1) (fun r2 s2 => v_I3 s2)) :=
  k_step h (j2_bars s b c d h.1) (k_c k_cA (q_qI h.1.1.1 (q_bars b c d s))) (fun t ht => k_m k_mA (m_quiet ht (m_bars b c d t)))
theorem j3_meant (s : vS) (b : Int32) (c : Int32) (h : v_I3 s) : v_T (f_Ol_meant b c s) (fun r1 s1 => v_T (f_Md_meant b c s1) (fun r2 s2 => v_I3 s2)) :=
  k_step h (j2_meant s b c h.1) (k_c k_cA (q_gI h.1.1.1 (g_meant b c s))) (fun t ht => k_m k_mA (m_meant b c t ht))
theorem j3_falseOnes (s : vS) (b : Int32) (h : v_I3 s) : v_T (f_Ol_falseOnes b s) (fun r1 s1 => v_T (f_Md_falseOnes b s1) (fun r2 s2 => v_I3 s2)) :=
  k_step h (j2_falseOnes s b h.1) (k_c k_cA (q_qI h.1.1.1 (q_false b s))) (fun t ht => k_m k_mA (m_quiet ht (m_falseOnes b t)))
theorem j3_under (s : vS) (b : Int32) (c : Int32) (h : v_I3 s) : v_T (f_Ol_under b c s) (fun r1 s1 => v_T (f_Md_under b c s1) (fun r2 s2 => v_I3 s2)) :=
  k_step h (j2_under s b c h.1) (k_c k_cA (q_gI h.1.1.1 (g_under b c s))) (fun t ht => k_m k_mA (m_quiet ht (m_under b c t)))
theorem j3_unlike (s : vS) (b : Int32) (c : Int32) (h : v_I3 s) : v_T (f_Ol_unlike b c s) (fun r1 s1 => v_T (f_Md_unlike b c s1) (fun r2 s2 => v_I3 s2)) :=
  k_step h (j2_unlike s b c h.1) (k_c k_cA (q_qI h.1.1.1 (q_unlike b c s))) (fun t ht => k_m k_mA (m_quiet ht (m_unlike b c t)))
theorem j3_rings (s : vS) (h : v_I3 s) : v_T (f_Ol_rings s) (fun r1 s1 => v_T (f_Md_rings s1) (fun r2 s2 => v_I3 s2)) :=
  k_step h (j2_rings s h.1) (k_cn h.1.1.1 (n_rings s h.1.1.1.1.1)) (fun t ht => k_m k_mA (m_quiet ht (m_rings t)))
theorem j3_image (s : vS) (h : v_I3 s) : v_T (f_Ol_image s) (fun r1 s1 => v_T (f_Md_image s1) (fun r2 s2 => v_I3 s2)) :=
  k_step h (j2_image s h.1) (k_c k_cA (q_gI h.1.1.1 (g_image s))) (fun t ht => k_m k_mA (m_image t ht))
theorem j3_back (s : vS) (h : v_I3 s) : v_T (f_Ol_back s) (fun r1 s1 => v_T (f_Md_back s1) (fun r2 s2 => v_I3 s2)) :=
  k_step h (j2_back s h.1) (k_c k_cA (q_gI h.1.1.1 (g_back s))) (fun t ht => k_m k_mA (m_back t ht))
theorem j3_undo (s : vS) (h : v_I3 s) : v_T (f_Ol_undo s) (fun r1 s1 => v_T (f_Md_undo s1) (fun r2 s2 => v_I3 s2)) :=
  k_step h (j2_undo s h.1) (k_c k_cA (q_gI h.1.1.1 (g_undo s))) (fun t ht => k_m k_mA (m_undo t ht))
theorem j3_redo (s : vS) (h : v_I3 s) : v_T (f_Ol_redo s) (fun r1 s1 => v_T (f_Md_redo s1) (fun r2 s2 => v_I3 s2)) :=
  k_step h (j2_redo s h.1) (k_c k_cA (q_gI h.1.1.1 (g_redo s))) (fun t ht => k_m k_mA (m_redo t ht))
theorem j3_body (s : vS) (b : Int32) (h : v_I3 s) : v_T (f_Ol_body b s) (fun r1 s1 => v_T (f_Md_body b s1) (fun r2 s2 => v_I3 s2)) :=
  k_step h (j2_body s b h.1) (k_c k_cB (c_body b s h.1.1.1)) (fun t ht => k_m k_mB (m_body b t ht))
theorem j3_act (s : vS) (b : Int32) (c : Int32) (d : Int32) (h : v_I3 s) : v_T (f_Ol_act b c d s) (fun r1 s1 => v_T (f_Md_act b c d s1) (fun r2 s2 => v_I3 s2)) :=
  k_step h (j2_act s b c d h.1) (k_c k_cB (c_act b c d s h.1.1.1)) (fun t ht => k_m k_mB (m_act b c d t ht))
theorem j3_trace (s : vS) (b : Int32) (h : v_I3 s) : v_T (f_Ol_trace b s) (fun r1 s1 => v_T (f_Md_trace b s1) (fun r2 s2 => v_I3 s2)) :=
  k_step h (j2_trace s b h.1) (k_cn h.1.1.1 (c_trace b s)) (fun t ht => k_mn (m_trace b t))
theorem j3_keep (s : vS) (b : Int32) (c : Int32) (h : v_I3 s) : v_T (f_Ol_keep b c s) (fun r1 s1 => v_T (f_Md_keep b c s1) (fun r2 s2 => v_I3 s2)) :=
  k_keep h (j2_keep s b c h.1)
theorem j3_row (s : vS) (b : Int32) (c : Int32) (d : Int32) (h : v_I3 s) : v_T (f_Ol_row b c d s) (fun r1 s1 => v_T (f_Md_row b c d s1) (fun r2 s2 => v_I3 s2)) :=
  k_row h (j2_row s b c d h.1)
theorem j3_put (s : vS) (b : Int32) (c : Int32) (d : Int64) (h : v_I3 s) : v_T (f_Ol_put b c d s) (fun r1 s1 => v_T (f_Md_put b c d s1) (fun r2 s2 => v_I3 s2)) :=
  k_step h (j2_put s b c d h.1) (k_c1 (c_put b c d s h.1.1.1) (p_Ol_put b c d s)) (fun t ht => k_m1 (m_put b c d t ht) (p_Md_put b c d t ht))
theorem j3_element (s : vS) (b : Int32) (c : Int32) (h : v_I3 s) : v_T (f_Ol_element b c s) (fun r1 s1 => v_T (f_Md_element b c s1) (fun r2 s2 => v_I3 s2)) :=
  k_step h (j2_element s b c h.1) (k_cn h.1.1.1 (c_element b c s)) (fun t ht => k_mn (m_element b c t ht))
theorem j3_shift (s : vS) (b : Int32) (c : Int32) (d : Int32) (e : Int32) (f : Int32) (h : v_I3 s) : v_T (f_Ol_shift b c d e f s) (fun r1 s1 => v_T (f_Md_shift b c d e f s1) (fun r2 s2 => v_I3 s2)) :=
  k_step h (j2_shift s b c d e f h.1) (k_c1 (c_shift b c d e f s h.1.1.1) (p_Ol_shift b c d e f s)) (fun t ht => k_m1 (m_shift b c d e f t ht) (p_Md_shift b c d e f t))
theorem j3_taken (s : vS) (b : Int32) (c : Int32) (h : v_I3 s) : v_T (f_Ol_taken b c s) (fun r1 s1 => v_T (f_Md_taken b c s1) (fun r2 s2 => v_I3 s2)) :=
  k_step h (j2_taken s b c h.1) (k_cn h.1.1.1 (c_taken b c s)) (fun t ht => k_mn (m_taken b c t ht))
theorem j3_count (s : vS) (b : Int32) (h : v_I3 s) : v_T (f_Ol_count b s) (fun r1 s1 => v_T (f_Md_count b s1) (fun r2 s2 => v_I3 s2)) :=
  k_step h (j2_count s b h.1) (k_c k_cA (q_qI h.1.1.1 (q_count b s))) (fun t ht => k_m k_mA (m_quiet ht (m_count b t)))
theorem j5_feed (s : vS) (b : Int32) (h : v_I5 s) : v_T (f_Ol_feed b s) (fun r1 s1 => v_T (f_Md_feed b s1) (fun r2 s2 => v_I5 s2)) :=
  o_step h (j3_feed s b h.1) (o_c k_cA (q_gI h.1.1.1.1 (g_feed b s))) (fun t ht => o_m k_mA (m_feed b t ht))
theorem j5_law (s : vS) (b : Int32) (c : Int32) (h : v_I5 s) : v_T (f_Ol_law b c s) (fun r1 s1 => v_T (f_Md_law b c s1) (fun r2 s2 => v_I5 s2)) :=
  o_step h (j3_law s b c h.1) (o_c k_cA (q_gI h.1.1.1.1 (g_law b c s))) (fun t ht => o_m k_mA (m_law b c t ht))
theorem j5_laws (s : vS) (b : Int32) (c : Int32) (d : Int32) (h : v_I5 s) : v_T (f_Ol_laws b c d s) (fun r1 s1 => v_T (f_Md_laws b c d s1) (fun r2 s2 => v_I5 s2)) :=
  o_step h (j3_laws s b c d h.1) (o_c k_cA (q_gI h.1.1.1.1 (g_laws b c d s))) (fun t ht => o_m k_mA (m_laws b c d t ht))
theorem j5_mend (s : vS) (b : Int32) (c : Int32) (d : Int32) (h : v_I5 s) : v_T (f_Ol_mend b c d s) (fun r1 s1 => v_T (f_Md_mend b c d s1) (fun r2 s2 => v_I5 s2)) :=
  o_step h (j3_mend s b c d h.1) (o_c k_cA (q_gI h.1.1.1.1 (g_mend b c d s))) (fun t ht => o_m k_mA (m_mend b c d t ht))
theorem j5_moved (s : vS) (b : Int32) (c : Int32) (d : Int32) (h : v_I5 s) : v_T (f_Ol_moved b c d s) (fun r1 s1 => v_T (f_Md_moved b c d s1) (fun r2 s2 => v_I5 s2)) :=
  o_step h (j3_moved s b c d h.1) (o_c k_cA (q_gI h.1.1.1.1 (g_moved b c d s))) (fun t ht => o_m k_mA (m_moved b c d t ht))
theorem j5_of (s : vS) (b : Int32) (c : Int32) (h : v_I5 s) : v_T (f_Ol_of b c s) (fun r1 s1 => v_T (f_Md_of b c s1) (fun r2 s2 => v_I5 s2)) :=
  o_step h (j3_of s b c h.1) (o_c k_cA (q_qI h.1.1.1.1 (q_of b c s))) (fun t ht => o_m k_mA (m_quiet ht (m_of b c t)))
theorem j5_speaks (s : vS) (b : Int32) (c : Int32) (h : v_I5 s) : v_T (f_Ol_speaks b c s) (fun r1 s1 => v_T (f_Md_speaks b c s1) (fun r2 s2 => v_I5 s2)) :=
  o_step h (j3_speaks s b c h.1) (o_c k_cA (q_qI h.1.1.1.1 (q_speaks b c s))) (fun t ht => o_m k_mA (m_quiet ht (m_speaks b c t)))
theorem j5_verdict (s : vS) (b : Int32) (c : Int32) (h : v_I5 s) : v_T (f_Ol_verdict b c s) (fun r1 s1 => v_T (f_Md_verdict b c s1) (fun r2 s2 => v_I5 s2)) :=
  o_step h (j3_verdict s b c h.1) (o_c k_cA (q_qI h.1.1.1.1 (q_verdict b c s))) (fun t ht => o_m k_mA (m_quiet ht (m_verdict b c t)))
theorem j5_judge (s : vS) (b : Int32) (h : v_I5 s) : v_T (f_Ol_judge b s) (fun r1 s1 => v_T (f_Md_judge b s1) (fun r2 s2 => v_I5 s2)) :=
  o_step h (j3_judge s b h.1) (o_c k_cA (q_qI h.1.1.1.1 (q_judge b s))) (fun t ht => o_m k_mA (m_quiet ht (m_judge b t)))
theorem j5_never (s : vS) (h : v_I5 s) : v_T (f_Ol_never s) (fun r1 s1 => v_T (f_Md_never s1) (fun r2 s2 => v_I5 s2)) :=
  o_step h (j3_never s h.1) (o_c k_cA (q_qI h.1.1.1.1 (q_never s))) (fun t ht => o_m k_mA (m_quiet ht (m_never t)))
theorem j5_clash (s : vS) (b : Int32) (c : Int32) (h : v_I5 s) : v_T (f_Ol_clash b c s) (fun r1 s1 => v_T (f_Md_clash b c s1) (fun r2 s2 => v_I5 s2)) :=
  o_step h (j3_clash s b c h.1) (o_c k_cA (q_qI h.1.1.1.1 (q_clash b c s))) (fun t ht => o_m k_mA (m_quiet ht (m_clash b c t)))
theorem j5_write (s : vS) (b : Int32) (c : Int32) (d : Int32) (h : v_I5 s) : v_T (f_Ol_write b c d s) (fun r1 s1 => v_T (f_Md_write b c d s1) (fun r2 s2 => v_I5 s2)) :=
  o_step h (j3_write s b c d h.1) (o_c k_cA (q_qI h.1.1.1.1 (q_write b c d s))) (fun t ht => o_m k_mA (m_quiet ht (m_write b c d t)))
theorem j5_bars (s : vS) (b : Int32) (c : Int32) (d : Int32) (h : v_I5 s) : v_T (f_Ol_bars b c d s) (fun r1 s1 => v_T (f_Md_bars b c d s1) (fun r2 s2 => v_I5 s2)) :=
  o_step h (j3_bars s b c d h.1) (o_c k_cA (q_qI h.1.1.1.1 (q_bars b c d s))) (fun t ht => o_m k_mA (m_quiet ht (m_bars b c d t)))
theorem j5_meant (s : vS) (b : Int32) (c : Int32) (h : v_I5 s) : v_T (f_Ol_meant b c s) (fun r1 s1 => v_T (f_Md_meant b c s1) (fun r2 s2 => v_I5 s2)) :=
  o_step h (j3_meant s b c h.1) (o_c k_cA (q_gI h.1.1.1.1 (g_meant b c s))) (fun t ht => o_m k_mA (m_meant b c t ht))
theorem j5_falseOnes (s : vS) (b : Int32) (h : v_I5 s) : v_T (f_Ol_falseOnes b s) (fun r1 s1 => v_T (f_Md_falseOnes b s1) (fun r2 s2 => v_I5 s2)) :=
  o_step h (j3_falseOnes s b h.1) (o_c k_cA (q_qI h.1.1.1.1 (q_false b s))) (fun t ht => o_m k_mA (m_quiet ht (m_falseOnes b t)))
theorem j5_under (s : vS) (b : Int32) (c : Int32) (h : v_I5 s) : v_T (f_Ol_under b c s) (fun r1 s1 => v_T (f_Md_under b c s1) (fun r2 s2 => v_I5 s2)) :=
  o_step h (j3_under s b c h.1) (o_c k_cA (q_gI h.1.1.1.1 (g_under b c s))) (fun t ht => o_m k_mA (m_quiet ht (m_under b c t)))
theorem j5_unlike (s : vS) (b : Int32) (c : Int32) (h : v_I5 s) : v_T (f_Ol_unlike b c s) (fun r1 s1 => v_T (f_Md_unlike b c s1) (fun r2 s2 => v_I5 s2)) :=
  o_step h (j3_unlike s b c h.1) (o_c k_cA (q_qI h.1.1.1.1 (q_unlike b c s))) (fun t ht => o_m k_mA (m_quiet ht (m_unlike b c t)))
theorem j5_rings (s : vS) (h : v_I5 s) : v_T (f_Ol_rings s) (fun r1 s1 => v_T (f_Md_rings s1) (fun r2 s2 => v_I5 s2)) :=
  o_step h (j3_rings s h.1) (o_cn h.1.1.1.1 (n_rings s h.1.1.1.1.1.1)) (fun t ht => o_m k_mA (m_quiet ht (m_rings t)))
theorem j5_image (s : vS) (h : v_I5 s) : v_T (f_Ol_image s) (fun r1 s1 => v_T (f_Md_image s1) (fun r2 s2 => v_I5 s2)) :=
  o_step h (j3_image s h.1) (o_c k_cA (q_gI h.1.1.1.1 (g_image s))) (fun t ht => o_m k_mA (m_image t ht))
theorem j5_back (s : vS) (h : v_I5 s) : v_T (f_Ol_back s) (fun r1 s1 => v_T (f_Md_back s1) (fun r2 s2 => v_I5 s2)) :=
  o_step h (j3_back s h.1) (o_c k_cA (q_gI h.1.1.1.1 (g_back s))) (fun t ht => o_m k_mA (m_back t ht))
theorem j5_undo (s : vS) (h : v_I5 s) : v_T (f_Ol_undo s) (fun r1 s1 => v_T (f_Md_undo s1) (fun r2 s2 => v_I5 s2)) :=
  o_step h (j3_undo s h.1) (o_c k_cA (q_gI h.1.1.1.1 (g_undo s))) (fun t ht => o_m k_mA (m_undo t ht))
theorem j5_redo (s : vS) (h : v_I5 s) : v_T (f_Ol_redo s) (fun r1 s1 => v_T (f_Md_redo s1) (fun r2 s2 => v_I5 s2)) :=
  o_step h (j3_redo s h.1) (o_c k_cA (q_gI h.1.1.1.1 (g_redo s))) (fun t ht => o_m k_mA (m_redo t ht))
theorem j5_body (s : vS) (b : Int32) (h : v_I5 s) : v_T (f_Ol_body b s) (fun r1 s1 => v_T (f_Md_body b s1) (fun r2 s2 => v_I5 s2)) :=
  o_step h (j3_body s b h.1) (o_c k_cB (c_body b s h.1.1.1.1)) (fun t ht => o_m k_mB (m_body b t ht))
theorem j5_act (s : vS) (b : Int32) (c : Int32) (d : Int32) (h : v_I5 s) : v_T (f_Ol_act b c d s) (fun r1 s1 => v_T (f_Md_act b c d s1) (fun r2 s2 => v_I5 s2)) :=
  o_step h (j3_act s b c d h.1) (o_c k_cB (c_act b c d s h.1.1.1.1)) (fun t ht => o_m k_mB (m_act b c d t ht))
theorem j5_trace (s : vS) (b : Int32) (h : v_I5 s) : v_T (f_Ol_trace b s) (fun r1 s1 => v_T (f_Md_trace b s1) (fun r2 s2 => v_I5 s2)) :=
  o_step h (j3_trace s b h.1) (o_cn h.1.1.1.1 (c_trace b s)) (fun t ht => o_mn (m_trace b t))
theorem j5_keep (s : vS) (b : Int32) (c : Int32) (h : v_I5 s) : v_T (f_Ol_keep b c s) (fun r1 s1 => v_T (f_Md_keep b c s1) (fun r2 s2 => v_I5 s2)) :=
  o_keep h (j3_keep s b c h.1)
theorem j5_row (s : vS) (b : Int32) (c : Int32) (d : Int32) (h : v_I5 s) : v_T (f_Ol_row b c d s) (fun r1 s1 => v_T (f_Md_row b c d s1) (fun r2 s2 => v_I5 s2)) :=
  o_row h (j3_row s b c d h.1)
theorem j5_put (s : vS) (b : Int32) (c : Int32) (d : Int64) (h : v_I5 s) : v_T (f_Ol_put b c d s) (fun r1 s1 => v_T (f_Md_put b c d s1) (fun r2 s2 => v_I5 s2)) :=
  o_put h (j3_put s b c d h.1)
theorem j5_element (s : vS) (b : Int32) (c : Int32) (h : v_I5 s) : v_T (f_Ol_element b c s) (fun r1 s1 => v_T (f_Md_element b c s1) (fun r2 s2 => v_I5 s2)) :=
  o_step h (j3_element s b c h.1) (o_cn h.1.1.1.1 (c_element b c s)) (fun t ht => o_mn (m_element b c t ht))
theorem j5_shift (s : vS) (b : Int32) (c : Int32) (d : Int32) (e : Int32) (f : Int32) (h : v_I5 s) : v_T (f_Ol_shift b c d e f s) (fun r1 s1 => v_T (f_Md_shift b c d e f s1) (fun r2 s2 => v_I5 s2)) :=
  o_shift h (j3_shift s b c d e f h.1)
theorem j5_taken (s : vS) (b : Int32) (c : Int32) (h : v_I5 s) : v_T (f_Ol_taken b c s) (fun r1 s1 => v_T (f_Md_taken b c s1) (fun r2 s2 => v_I5 s2)) :=
  o_step h (j3_taken s b c h.1) (o_cn h.1.1.1.1 (c_taken b c s)) (fun t ht => o_mn (m_taken b c t ht))
theorem j5_count (s : vS) (b : Int32) (h : v_I5 s) : v_T (f_Ol_count b s) (fun r1 s1 => v_T (f_Md_count b s1) (fun r2 s2 => v_I5 s2)) :=
  o_step h (j3_count s b h.1) (o_c k_cA (q_qI h.1.1.1.1 (q_count b s))) (fun t ht => o_m k_mA (m_quiet ht (m_count b t)))
theorem j7_feed (s : vS) (b : Int32) (h : v_I7 s) : v_T (f_Ol_feed b s) (fun r1 s1 => v_T (f_Md_feed b s1) (fun r2 s2 => v_I7 s2)) :=
  jr_step h (j5_feed s b h.1) (i_c i_cA (q_gI h.1.1.1.1.1 (g_feed b s))) (fun t ht => i_m i_mA (m_feed b t ht)) (fun t hJ hR => j_S_0 (j_feed hJ hR b))
theorem j7_law (s : vS) (b : Int32) (c : Int32) (h : v_I7 s) : v_T (f_Ol_law b c s) (fun r1 s1 => v_T (f_Md_law b c s1) (fun r2 s2 => v_I7 s2)) :=
  jr_step h (j5_law s b c h.1) (i_c i_cA (q_gI h.1.1.1.1.1 (g_law b c s))) (fun t ht => i_m i_mA (m_law b c t ht)) (fun t hJ hR => j_S_0 (j_law_ hJ hR h.1.1.1.1.1.1.1 b c))
theorem j7_laws (s : vS) (b : Int32) (c : Int32) (d : Int32) (h : v_I7 s) : v_T (f_Ol_laws b c d s) (fun r1 s1 => v_T (f_Md_laws b c d s1) (fun r2 s2 => v_I7 s2)) :=
  jr_stepX (X := j_X s) h (j5_laws s b c d h.1) (i_c i_cA (q_gI h.1.1.1.1.1 (g_laws b c d s))) (fun t ht => i_m i_mA (m_laws b c d t ht)) (j_Xc i_cA (q_gI h.1.1.1.1.1 (g_laws b c d s))) (fun t hl hR hX => j_S_0 (jr_laws h hl hR hX b c d))
theorem j7_mend (s : vS) (b : Int32) (c : Int32) (d : Int32) (h : v_I7 s) : v_T (f_Ol_mend b c d s) (fun r1 s1 => v_T (f_Md_mend b c d s1) (fun r2 s2 => v_I7 s2)) :=
  jr_step h (j5_mend s b c d h.1) (i_c i_cA (q_gI h.1.1.1.1.1 (g_mend b c d s))) (fun t ht => i_m i_mA (m_mend b c d t ht)) (fun t hJ hR => j_S_0 (j_mend hJ hR b c d))
theorem j7_moved (s : vS) (b : Int32) (c : Int32) (d : Int32) (h : v_I7 s) : v_T (f_Ol_moved b c d s) (fun r1 s1 => v_T (f_Md_moved b c d s1) (fun r2 s2 => v_I7 s2)) :=
  jr_step h (j5_moved s b c d h.1) (i_c i_cA (q_gI h.1.1.1.1.1 (g_moved b c d s))) (fun t ht => i_m i_mA (m_moved b c d t ht)) (fun t hJ hR => j_S_0 (j_moved hJ b c d))
theorem j7_of (s : vS) (b : Int32) (c : Int32) (h : v_I7 s) : v_T (f_Ol_of b c s) (fun r1 s1 => v_T (f_Md_of b c s1) (fun r2 s2 => v_I7 s2)) :=
  jr_step h (j5_of s b c h.1) (i_c i_cA (q_qI h.1.1.1.1.1 (q_of b c s))) (fun t ht => i_m i_mA (m_quiet ht (m_of b c t))) (fun t hJ hR => j_S0q hJ (jq_q (q_of b c s h.1.1.1.1.1.1.1)) (jm_q (m_of b c t hR.1)))
theorem j7_speaks (s : vS) (b : Int32) (c : Int32) (h : v_I7 s) : v_T (f_Ol_speaks b c s) (fun r1 s1 => v_T (f_Md_speaks b c s1) (fun r2 s2 => v_I7 s2)) :=
  jr_step h (j5_speaks s b c h.1) (i_c i_cA (q_qI h.1.1.1.1.1 (q_speaks b c s))) (fun t ht => i_m i_mA (m_quiet ht (m_speaks b c t))) (fun t hJ hR => j_S0q hJ (jq_q (q_speaks b c s h.1.1.1.1.1.1.1)) (jm_q (m_speaks b c t hR.1)))
theorem j7_verdict (s : vS) (b : Int32) (c : Int32) (h : v_I7 s) : v_T (f_Ol_verdict b c s) (fun r1 s1 => v_T (f_Md_verdict b c s1) (fun r2 s2 => v_I7 s2)) :=
  jr_step h (j5_verdict s b c h.1) (i_c i_cA (q_qI h.1.1.1.1.1 (q_verdict b c s))) (fun t ht => i_m i_mA (m_quiet ht (m_verdict b c t))) (fun t hJ hR => j_S0q hJ (jq_q (q_verdict b c s h.1.1.1.1.1.1.1)) (jm_q (m_verdict b c t hR.1)))
theorem j7_judge (s : vS) (b : Int32) (h : v_I7 s) : v_T (f_Ol_judge b s) (fun r1 s1 => v_T (f_Md_judge b s1) (fun r2 s2 => v_I7 s2)) :=
  jr_step h (j5_judge s b h.1) (i_c i_cA (q_qI h.1.1.1.1.1 (q_judge b s))) (fun t ht => i_m i_mA (m_quiet ht (m_judge b t))) (fun t hJ hR => j_S0q hJ (jq_q (q_judge b s h.1.1.1.1.1.1.1)) (jm_q (m_judge b t hR.1)))
theorem j7_never (s : vS) (h : v_I7 s) : v_T (f_Ol_never s) (fun r1 s1 => v_T (f_Md_never s1) (fun r2 s2 => v_I7 s2)) :=
  jr_step h (j5_never s h.1) (i_c i_cA (q_qI h.1.1.1.1.1 (q_never s))) (fun t ht => i_m i_mA (m_quiet ht (m_never t))) (fun t hJ hR => j_S0q hJ (jq_q (q_never s h.1.1.1.1.1.1.1)) (jm_q (m_never t hR.1)))
theorem j7_clash (s : vS) (b : Int32) (c : Int32) (h : v_I7 s) : v_T (f_Ol_clash b c s) (fun r1 s1 => v_T (f_Md_clash b c s1) (fun r2 s2 => v_I7 s2)) :=
  jr_step h (j5_clash s b c h.1) (i_c i_cA (q_qI h.1.1.1.1.1 (q_clash b c s))) (fun t ht => i_m i_mA (m_quiet ht (m_clash b c t))) (fun t hJ hR => j_S0q hJ (jq_q (q_clash b c s h.1.1.1.1.1.1.1)) (jm_q (m_clash b c t hR.1)))
theorem j7_write (s : vS) (b : Int32) (c : Int32) (d : Int32) (h : v_I7 s) : v_T (f_Ol_write b c d s) (fun r1 s1 => v_T (f_Md_write b c d s1) (fun r2 s2 => v_I7 s2)) :=
  jr_step h (j5_write s b c d h.1) (i_c i_cA (q_qI h.1.1.1.1.1 (q_write b c d s))) (fun t ht => i_m i_mA (m_quiet ht (m_write b c d t))) (fun t hJ hR => j_S0q hJ (jq_q (q_write b c d s h.1.1.1.1.1.1.1)) (jm_q (m_write b c d t hR.1)))
theorem j7_bars (s : vS) (b : Int32) (c : Int32) (d : Int32) (h : v_I7 s) : v_T (f_Ol_bars b c d s) (fun r1 s1 => v_T (f_Md_bars b c d s1) (fun r2 s2 => v_I7 s2)) :=
  jr_step h (j5_bars s b c d h.1) (i_c i_cA (q_qI h.1.1.1.1.1 (q_bars b c d s))) (fun t ht => i_m i_mA (m_quiet ht (m_bars b c d t))) (fun t hJ hR => j_S0q hJ (jq_q (q_bars b c d s h.1.1.1.1.1.1.1)) (jm_q (m_bars b c d t hR.1)))
theorem j7_meant (s : vS) (b : Int32) (c : Int32) (h : v_I7 s) : v_T (f_Ol_meant b c s) (fun r1 s1 => v_T (f_Md_meant b c s1) (fun r2 s2 => v_I7 s2)) :=
  jr_step h (j5_meant s b c h.1) (i_c i_cA (q_gI h.1.1.1.1.1 (g_meant b c s))) (fun t ht => i_m i_mA (m_meant b c t ht)) (fun t hJ hR => jr_meant hJ hR h.1.1.1.1.1.1.1 b c)
theorem j7_falseOnes (s : vS) (b : Int32) (h : v_I7 s) : v_T (f_Ol_falseOnes b s) (fun r1 s1 => v_T (f_Md_falseOnes b s1) (fun r2 s2 => v_I7 s2)) :=
  jr_step h (j5_falseOnes s b h.1) (i_c i_cA (q_qI h.1.1.1.1.1 (q_false b s))) (fun t ht => i_m i_mA (m_quiet ht (m_falseOnes b t))) (fun t hJ hR => j_S0q hJ (jq_q (q_false b s h.1.1.1.1.1.1.1)) (jm_q (m_falseOnes b t hR.1)))
theorem j7_under (s : vS) (b : Int32) (c : Int32) (h : v_I7 s) : v_T (f_Ol_under b c s) (fun r1 s1 => v_T (f_Md_under b c s1) (fun r2 s2 => v_I7 s2)) :=
  jr_step h (j5_under s b c h.1) (i_c i_cA (q_gI h.1.1.1.1.1 (g_under b c s))) (fun t ht => i_m i_mA (m_quiet ht (m_under b c t))) (fun t hJ hR => jr_under hJ hR h.1.1.1.1.1.1.1 b c)
theorem j7_unlike (s : vS) (b : Int32) (c : Int32) (h : v_I7 s) : v_T (f_Ol_unlike b c s) (fun r1 s1 => v_T (f_Md_unlike b c s1) (fun r2 s2 => v_I7 s2)) :=
  jr_step h (j5_unlike s b c h.1) (i_c i_cA (q_qI h.1.1.1.1.1 (q_unlike b c s))) (fun t ht => i_m i_mA (m_quiet ht (m_unlike b c t))) (fun t hJ hR => j_S0q hJ (jq_q (q_unlike b c s h.1.1.1.1.1.1.1)) (jm_q (m_unlike b c t hR.1)))
theorem j7_rings (s : vS) (h : v_I7 s) : v_T (f_Ol_rings s) (fun r1 s1 => v_T (f_Md_rings s1) (fun r2 s2 => v_I7 s2)) :=
  jr_step h (j5_rings s h.1) (i_cn h.1.1.1.1.1 (n_rings s h.1.1.1.1.1.1.1)) (fun t ht => i_m i_mA (m_quiet ht (m_rings t))) (fun t hJ hR => j_S0q hJ (jq_n (n_rings s h.1.1.1.1.1.1.1)) (jm_q (m_rings t hR.1)))
theorem j7_image (s : vS) (h : v_I7 s) : v_T (f_Ol_image s) (fun r1 s1 => v_T (f_Md_image s1) (fun r2 s2 => v_I7 s2)) :=
  jr_step h (j5_image s h.1) (i_c i_cA (q_gI h.1.1.1.1.1 (g_image s))) (fun t ht => i_m i_mA (m_image t ht)) (fun t hJ hR => j_S_0 (j_image hJ hR))
theorem j7_back (s : vS) (h : v_I7 s) : v_T (f_Ol_back s) (fun r1 s1 => v_T (f_Md_back s1) (fun r2 s2 => v_I7 s2)) :=
  jr_step h (j5_back s h.1) (i_c i_cA (q_gI h.1.1.1.1.1 (g_back s))) (fun t ht => i_m i_mA (m_back t ht)) (fun t hJ hR => j_S_0 (j_back hJ hR))
theorem j7_undo (s : vS) (h : v_I7 s) : v_T (f_Ol_undo s) (fun r1 s1 => v_T (f_Md_undo s1) (fun r2 s2 => v_I7 s2)) :=
  jr_step h (j5_undo s h.1) (i_c i_cA (q_gI h.1.1.1.1.1 (g_undo s))) (fun t ht => i_m i_mA (m_undo t ht)) (fun t hJ hR => j_S_0 (j_undo hJ hR))
theorem j7_redo (s : vS) (h : v_I7 s) : v_T (f_Ol_redo s) (fun r1 s1 => v_T (f_Md_redo s1) (fun r2 s2 => v_I7 s2)) :=
  jr_step h (j5_redo s h.1) (i_c i_cA (q_gI h.1.1.1.1.1 (g_redo s))) (fun t ht => i_m i_mA (m_redo t ht)) (fun t hJ hR => j_S_0 (j_redo hJ hR))
theorem j7_body (s : vS) (b : Int32) (h : v_I7 s) : v_T (f_Ol_body b s) (fun r1 s1 => v_T (f_Md_body b s1) (fun r2 s2 => v_I7 s2)) :=
  jr_step h (j5_body s b h.1) (i_c i_cB (c_body b s h.1.1.1.1.1)) (fun t ht => i_m i_mB (m_body b t ht)) (fun t hJ hR => j_S0q hJ (jq_F jp_cB (c_body b s h.1.1.1.1.1)) (jm_F jp_mB (m_body b t hR)))
theorem j7_act (s : vS) (b : Int32) (c : Int32) (d : Int32) (h : v_I7 s) : v_T (f_Ol_act b c d s) (fun r1 s1 => v_T (f_Md_act b c d s1) (fun r2 s2 => v_I7 s2)) :=
  jr_step h (j5_act s b c d h.1) (i_c i_cB (c_act b c d s h.1.1.1.1.1)) (fun t ht => i_m i_mB (m_act b c d t ht)) (fun t hJ hR => j_S0q hJ (jq_F jp_cB (c_act b c d s h.1.1.1.1.1)) (jm_F jp_mB (m_act b c d t hR)))
theorem j7_trace (s : vS) (b : Int32) (h : v_I7 s) : v_T (f_Ol_trace b s) (fun r1 s1 => v_T (f_Md_trace b s1) (fun r2 s2 => v_I7 s2)) :=
  jr_step h (j5_trace s b h.1) (i_cn h.1.1.1.1.1 (c_trace b s)) (fun t ht => i_mn ht (m_trace b t)) (fun t hJ hR => j_S0q hJ (jq_n (c_trace b s)) (jm_n (m_trace b t)))
theorem j7_keep (s : vS) (b : Int32) (c : Int32) (h : v_I7 s) : v_T (f_Ol_keep b c s) (fun r1 s1 => v_T (f_Md_keep b c s1) (fun r2 s2 => v_I7 s2)) :=
  jr_step h (j5_keep s b c h.1) (i_c i_cS (c_keep b c s h.1.1.1.1.1)) (fun t ht => i_m i_mS (m_keep2 b c t ht)) (fun t hJ hR => j_S0q hJ (jq_F jp_cS (c_keep b c s h.1.1.1.1.1)) (jm_F jp_mS (m_keep2 b c t hR)))
theorem j7_row (s : vS) (b : Int32) (c : Int32) (d : Int32) (h : v_I7 s) : v_T (f_Ol_row b c d s) (fun r1 s1 => v_T (f_Md_row b c d s1) (fun r2 s2 => v_I7 s2)) :=
  jr_step h (j5_row s b c d h.1) (i_c i_cS (c_row b c d s h.1.1.1.1.1)) (fun t ht => i_m i_mS (m_row b c d t ht)) (fun t hJ hR => j_S0q hJ (jq_F jp_cS (c_row b c d s h.1.1.1.1.1)) (jm_F jp_mS (m_row b c d t hR)))
theorem j7_put (s : vS) (b : Int32) (c : Int32) (d : Int64) (h : v_I7 s) : v_T (f_Ol_put b c d s) (fun r1 s1 => v_T (f_Md_put b c d s1) (fun r2 s2 => v_I7 s2)) :=
  jr_step h (j5_put s b c d h.1) (i_c i_cS (c_put b c d s h.1.1.1.1.1)) (fun t ht => i_m i_mS (m_put b c d t ht)) (fun t hJ hR => j_S0q hJ (jq_F jp_cS (c_put b c d s h.1.1.1.1.1)) (jm_F jp_mS (m_put b c d t hR)))
theorem j7_element (s : vS) (b : Int32) (c : Int32) (h : v_I7 s) : v_T (f_Ol_element b c s) (fun r1 s1 => v_T (f_Md_element b c s1) (fun r2 s2 => v_I7 s2)) :=
  jr_step h (j5_element s b c h.1) (i_cn h.1.1.1.1.1 (c_element b c s)) (fun t ht => i_mn ht (m_element b c t ht)) (fun t hJ hR => j_S0q hJ (jq_n (c_element b c s)) (jm_n (m_element b c t hR)))
theorem j7_shift (s : vS) (b : Int32) (c : Int32) (d : Int32) (e : Int32) (f : Int32) (h : v_I7 s) : v_T (f_Ol_shift b c d e f s) (fun r1 s1 => v_T (f_Md_shift b c d e f s1) (fun r2 s2 => v_I7 s2)) :=
  jr_step h (j5_shift s b c d e f h.1) (i_c i_cS (c_shift b c d e f s h.1.1.1.1.1)) (fun t ht => i_m i_mS (m_shift b c d e f t ht)) (fun t hJ hR => j_S0q hJ (jq_F jp_cS (c_shift b c d e f s h.1.1.1.1.1)) (jm_F jp_mS (m_shift b c d e f t hR)))
theorem j7_taken (s : vS) (b : Int32) (c : Int32) (h : v_I7 s) : v_T (f_Ol_taken b c s) (fun r1 s1 => v_T (f_Md_taken b c s1) (fun r2 s2 => v_I7 s2)) :=
  jr_step h (j5_taken s b c h.1) (i_cn h.1.1.1.1.1 (c_taken b c s)) (fun t ht => i_mn ht (m_taken b c t ht)) (fun t hJ hR => j_S0q hJ (jq_n (c_taken b c s)) (jm_n (m_taken b c t hR)))
theorem j7_count (s : vS) (b : Int32) (h : v_I7 s) : v_T (f_Ol_count b s) (fun r1 s1 => v_T (f_Md_count b s1) (fun r2 s2 => v_I7 s2)) :=
  jr_step h (j5_count s b h.1) (i_c i_cA (q_qI h.1.1.1.1.1 (q_count b s))) (fun t ht => i_m i_mA (m_quiet ht (m_count b t))) (fun t hJ hR => j_S0q hJ (jq_q (q_count b s h.1.1.1.1.1.1.1)) (jm_q (m_count b t hR.1)))
theorem i_feed (s : vS) (b : Int32) (h : v_I9 s) : v_T (f_Ol_feed b s) (fun r1 s1 => v_T (f_Md_feed b s1) (fun r2 s2 => v_I9 s2)) :=
  j9_step (j7_feed s b h.1) (k_feed b s h.2) (i_c i_cA (q_gI h.1.1.1.1.1.1 (g_feed b s))) h.1.1.1.1.1.2 (fun t ht => hi_F i_mA (m_feed b t ht))
theorem i_law (s : vS) (b : Int32) (c : Int32) (h : v_I9 s) : v_T (f_Ol_law b c s) (fun r1 s1 => v_T (f_Md_law b c s1) (fun r2 s2 => v_I9 s2)) :=
  j9_step (j7_law s b c h.1) (k_lawI h b c) (i_c i_cA (q_gI h.1.1.1.1.1.1 (g_law b c s))) h.1.1.1.1.1.2 (fun t ht => hi_F i_mA (m_law b c t ht))
theorem i_laws (s : vS) (b : Int32) (c : Int32) (d : Int32) (h : v_I9 s) : v_T (f_Ol_laws b c d s) (fun r1 s1 => v_T (f_Md_laws b c d s1) (fun r2 s2 => v_I9 s2)) :=
  j9_step (j7_laws s b c d h.1) (k_lawsI h b c d) (i_c i_cA (q_gI h.1.1.1.1.1.1 (g_laws b c d s))) h.1.1.1.1.1.2 (fun t ht => hi_F i_mA (m_laws b c d t ht))
theorem i_mend (s : vS) (b : Int32) (c : Int32) (d : Int32) (h : v_I9 s) : v_T (f_Ol_mend b c d s) (fun r1 s1 => v_T (f_Md_mend b c d s1) (fun r2 s2 => v_I9 s2)) :=
  j9_step (j7_mend s b c d h.1) (k_mend b c d s h.2) (i_c i_cA (q_gI h.1.1.1.1.1.1 (g_mend b c d s))) h.1.1.1.1.1.2 (fun t ht => hi_F i_mA (m_mend b c d t ht))
theorem i_moved (s : vS) (b : Int32) (c : Int32) (d : Int32) (h : v_I9 s) : v_T (f_Ol_moved b c d s) (fun r1 s1 => v_T (f_Md_moved b c d s1) (fun r2 s2 => v_I9 s2)) :=
  j9_step (j7_moved s b c d h.1) (k_moved b c d s h.2) (i_c i_cA (q_gI h.1.1.1.1.1.1 (g_moved b c d s))) h.1.1.1.1.1.2 (fun t ht => hi_F i_mA (m_moved b c d t ht))
theorem i_of (s : vS) (b : Int32) (c : Int32) (h : v_I9 s) : v_T (f_Ol_of b c s) (fun r1 s1 => v_T (f_Md_of b c s1) (fun r2 s2 => v_I9 s2)) :=
  j9_step (j7_of s b c h.1) (k_of b c s (j_HhI h) h.2) (i_c i_cA (q_qI h.1.1.1.1.1.1 (q_of b c s))) h.1.1.1.1.1.2 (fun t ht => hi_q (m_of b c t ht.1))
theorem i_speaks (s : vS) (b : Int32) (c : Int32) (h : v_I9 s) : v_T (f_Ol_speaks b c s) (fun r1 s1 => v_T (f_Md_speaks b c s1) (fun r2 s2 => v_I9 s2)) :=
  j9_step (j7_speaks s b c h.1) (k_speaks b c s (j_HhI h) h.2) (i_c i_cA (q_qI h.1.1.1.1.1.1 (q_speaks b c s))) h.1.1.1.1.1.2 (fun t ht => hi_q (m_speaks b c t ht.1))
theorem i_verdict (s : vS) (b : Int32) (c : Int32) (h : v_I9 s) : v_T (f_Ol_verdict b c s) (fun r1 s1 => v_T (f_Md_verdict b c s1) (fun r2 s2 => v_I9 s2)) :=
  j9_step (j7_verdict s b c h.1) (k_verdict b c s (j_HhI h) h.2) (i_c i_cA (q_qI h.1.1.1.1.1.1 (q_verdict b c s))) h.1.1.1.1.1.2 (fun t ht => hi_q (m_verdict b c t ht.1))
theorem i_judge (s : vS) (b : Int32) (h : v_I9 s) : v_T (f_Ol_judge b s) (fun r1 s1 => v_T (f_Md_judge b s1) (fun r2 s2 => v_I9 s2)) :=
  j9_step (j7_judge s b h.1) (k_judge b s (j_HhI h) h.2) (i_c i_cA (q_qI h.1.1.1.1.1.1 (q_judge b s))) h.1.1.1.1.1.2 (fun t ht => hi_q (m_judge b t ht.1))
theorem i_never (s : vS) (h : v_I9 s) : v_T (f_Ol_never s) (fun r1 s1 => v_T (f_Md_never s1) (fun r2 s2 => v_I9 s2)) :=
  j9_step (j7_never s h.1) (k_never s (j_HhI h) h.2) (i_c i_cA (q_qI h.1.1.1.1.1.1 (q_never s))) h.1.1.1.1.1.2 (fun t ht => hi_q (m_never t ht.1))
theorem i_clash (s : vS) (b : Int32) (c : Int32) (h : v_I9 s) : v_T (f_Ol_clash b c s) (fun r1 s1 => v_T (f_Md_clash b c s1) (fun r2 s2 => v_I9 s2)) :=
  j9_step (j7_clash s b c h.1) (k_clash b c s (j_HhI h) h.2) (i_c i_cA (q_qI h.1.1.1.1.1.1 (q_clash b c s))) h.1.1.1.1.1.2 (fun t ht => hi_q (m_clash b c t ht.1))
theorem i_write (s : vS) (b : Int32) (c : Int32) (d : Int32) (h : v_I9 s) : v_T (f_Ol_write b c d s) (fun r1 s1 => v_T (f_Md_write b c d s1) (fun r2 s2 => v_I9 s2)) :=
  j9_step (j7_write s b c d h.1) (k_write b c d s (j_HhI h) h.2) (i_c i_cA (q_qI h.1.1.1.1.1.1 (q_write b c d s))) h.1.1.1.1.1.2 (fun t ht => hi_q (m_write b c d t ht.1))
theorem i_bars (s : vS) (b : Int32) (c : Int32) (d : Int32) (h : v_I9 s) : v_T (f_Ol_bars b c d s) (fun r1 s1 => v_T (f_Md_bars b c d s1) (fun r2 s2 => v_I9 s2)) :=
  j9_step (j7_bars s b c d h.1) (k_bars b c d s (j_HhI h) h.2) (i_c i_cA (q_qI h.1.1.1.1.1.1 (q_bars b c d s))) h.1.1.1.1.1.2 (fun t ht => hi_q (m_bars b c d t ht.1))
theorem i_meant (s : vS) (b : Int32) (c : Int32) (h : v_I9 s) : v_T (f_Ol_meant b c s) (fun r1 s1 => v_T (f_Md_meant b c s1) (fun r2 s2 => v_I9 s2)) :=
  j9_step (j7_meant s b c h.1) (k_meant b c s (j_HhI h) h.2) (i_c i_cA (q_gI h.1.1.1.1.1.1 (g_meant b c s))) h.1.1.1.1.1.2 (fun t ht => hi_F i_mA (m_meant b c t ht))
theorem i_falseOnes (s : vS) (b : Int32) (h : v_I9 s) : v_T (f_Ol_falseOnes b s) (fun r1 s1 => v_T (f_Md_falseOnes b s1) (fun r2 s2 => v_I9 s2 ∧ r1 = r2)) :=
  j9_ansX (j9_step (j7_falseOnes s b h.1) (k_false b s (j_HhI h) h.2) (i_c i_cA (q_qI h.1.1.1.1.1.1 (q_false b s))) h.1.1.1.1.1.2 (fun t ht => hi_q (m_falseOnes b t ht.1))) (i_c i_cA (q_qI h.1.1.1.1.1.1 (q_false b s))) (j_Xc i_cA (q_qI h.1.1.1.1.1.1 (q_false b s))) (fun t hl hX r1 s1 r2 t1 e1 e2 => jr_falseOnes (j_R_M h.1.2 (j_loM hl)) (v_RI_lo h.1.1.1.1.1.2 hl) h.1.1.1.1.1.1.1.1 h.2 (jr_shelf h hl hX) b r1 s1 r2 t1 e1 e2)
theorem i_under (s : vS) (b : Int32) (c : Int32) (h : v_I9 s) : v_T (f_Ol_under b c s) (fun r1 s1 => v_T (f_Md_under b c s1) (fun r2 s2 => v_I9 s2)) :=
  j9_step (j7_under s b c h.1) (k_under b c s (j_HhI h) h.2) (i_c i_cA (q_gI h.1.1.1.1.1.1 (g_under b c s))) h.1.1.1.1.1.2 (fun t ht => hi_q (m_under b c t ht.1))
theorem i_unlike (s : vS) (b : Int32) (c : Int32) (h : v_I9 s) : v_T (f_Ol_unlike b c s) (fun r1 s1 => v_T (f_Md_unlike b c s1) (fun r2 s2 => v_I9 s2)) :=
  j9_step (j7_unlike s b c h.1) (k_unlike b c s (j_HhI h) h.2) (i_c i_cA (q_qI h.1.1.1.1.1.1 (q_unlike b c s))) h.1.1.1.1.1.2 (fun t ht => hi_q (m_unlike b c t ht.1))
theorem i_rings (s : vS) (h : v_I9 s) : v_T (f_Ol_rings s) (fun r1 s1 => v_T (f_Md_rings s1) (fun r2 s2 => v_I9 s2)) :=
  j9_step (j7_rings s h.1) (j2_n h.2 (n_rings s h.1.1.1.1.1.1.1.1)) (i_cn h.1.1.1.1.1.1 (n_rings s h.1.1.1.1.1.1.1.1)) h.1.1.1.1.1.2 (fun t ht => hi_q (m_rings t ht.1))
theorem i_image (s : vS) (h : v_I9 s) : v_T (f_Ol_image s) (fun r1 s1 => v_T (f_Md_image s1) (fun r2 s2 => v_I9 s2)) :=
  j9_step (j7_image s h.1) (k_image s h.2) (i_c i_cA (q_gI h.1.1.1.1.1.1 (g_image s))) h.1.1.1.1.1.2 (fun t ht => hi_F i_mA (m_image t ht))
theorem i_back (s : vS) (h : v_I9 s) : v_T (f_Ol_back s) (fun r1 s1 => v_T (f_Md_back s1) (fun r2 s2 => v_I9 s2)) :=
  j9_step (j7_back s h.1) (k_back s h.2) (i_c i_cA (q_gI h.1.1.1.1.1.1 (g_back s))) h.1.1.1.1.1.2 (fun t ht => hi_F i_mA (m_back t ht))
theorem i_undo (s : vS) (h : v_I9 s) : v_T (f_Ol_undo s) (fun r1 s1 => v_T (f_Md_undo s1) (fun r2 s2 => v_I9 s2)) :=
  j9_step (j7_undo s h.1) (k_undo s h.2) (i_c i_cA (q_gI h.1.1.1.1.1.1 (g_undo s))) h.1.1.1.1.1.2 (fun t ht => hi_F i_mA (m_undo t ht))
theorem i_redo (s : vS) (h : v_I9 s) : v_T (f_Ol_redo s) (fun r1 s1 => v_T (f_Md_redo s1) (fun r2 s2 => v_I9 s2)) :=
  j9_step (j7_redo s h.1) (k_redo s h.2) (i_c i_cA (q_gI h.1.1.1.1.1.1 (g_redo s))) h.1.1.1.1.1.2 (fun t ht => hi_F i_mA (m_redo t ht))
theorem i_body (s : vS) (b : Int32) (h : v_I9 s) : v_T (f_Ol_body b s) (fun r1 s1 => v_T (f_Md_body b s1) (fun r2 s2 => v_I9 s2)) :=
  j9_step (j7_body s b h.1) (j2_F jp_cB h.2 (c_body b s h.1.1.1.1.1.1)) (i_c i_cB (c_body b s h.1.1.1.1.1.1)) h.1.1.1.1.1.2 (fun t ht => hi_F i_mB (m_body b t ht))
theorem i_act (s : vS) (b : Int32) (c : Int32) (d : Int32) (h : v_I9 s) : v_T (f_Ol_act b c d s) (fun r1 s1 => v_T (f_Md_act b c d s1) (fun r2 s2 => v_I9 s2)) :=
  j9_step (j7_act s b c d h.1) (j2_F jp_cB h.2 (c_act b c d s h.1.1.1.1.1.1)) (i_c i_cB (c_act b c d s h.1.1.1.1.1.1)) h.1.1.1.1.1.2 (fun t ht => hi_F i_mB (m_act b c d t ht))
theorem i_trace (s : vS) (b : Int32) (h : v_I9 s) : v_T (f_Ol_trace b s) (fun r1 s1 => v_T (f_Md_trace b s1) (fun r2 s2 => v_I9 s2)) :=
  j9_step (j7_trace s b h.1) (j2_n h.2 (c_trace b s)) (i_cn h.1.1.1.1.1.1 (c_trace b s)) h.1.1.1.1.1.2 (fun t ht => hi_n (m_trace b t))
theorem i_keep (s : vS) (b : Int32) (c : Int32) (h : v_I9 s) : v_T (f_Ol_keep b c s) (fun r1 s1 => v_T (f_Md_keep b c s1) (fun r2 s2 => v_I9 s2)) :=
  j9_step (j7_keep s b c h.1) (j2_F jp_cS h.2 (c_keep b c s h.1.1.1.1.1.1)) (i_c i_cS (c_keep b c s h.1.1.1.1.1.1)) h.1.1.1.1.1.2 (fun t ht => hi_F i_mS (m_keep2 b c t ht))
theorem i_row (s : vS) (b : Int32) (c : Int32) (d : Int32) (h : v_I9 s) : v_T (f_Ol_row b c d s) (fun r1 s1 => v_T (f_Md_row b c d s1) (fun r2 s2 => v_I9 s2)) :=
  j9_step (j7_row s b c d h.1) (j2_F jp_cS h.2 (c_row b c d s h.1.1.1.1.1.1)) (i_c i_cS (c_row b c d s h.1.1.1.1.1.1)) h.1.1.1.1.1.2 (fun t ht => hi_F i_mS (m_row b c d t ht))
theorem i_put (s : vS) (b : Int32) (c : Int32) (d : Int64) (h : v_I9 s) : v_T (f_Ol_put b c d s) (fun r1 s1 => v_T (f_Md_put b c d s1) (fun r2 s2 => v_I9 s2)) :=
  j9_step (j7_put s b c d h.1) (j2_F jp_cS h.2 (c_put b c d s h.1.1.1.1.1.1)) (i_c i_cS (c_put b c d s h.1.1.1.1.1.1)) h.1.1.1.1.1.2 (fun t ht => hi_F i_mS (m_put b c d t ht))
theorem i_element (s : vS) (b : Int32) (c : Int32) (h : v_I9 s) : v_T (f_Ol_element b c s) (fun r1 s1 => v_T (f_Md_element b c s1) (fun r2 s2 => v_I9 s2)) :=
  j9_step (j7_element s b c h.1) (j2_n h.2 (c_element b c s)) (i_cn h.1.1.1.1.1.1 (c_element b c s)) h.1.1.1.1.1.2 (fun t ht => hi_n (m_element b c t ht))
theorem i_shift (s : vS) (b : Int32) (c : Int32) (d : Int32) (e : Int32) (f : Int32) (h : v_I9 s) : v_T (f_Ol_shift b c d e f s) (fun r1 s1 => v_T (f_Md_shift b c d e f s1) (fun r2 s2 => v_I9 s2)) :=
  j9_step (j7_shift s b c d e f h.1) (j2_F jp_cS h.2 (c_shift b c d e f s h.1.1.1.1.1.1)) (i_c i_cS (c_shift b c d e f s h.1.1.1.1.1.1)) h.1.1.1.1.1.2 (fun t ht => hi_F i_mS (m_shift b c d e f t ht))
theorem i_taken (s : vS) (b : Int32) (c : Int32) (h : v_I9 s) : v_T (f_Ol_taken b c s) (fun r1 s1 => v_T (f_Md_taken b c s1) (fun r2 s2 => v_I9 s2)) :=
  j9_step (j7_taken s b c h.1) (j2_n h.2 (c_taken b c s)) (i_cn h.1.1.1.1.1.1 (c_taken b c s)) h.1.1.1.1.1.2 (fun t ht => hi_n (m_taken b c t ht))
theorem i_count (s : vS) (b : Int32) (h : v_I9 s) : v_T (f_Ol_count b s) (fun r1 s1 => v_T (f_Md_count b s1) (fun r2 s2 => v_I9 s2)) :=
  j9_step (j7_count s b h.1) (k_count b s (j_HhI h) h.2) (i_c i_cA (q_qI h.1.1.1.1.1.1 (q_count b s))) h.1.1.1.1.1.2 (fun t ht => hi_q (m_count b t ht.1))
/-- the law in the small machine, on every script of at most 3072 ints -/
theorem s_law_all {L : Nat} (hL : L ≤ 3072) (xs : Nat → Int32) : ∃ n M', s_x s_prog s_fty s_ft (s_rows 3 L xs) n 1300 s_law 0 [(0, .retAddr 2)] [] [] = some (some (.int 1), M') ∧ M'.length ≤ 600000 ∧ s_slots M' ≤ 7302250 := by
  have h := l_loop hL (xs := xs) (I := v_I9) i_feed i_law i_laws i_mend i_moved i_of i_speaks i_verdict i_judge i_never i_clash i_write i_bars i_meant i_falseOnes i_under i_unlike i_rings i_image i_back i_undo i_redo i_body i_act i_trace i_keep i_row i_put i_element i_shift i_taken i_count 513 0 v_s0 v_I90 (by decide) (by decide) (show (L : Int) ≤ (0 : Int) + 6 * ((513 : Nat) : Int) by omega)
  rw [v_mk0] at h
  obtain ⟨n, o, M', h1, h2, h3⟩ := s_law_start h
  unfold s_Lq at h3
  subst h3
  exact ⟨n, M', h1, by rw [h2.1]; exact s_M0_size.1, by rw [h2.2.1]; exact s_M0_size.2⟩
