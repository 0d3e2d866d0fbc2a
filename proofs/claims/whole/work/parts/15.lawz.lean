/-! 15.lawz: the law's rows together -/
set_option maxRecDepth 100000 in
theorem k_law_cut : m_L_law.zipIdx = ((m_L_law.zipIdx).drop 0).take 40 ++ (((m_L_law.zipIdx).drop 40).take 40 ++ (((m_L_law.zipIdx).drop 80).take 40 ++ (((m_L_law.zipIdx).drop 120).take 40 ++ (((m_L_law.zipIdx).drop 160).take 40 ++ (((m_L_law.zipIdx).drop 200).take 40 ++ (((m_L_law.zipIdx).drop 240).take 40 ++ (((m_L_law.zipIdx).drop 280).take 40 ++ (((m_L_law.zipIdx).drop 320).take 40 ++ (((m_L_law.zipIdx).drop 360).take 40 ++ (((m_L_law.zipIdx).drop 400).take 40 ++ (((m_L_law.zipIdx).drop 440).take 40 ++ (((m_L_law.zipIdx).drop 480).take 40 ++ (((m_L_law.zipIdx).drop 520).take 40))))))))))))) := rfl
set_option maxRecDepth 100000 in
theorem k_L_law : a_Mok (x, code, maxLocals, ret, m_L_law) := by
  refine ⟨List.mem_filter.mpr ⟨List.mem_cons_self, rfl⟩, by decide +kernel, by decide +kernel, by decide +kernel, ?_⟩
  show (m_L_law.zipIdx).all _ = true
  rw [k_law_cut]
  simp only [List.all_append, Bool.and_eq_true]
  exact ⟨k_law0, ⟨k_law1, ⟨k_law2, ⟨k_law3, ⟨k_law4, ⟨k_law5, ⟨k_law6, ⟨k_law7, ⟨k_law8, ⟨k_law9, ⟨k_law10, ⟨k_law11, ⟨k_law12, k_law13⟩⟩⟩⟩⟩⟩⟩⟩⟩⟩⟩⟩⟩
