/-- class and Model agree in every operation -/
theorem math : MATH := ⟨m_eq, m_put, m_at, m_rank, m_sol, m_free, m_plain, m_dir, m_whole, m_base, m_least, m_near, m_squ, m_box, m_solves⟩
