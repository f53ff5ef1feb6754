theorem mL_cut : m_il mL = mLi0 ++ (mLi1 ++ (mLi2 ++ (mLi3 ++ (mLi4 ++ (mLi5 ++ (mLi6 ++ (mLi7 ++ (mLi8)))))))) := by decide +kernel
theorem mLk_ok : ilOK mL = true ∧ oNm[m_o mL]? = some (m_y mL).cls := by
  refine ⟨?_, by decide +kernel⟩
  unfold ilOK
  rw [mL_cut]
  exact all_app mLk0 (all_app mLk1 (all_app mLk2 (all_app mLk3 (all_app mLk4 (all_app mLk5 (all_app mLk6 (all_app mLk7 (mLk8))))))))
