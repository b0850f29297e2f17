theorem mj_decL4 : (List.range' 400 100).all (mj_decp mj_m_L_law) = true := by decide +kernel
theorem mj_decL5 : (List.range' 500 100).all (mj_decp mj_m_L_law) = true := by decide +kernel
theorem mj_decL6 : (List.range' 600 100).all (mj_decp mj_m_L_law) = true := by decide +kernel
theorem mj_decL7 : (List.range' 700 100).all (mj_decp mj_m_L_law) = true := by decide +kernel
