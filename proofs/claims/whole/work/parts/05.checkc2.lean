theorem mj_decL8 : (List.range' 800 100).all (mj_decp mj_m_L_law) = true := by decide +kernel
theorem mj_decL9 : (List.range' 900 100).all (mj_decp mj_m_L_law) = true := by decide +kernel
theorem mj_decL10 : (List.range' 1000 100).all (mj_decp mj_m_L_law) = true := by decide +kernel
theorem mj_decL11 : (List.range' 1100 78).all (mj_decp mj_m_L_law) = true := by decide +kernel
