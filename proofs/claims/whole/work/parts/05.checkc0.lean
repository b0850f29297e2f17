theorem mj_decL0 : (List.range' 0 100).all (mj_decp mj_m_L_law) = true := by decide +kernel
theorem mj_decL1 : (List.range' 100 100).all (mj_decp mj_m_L_law) = true := by decide +kernel
theorem mj_decL2 : (List.range' 200 100).all (mj_decp mj_m_L_law) = true := by decide +kernel
theorem mj_decL3 : (List.range' 300 100).all (mj_decp mj_m_L_law) = true := by decide +kernel
