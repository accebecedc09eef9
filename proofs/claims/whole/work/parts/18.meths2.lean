set_option maxRecDepth 100000 in
theorem jt_m_25 : jt_mR 123 4 = true := by decide +kernel
set_option maxRecDepth 100000 in
theorem jt_m_26 : jt_mR 127 5 = true := by decide +kernel
set_option maxRecDepth 100000 in
theorem jt_m_27 : jt_mR 132 5 = true := by decide +kernel
set_option maxRecDepth 100000 in
theorem jt_m_28 : jt_mR 137 5 = true := by decide +kernel
set_option maxRecDepth 100000 in
theorem jt_m_29 : jt_mR 142 5 = true := by decide +kernel
set_option maxRecDepth 100000 in
theorem jt_m_30 : jt_mR 147 5 = true := by decide +kernel
