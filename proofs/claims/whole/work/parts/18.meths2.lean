set_option maxRecDepth 100000 in
theorem jt_m_25 : jt_mR 123 4 = true := by decide +kernel
set_option maxRecDepth 100000 in
theorem jt_m_26 : jt_mR 127 5 = true := by decide +kernel
set_option maxRecDepth 100000 in
theorem jt_m_27 : jt_mR 132 5 = true := by decide +kernel
set_option maxRecDepth 100000 in
theorem jt_m_28 : jt_mR 137 5 = true := by decide +kernel
set_option maxRecDepth 100000 in
theorem jt_m_29 : jt_mR 142 5 = true := by decide +kernel
set_option maxRecDepth 100000 in
theorem jt_m_30 : jt_mR 147 5 = true := by decide +kernel
set_option maxRecDepth 100000 in
theorem jt_m_31 : jt_mR 152 5 = true := by decide +kernel
set_option maxRecDepth 100000 in
theorem jt_m_32 : jt_mR 157 5 = true := by decide +kernel
set_option maxRecDepth 100000 in
theorem jt_m_33 : jt_mR 162 5 = true := by decide +kernel
set_option maxRecDepth 100000 in
theorem jt_m_34 : jt_mR 167 2 = true := by decide +kernel
set_option maxRecDepth 100000 in
theorem jt_m_35 : jt_mR 169 2 = true := by decide +kernel
set_option maxRecDepth 100000 in
theorem jt_m_36 : jt_mR 171 4 = true := by decide +kernel
