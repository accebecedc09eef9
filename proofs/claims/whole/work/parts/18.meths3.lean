set_option maxRecDepth 100000 in
theorem jt_m_37 : jt_mR 175 5 = true := by decide +kernel
set_option maxRecDepth 100000 in
theorem jt_m_38 : jt_mR 180 4 = true := by decide +kernel
set_option maxRecDepth 100000 in
theorem jt_m_39 : jt_mR 184 5 = true := by decide +kernel
set_option maxRecDepth 100000 in
theorem jt_m_40 : jt_mR 189 5 = true := by decide +kernel
set_option maxRecDepth 100000 in
theorem jt_m_41 : jt_mR 194 4 = true := by decide +kernel
set_option maxRecDepth 100000 in
theorem jt_m_42 : jt_mR 198 5 = true := by decide +kernel
