set_option maxRecDepth 100000 in
theorem jt_m_43 : jt_mR 203 5 = true := by decide +kernel
set_option maxRecDepth 100000 in
theorem jt_m_44 : jt_mR 208 5 = true := by decide +kernel
set_option maxRecDepth 100000 in
theorem jt_m_45 : jt_mR 213 5 = true := by decide +kernel
set_option maxRecDepth 100000 in
theorem jt_m_46 : jt_mR 218 3 = true := by decide +kernel
set_option maxRecDepth 100000 in
theorem jt_m_47 : jt_mR 221 4 = true := by decide +kernel
set_option maxRecDepth 100000 in
theorem jt_m_48 : jt_mR 225 5 = true := by decide +kernel
set_option maxRecDepth 100000 in
theorem jt_m_49 : jt_mR 230 3 = true := by decide +kernel
