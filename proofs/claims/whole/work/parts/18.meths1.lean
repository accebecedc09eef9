set_option maxRecDepth 100000 in
theorem jt_m_12 : jt_mR 60 5 = true := by decide +kernel
set_option maxRecDepth 100000 in
theorem jt_m_13 : jt_mR 65 5 = true := by decide +kernel
set_option maxRecDepth 100000 in
theorem jt_m_14 : jt_mR 70 4 = true := by decide +kernel
set_option maxRecDepth 100000 in
theorem jt_m_15 : jt_mR 74 5 = true := by decide +kernel
set_option maxRecDepth 100000 in
theorem jt_m_16 : jt_mR 79 5 = true := by decide +kernel
set_option maxRecDepth 100000 in
theorem jt_m_17 : jt_mR 84 5 = true := by decide +kernel
set_option maxRecDepth 100000 in
theorem jt_m_18 : jt_mR 89 5 = true := by decide +kernel
set_option maxRecDepth 100000 in
theorem jt_m_19 : jt_mR 94 4 = true := by decide +kernel
set_option maxRecDepth 100000 in
theorem jt_m_20 : jt_mR 98 5 = true := by decide +kernel
set_option maxRecDepth 100000 in
theorem jt_m_21 : jt_mR 103 5 = true := by decide +kernel
set_option maxRecDepth 100000 in
theorem jt_m_22 : jt_mR 108 5 = true := by decide +kernel
set_option maxRecDepth 100000 in
theorem jt_m_23 : jt_mR 113 5 = true := by decide +kernel
set_option maxRecDepth 100000 in
theorem jt_m_24 : jt_mR 118 5 = true := by decide +kernel
