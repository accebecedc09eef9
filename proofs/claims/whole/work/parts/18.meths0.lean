set_option maxRecDepth 100000 in
theorem jt_m_0 : jt_mR 0 5 = true := by decide +kernel
set_option maxRecDepth 100000 in
theorem jt_m_1 : jt_mR 5 5 = true := by decide +kernel
set_option maxRecDepth 100000 in
theorem jt_m_2 : jt_mR 10 5 = true := by decide +kernel
set_option maxRecDepth 100000 in
theorem jt_m_3 : jt_mR 15 5 = true := by decide +kernel
set_option maxRecDepth 100000 in
theorem jt_m_4 : jt_mR 20 5 = true := by decide +kernel
set_option maxRecDepth 100000 in
theorem jt_m_5 : jt_mR 25 5 = true := by decide +kernel
set_option maxRecDepth 100000 in
theorem jt_m_6 : jt_mR 30 5 = true := by decide +kernel
set_option maxRecDepth 100000 in
theorem jt_m_7 : jt_mR 35 5 = true := by decide +kernel
set_option maxRecDepth 100000 in
theorem jt_m_8 : jt_mR 40 5 = true := by decide +kernel
set_option maxRecDepth 100000 in
theorem jt_m_9 : jt_mR 45 5 = true := by decide +kernel
set_option maxRecDepth 100000 in
theorem jt_m_10 : jt_mR 50 5 = true := by decide +kernel
set_option maxRecDepth 100000 in
theorem jt_m_11 : jt_mR 55 5 = true := by decide +kernel
