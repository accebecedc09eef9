set_option maxRecDepth 100000 in
theorem jt_ok_0 : jt_okR 0 6 = true := by decide +kernel
set_option maxRecDepth 100000 in
theorem jt_ok_1 : jt_okR 6 6 = true := by decide +kernel
set_option maxRecDepth 100000 in
theorem jt_ok_2 : jt_okR 12 6 = true := by decide +kernel
set_option maxRecDepth 100000 in
theorem jt_ok_3 : jt_okR 18 6 = true := by decide +kernel
set_option maxRecDepth 100000 in
theorem jt_ok_4 : jt_okR 24 6 = true := by decide +kernel
set_option maxRecDepth 100000 in
theorem jt_ok_5 : jt_okR 30 6 = true := by decide +kernel
set_option maxRecDepth 100000 in
theorem jt_ok_6 : jt_okR 36 6 = true := by decide +kernel
set_option maxRecDepth 100000 in
theorem jt_ok_7 : jt_okR 42 6 = true := by decide +kernel
