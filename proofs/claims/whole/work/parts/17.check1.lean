set_option maxRecDepth 100000 in
theorem jt_ok_8 : jt_okR 48 6 = true := by decide +kernel
set_option maxRecDepth 100000 in
theorem jt_ok_9 : jt_okR 54 6 = true := by decide +kernel
set_option maxRecDepth 100000 in
theorem jt_ok_10 : jt_okR 60 6 = true := by decide +kernel
set_option maxRecDepth 100000 in
theorem jt_ok_11 : jt_okR 66 5 = true := by decide +kernel
set_option maxRecDepth 100000 in
theorem jt_ok_12 : jt_okR 71 3 = true := by decide +kernel
set_option maxRecDepth 100000 in
theorem jt_ok_13 : jt_okR 74 6 = true := by decide +kernel
set_option maxRecDepth 100000 in
theorem jt_ok_14 : jt_okR 80 6 = true := by decide +kernel
set_option maxRecDepth 100000 in
theorem jt_ok_15 : jt_okR 86 6 = true := by decide +kernel
set_option maxRecDepth 100000 in
theorem jt_ok_16 : jt_okR 92 5 = true := by decide +kernel
