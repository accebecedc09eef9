set_option maxRecDepth 100000 in
theorem jt_ok_17 : jt_okR 97 6 = true := by decide +kernel
set_option maxRecDepth 100000 in
theorem jt_ok_18 : jt_okR 103 3 = true := by decide +kernel
set_option maxRecDepth 100000 in
theorem jt_ok_19 : jt_okR 106 6 = true := by decide +kernel
set_option maxRecDepth 100000 in
theorem jt_ok_20 : jt_okR 112 5 = true := by decide +kernel
set_option maxRecDepth 100000 in
theorem jt_ok_21 : jt_okR 117 5 = true := by decide +kernel
set_option maxRecDepth 100000 in
theorem jt_ok_22 : jt_okR 122 2 = true := by decide +kernel
set_option maxRecDepth 100000 in
theorem jt_ok_23 : jt_okR 124 3 = true := by decide +kernel
set_option maxRecDepth 100000 in
theorem jt_ok_24 : jt_okR 127 6 = true := by decide +kernel
set_option maxRecDepth 100000 in
theorem jt_ok_25 : jt_okR 133 6 = true := by decide +kernel
