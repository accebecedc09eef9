set_option maxRecDepth 100000 in
theorem jt_ok_26 : jt_okR 139 6 = true := by decide +kernel
set_option maxRecDepth 100000 in
theorem jt_ok_27 : jt_okR 145 6 = true := by decide +kernel
set_option maxRecDepth 100000 in
theorem jt_ok_28 : jt_okR 151 2 = true := by decide +kernel
set_option maxRecDepth 100000 in
theorem jt_ok_29 : jt_okR 153 4 = true := by decide +kernel
set_option maxRecDepth 100000 in
theorem jt_ok_30 : jt_okR 157 6 = true := by decide +kernel
set_option maxRecDepth 100000 in
theorem jt_ok_31 : jt_okR 163 4 = true := by decide +kernel
set_option maxRecDepth 100000 in
theorem jt_ok_32 : jt_okR 167 2 = true := by decide +kernel
set_option maxRecDepth 100000 in
theorem jt_ok_33 : jt_okR 169 1 = true := by decide +kernel
set_option maxRecDepth 100000 in
theorem jt_ok_34 : jt_okR 170 3 = true := by decide +kernel
