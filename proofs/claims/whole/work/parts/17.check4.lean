set_option maxRecDepth 100000 in
theorem jt_ok_35 : jt_okR 173 2 = true := by decide +kernel
set_option maxRecDepth 100000 in
theorem jt_ok_36 : jt_okR 175 5 = true := by decide +kernel
set_option maxRecDepth 100000 in
theorem jt_ok_37 : jt_okR 180 3 = true := by decide +kernel
set_option maxRecDepth 100000 in
theorem jt_ok_38 : jt_okR 183 4 = true := by decide +kernel
set_option maxRecDepth 100000 in
theorem jt_ok_39 : jt_okR 187 5 = true := by decide +kernel
set_option maxRecDepth 100000 in
theorem jt_ok_40 : jt_okR 192 4 = true := by decide +kernel
set_option maxRecDepth 100000 in
theorem jt_ok_41 : jt_okR 196 2 = true := by decide +kernel
set_option maxRecDepth 100000 in
theorem jt_ok_42 : jt_okR 198 5 = true := by decide +kernel
set_option maxRecDepth 100000 in
theorem jt_ok_43 : jt_okR 203 5 = true := by decide +kernel
