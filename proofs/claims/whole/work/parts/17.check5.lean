set_option maxRecDepth 100000 in
theorem jt_ok_44 : jt_okR 208 5 = true := by decide +kernel
set_option maxRecDepth 100000 in
theorem jt_ok_45 : jt_okR 213 2 = true := by decide +kernel
set_option maxRecDepth 100000 in
theorem jt_ok_46 : jt_okR 215 4 = true := by decide +kernel
set_option maxRecDepth 100000 in
theorem jt_ok_47 : jt_okR 219 1 = true := by decide +kernel
set_option maxRecDepth 100000 in
theorem jt_ok_48 : jt_okR 220 2 = true := by decide +kernel
set_option maxRecDepth 100000 in
theorem jt_ok_49 : jt_okR 222 2 = true := by decide +kernel
set_option maxRecDepth 100000 in
theorem jt_ok_50 : jt_okR 224 4 = true := by decide +kernel
set_option maxRecDepth 100000 in
theorem jt_ok_51 : jt_okR 228 3 = true := by decide +kernel
set_option maxRecDepth 100000 in
theorem jt_ok_52 : jt_okR 231 2 = true := by decide +kernel
