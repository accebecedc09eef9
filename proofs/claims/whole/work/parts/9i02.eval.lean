/-! CONSTRUCTORS, 2: what they make. -/
theorem jc_t0 : (jc_run 60 4 10 0 (lv_args 0 [.ref 0, .int 8]) [] [.inl (10, jc_def 10)]).isSome = true := by decide +kernel
theorem jc_t1 : (jc_run 400 4 3 0 (lv_args 0 [.ref 0]) [] [.inl (3, jc_def 3)]).map (fun q => q.2.length) = some 19 := by decide +kernel
