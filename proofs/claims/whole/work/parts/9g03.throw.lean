/-! THROWS, 3: the words of the three exceptions. -/
def jth_names : List String := ["java/lang/RuntimeException", "java/lang/Exception"]
def jth_ok (w : Cond) : Bool := jf_k w && (decide (w ∈ lw_tbl) || decide (w = .isRef (.static "java/lang/Throwable" "UNASSIGNED_STACK" "[Ljava/lang/StackTraceElement;")) || decide (w = .isRef (.static "java/lang/Throwable" "SUPPRESSED_SENTINEL" "Ljava/util/List;")))
theorem jth_a : (Bundle.ownAtoms "LazyStrict" 91 "java/lang/IllegalArgumentException" jth_names).all jth_ok = true := by decide +kernel
theorem jth_b : (Bundle.ownAtoms "LazyStrict" 144 "java/lang/IndexOutOfBoundsException" jth_names).all jth_ok = true := by decide +kernel
theorem jth_c : (Bundle.ownAtoms "LazyStrict" 204 "java/lang/IllegalStateException" jth_names).all jth_ok = true := by decide +kernel
