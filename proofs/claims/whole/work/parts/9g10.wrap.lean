/-! THE LAW'S WRAPPERS, 2: each of the eight. -/
theorem jt_inT {w : Cond} (h1 : w ∈ lw_tbl) (h2 : goodWord w = true) : w ∈ jt_Ts := List.mem_filter.mpr ⟨h1, h2⟩
/-- the start's words, with what run needs -/
def jW1 (s0 : State) : Prop := jW0 s0 ∧ ∃ a0 : Array Value, (Cond.not (.castable "java/lang/IllegalArgumentException" "java/lang/IndexOutOfBoundsException")).before a0 s0 = true
/-- what a wrapper and the reference behind it come to -/
def jx_Wr (l : Launch) (s0 : State) (D : va_G) (dA : Nat → ClassId) (ad : Nat → Nat) (y : MethodName) (bytes : ByteArray) (mxL : Nat) (hh : List (Nat × Nat × Nat × Nat)) (as : List Value) (mr : Nat) (asr : List Value) (σ : jx_S) : Prop := ∃ k σ' b σ2, jx_WrM l s0 D dA ad y bytes mxL hh as σ k σ' ∧ jE 400 mr 0 (lv_args 0 asr) [] σ' (some (.int b), σ2) ∧ σ2.1 106 2 = k ∧ (k = 0 → σ2.2 171 0 = b.toInt64) ∧ IV2 σ2 σ2
theorem wp_feed (x1 : Int32) (x2 : Int64) : jw_pre method_3_code 6 6 [.ref 0, .int x1, .long x2, .ref 171] [.int x1, .long x2] := by
  intro ad p l e R s m args below meth c H locs cells slots Q ls hx hb hl k
  replace hl : lv_has ls 6 [(0, .ref (ad 0)), (1, .int x1), (2, .long x2), (4, .ref (ad 171))] := hl
  refine lv_aload hx hb (show decode method_3_code 0 = .ok (.aload 4, 2) by decide +kernel) (lv_at hl 3 rfl) ?_
  refine lv_iconst (v := 0) hx hb (show decode method_3_code 2 = .ok (.iconst 0, 1) by decide +kernel) (by decide) ?_
  refine lv_aload_n hx hb (show decode method_3_code 3 = .ok (.aload_n 0, 1) by decide +kernel) rfl (lv_at hl 0 rfl) ?_
  refine lv_iload_n hx hb (show decode method_3_code 4 = .ok (.iload_n 1, 1) by decide +kernel) rfl (lv_at hl 1 rfl) ?_
  refine lv_lload_n hx hb (show decode method_3_code 5 = .ok (.lload_n 2, 1) by decide +kernel) rfl (lv_at hl 2 rfl) ?_
  exact k
theorem wh_feed1 (x1 : Int32) (x2 : Int64) : jw_hnd method_3_code 6 14 1 [.ref 0, .int x1, .long x2, .ref 171] := by
  refine ⟨17, by decide +kernel, ?_⟩
  intro ad p l e R s m args below meth c H locs cells slots Q ls x hx hb hl k
  refine lv_astore hx hb (show decode method_3_code 14 = .ok (.astore 5, 2) by decide +kernel) hl (by decide) rfl (fun ls1 hl1 => ?_)
  refine lv_iconst (v := 1) hx hb (show decode method_3_code 16 = .ok (.iconst 1, 1) by decide +kernel) (by decide) ?_
  exact k ls1
theorem wp_function (x1 : Int32) (x2 : Int32) : jw_pre method_4_code 5 5 [.ref 0, .int x1, .int x2, .ref 171] [.int x1, .int x2] := by
  intro ad p l e R s m args below meth c H locs cells slots Q ls hx hb hl k
  replace hl : lv_has ls 5 [(0, .ref (ad 0)), (1, .int x1), (2, .int x2), (3, .ref (ad 171))] := hl
  refine lv_aload_n hx hb (show decode method_4_code 0 = .ok (.aload_n 3, 1) by decide +kernel) rfl (lv_at hl 3 rfl) ?_
  refine lv_iconst (v := 0) hx hb (show decode method_4_code 1 = .ok (.iconst 0, 1) by decide +kernel) (by decide) ?_
  refine lv_aload_n hx hb (show decode method_4_code 2 = .ok (.aload_n 0, 1) by decide +kernel) rfl (lv_at hl 0 rfl) ?_
  refine lv_iload_n hx hb (show decode method_4_code 3 = .ok (.iload_n 1, 1) by decide +kernel) rfl (lv_at hl 1 rfl) ?_
  refine lv_iload_n hx hb (show decode method_4_code 4 = .ok (.iload_n 2, 1) by decide +kernel) rfl (lv_at hl 2 rfl) ?_
  exact k
theorem wh_function1 (x1 : Int32) (x2 : Int32) : jw_hnd method_4_code 5 13 1 [.ref 0, .int x1, .int x2, .ref 171] := by
  refine ⟨16, by decide +kernel, ?_⟩
  intro ad p l e R s m args below meth c H locs cells slots Q ls x hx hb hl k
  refine lv_astore hx hb (show decode method_4_code 13 = .ok (.astore 4, 2) by decide +kernel) hl (by decide) rfl (fun ls1 hl1 => ?_)
  refine lv_iconst (v := 1) hx hb (show decode method_4_code 15 = .ok (.iconst 1, 1) by decide +kernel) (by decide) ?_
  exact k ls1
theorem wp_parameter (x1 : Int32) (x2 : Int32) (x3 : Int32) : jw_pre method_5_code 6 7 [.ref 0, .int x1, .int x2, .int x3, .ref 171] [.int x1, .int x2, .int x3] := by
  intro ad p l e R s m args below meth c H locs cells slots Q ls hx hb hl k
  replace hl : lv_has ls 6 [(0, .ref (ad 0)), (1, .int x1), (2, .int x2), (3, .int x3), (4, .ref (ad 171))] := hl
  refine lv_aload hx hb (show decode method_5_code 0 = .ok (.aload 4, 2) by decide +kernel) (lv_at hl 4 rfl) ?_
  refine lv_iconst (v := 0) hx hb (show decode method_5_code 2 = .ok (.iconst 0, 1) by decide +kernel) (by decide) ?_
  refine lv_aload_n hx hb (show decode method_5_code 3 = .ok (.aload_n 0, 1) by decide +kernel) rfl (lv_at hl 0 rfl) ?_
  refine lv_iload_n hx hb (show decode method_5_code 4 = .ok (.iload_n 1, 1) by decide +kernel) rfl (lv_at hl 1 rfl) ?_
  refine lv_iload_n hx hb (show decode method_5_code 5 = .ok (.iload_n 2, 1) by decide +kernel) rfl (lv_at hl 2 rfl) ?_
  refine lv_iload_n hx hb (show decode method_5_code 6 = .ok (.iload_n 3, 1) by decide +kernel) rfl (lv_at hl 3 rfl) ?_
  exact k
theorem wh_parameter1 (x1 : Int32) (x2 : Int32) (x3 : Int32) : jw_hnd method_5_code 6 15 1 [.ref 0, .int x1, .int x2, .int x3, .ref 171] := by
  refine ⟨18, by decide +kernel, ?_⟩
  intro ad p l e R s m args below meth c H locs cells slots Q ls x hx hb hl k
  refine lv_astore hx hb (show decode method_5_code 15 = .ok (.astore 5, 2) by decide +kernel) hl (by decide) rfl (fun ls1 hl1 => ?_)
  refine lv_iconst (v := 1) hx hb (show decode method_5_code 17 = .ok (.iconst 1, 1) by decide +kernel) (by decide) ?_
  exact k ls1
theorem wp_value (x1 : Int32) (x2 : Int32) : jw_pre method_6_code 5 5 [.ref 0, .int x1, .int x2, .ref 171] [.int x1, .int x2] := by
  intro ad p l e R s m args below meth c H locs cells slots Q ls hx hb hl k
  replace hl : lv_has ls 5 [(0, .ref (ad 0)), (1, .int x1), (2, .int x2), (3, .ref (ad 171))] := hl
  refine lv_aload_n hx hb (show decode method_6_code 0 = .ok (.aload_n 3, 1) by decide +kernel) rfl (lv_at hl 3 rfl) ?_
  refine lv_iconst (v := 0) hx hb (show decode method_6_code 1 = .ok (.iconst 0, 1) by decide +kernel) (by decide) ?_
  refine lv_aload_n hx hb (show decode method_6_code 2 = .ok (.aload_n 0, 1) by decide +kernel) rfl (lv_at hl 0 rfl) ?_
  refine lv_iload_n hx hb (show decode method_6_code 3 = .ok (.iload_n 1, 1) by decide +kernel) rfl (lv_at hl 1 rfl) ?_
  refine lv_iload_n hx hb (show decode method_6_code 4 = .ok (.iload_n 2, 1) by decide +kernel) rfl (lv_at hl 2 rfl) ?_
  exact k
theorem wh_value1 (x1 : Int32) (x2 : Int32) : jw_hnd method_6_code 5 13 1 [.ref 0, .int x1, .int x2, .ref 171] := by
  refine ⟨16, by decide +kernel, ?_⟩
  intro ad p l e R s m args below meth c H locs cells slots Q ls x hx hb hl k
  refine lv_astore hx hb (show decode method_6_code 13 = .ok (.astore 4, 2) by decide +kernel) hl (by decide) rfl (fun ls1 hl1 => ?_)
  refine lv_iconst (v := 1) hx hb (show decode method_6_code 15 = .ok (.iconst 1, 1) by decide +kernel) (by decide) ?_
  exact k ls1
theorem wp_argument (x1 : Int32) : jw_pre method_7_code 4 4 [.ref 0, .int x1, .ref 171] [.int x1] := by
  intro ad p l e R s m args below meth c H locs cells slots Q ls hx hb hl k
  replace hl : lv_has ls 4 [(0, .ref (ad 0)), (1, .int x1), (2, .ref (ad 171))] := hl
  refine lv_aload_n hx hb (show decode method_7_code 0 = .ok (.aload_n 2, 1) by decide +kernel) rfl (lv_at hl 2 rfl) ?_
  refine lv_iconst (v := 0) hx hb (show decode method_7_code 1 = .ok (.iconst 0, 1) by decide +kernel) (by decide) ?_
  refine lv_aload_n hx hb (show decode method_7_code 2 = .ok (.aload_n 0, 1) by decide +kernel) rfl (lv_at hl 0 rfl) ?_
  refine lv_iload_n hx hb (show decode method_7_code 3 = .ok (.iload_n 1, 1) by decide +kernel) rfl (lv_at hl 1 rfl) ?_
  exact k
theorem wh_argument1 (x1 : Int32) : jw_hnd method_7_code 4 12 1 [.ref 0, .int x1, .ref 171] := by
  refine ⟨14, by decide +kernel, ?_⟩
  intro ad p l e R s m args below meth c H locs cells slots Q ls x hx hb hl k
  refine lv_astore_n hx hb (show decode method_7_code 12 = .ok (.astore_n 3, 1) by decide +kernel) rfl hl (by decide) rfl (fun ls1 hl1 => ?_)
  refine lv_iconst (v := 1) hx hb (show decode method_7_code 13 = .ok (.iconst 1, 1) by decide +kernel) (by decide) ?_
  exact k ls1
theorem wp_run (x1 : Int32) (x2 : Int32) (x3 : Int32) : jw_pre method_8_code 6 7 [.ref 0, .int x1, .int x2, .int x3, .ref 171] [.int x1, .int x2, .int x3] := by
  intro ad p l e R s m args below meth c H locs cells slots Q ls hx hb hl k
  replace hl : lv_has ls 6 [(0, .ref (ad 0)), (1, .int x1), (2, .int x2), (3, .int x3), (4, .ref (ad 171))] := hl
  refine lv_aload hx hb (show decode method_8_code 0 = .ok (.aload 4, 2) by decide +kernel) (lv_at hl 4 rfl) ?_
  refine lv_iconst (v := 0) hx hb (show decode method_8_code 2 = .ok (.iconst 0, 1) by decide +kernel) (by decide) ?_
  refine lv_aload_n hx hb (show decode method_8_code 3 = .ok (.aload_n 0, 1) by decide +kernel) rfl (lv_at hl 0 rfl) ?_
  refine lv_iload_n hx hb (show decode method_8_code 4 = .ok (.iload_n 1, 1) by decide +kernel) rfl (lv_at hl 1 rfl) ?_
  refine lv_iload_n hx hb (show decode method_8_code 5 = .ok (.iload_n 2, 1) by decide +kernel) rfl (lv_at hl 2 rfl) ?_
  refine lv_iload_n hx hb (show decode method_8_code 6 = .ok (.iload_n 3, 1) by decide +kernel) rfl (lv_at hl 3 rfl) ?_
  exact k
theorem wh_run1 (x1 : Int32) (x2 : Int32) (x3 : Int32) : jw_hnd method_8_code 6 15 1 [.ref 0, .int x1, .int x2, .int x3, .ref 171] := by
  refine ⟨18, by decide +kernel, ?_⟩
  intro ad p l e R s m args below meth c H locs cells slots Q ls x hx hb hl k
  refine lv_astore hx hb (show decode method_8_code 15 = .ok (.astore 5, 2) by decide +kernel) hl (by decide) rfl (fun ls1 hl1 => ?_)
  refine lv_iconst (v := 1) hx hb (show decode method_8_code 17 = .ok (.iconst 1, 1) by decide +kernel) (by decide) ?_
  exact k ls1
theorem wh_run2 (x1 : Int32) (x2 : Int32) (x3 : Int32) : jw_hnd method_8_code 6 19 2 [.ref 0, .int x1, .int x2, .int x3, .ref 171] := by
  refine ⟨22, by decide +kernel, ?_⟩
  intro ad p l e R s m args below meth c H locs cells slots Q ls x hx hb hl k
  refine lv_astore hx hb (show decode method_8_code 19 = .ok (.astore 5, 2) by decide +kernel) hl (by decide) rfl (fun ls1 hl1 => ?_)
  refine lv_iconst (v := 2) hx hb (show decode method_8_code 21 = .ok (.iconst 2, 1) by decide +kernel) (by decide) ?_
  exact k ls1
theorem wp_told (x1 : Int32) : jw_pre method_9_code 4 4 [.ref 0, .int x1, .ref 171] [.int x1] := by
  intro ad p l e R s m args below meth c H locs cells slots Q ls hx hb hl k
  replace hl : lv_has ls 4 [(0, .ref (ad 0)), (1, .int x1), (2, .ref (ad 171))] := hl
  refine lv_aload_n hx hb (show decode method_9_code 0 = .ok (.aload_n 2, 1) by decide +kernel) rfl (lv_at hl 2 rfl) ?_
  refine lv_iconst (v := 0) hx hb (show decode method_9_code 1 = .ok (.iconst 0, 1) by decide +kernel) (by decide) ?_
  refine lv_aload_n hx hb (show decode method_9_code 2 = .ok (.aload_n 0, 1) by decide +kernel) rfl (lv_at hl 0 rfl) ?_
  refine lv_iload_n hx hb (show decode method_9_code 3 = .ok (.iload_n 1, 1) by decide +kernel) rfl (lv_at hl 1 rfl) ?_
  exact k
theorem wh_told1 (x1 : Int32) : jw_hnd method_9_code 4 12 1 [.ref 0, .int x1, .ref 171] := by
  refine ⟨14, by decide +kernel, ?_⟩
  intro ad p l e R s m args below meth c H locs cells slots Q ls x hx hb hl k
  refine lv_astore_n hx hb (show decode method_9_code 12 = .ok (.astore_n 3, 1) by decide +kernel) rfl hl (by decide) rfl (fun ls1 hl1 => ?_)
  refine lv_iconst (v := 1) hx hb (show decode method_9_code 13 = .ok (.iconst 1, 1) by decide +kernel) (by decide) ?_
  exact k ls1
theorem wp_element (x1 : Int32) : jw_pre method_10_code 4 4 [.ref 0, .int x1, .ref 171] [.int x1] := by
  intro ad p l e R s m args below meth c H locs cells slots Q ls hx hb hl k
  replace hl : lv_has ls 4 [(0, .ref (ad 0)), (1, .int x1), (2, .ref (ad 171))] := hl
  refine lv_aload_n hx hb (show decode method_10_code 0 = .ok (.aload_n 2, 1) by decide +kernel) rfl (lv_at hl 2 rfl) ?_
  refine lv_iconst (v := 0) hx hb (show decode method_10_code 1 = .ok (.iconst 0, 1) by decide +kernel) (by decide) ?_
  refine lv_aload_n hx hb (show decode method_10_code 2 = .ok (.aload_n 0, 1) by decide +kernel) rfl (lv_at hl 0 rfl) ?_
  refine lv_iload_n hx hb (show decode method_10_code 3 = .ok (.iload_n 1, 1) by decide +kernel) rfl (lv_at hl 1 rfl) ?_
  exact k
theorem wh_element1 (x1 : Int32) : jw_hnd method_10_code 4 12 1 [.ref 0, .int x1, .ref 171] := by
  refine ⟨14, by decide +kernel, ?_⟩
  intro ad p l e R s m args below meth c H locs cells slots Q ls x hx hb hl k
  refine lv_astore_n hx hb (show decode method_10_code 12 = .ok (.astore_n 3, 1) by decide +kernel) rfl hl (by decide) rfl (fun ls1 hl1 => ?_)
  refine lv_iconst (v := 1) hx hb (show decode method_10_code 13 = .ok (.iconst 1, 1) by decide +kernel) (by decide) ?_
  exact k ls1
