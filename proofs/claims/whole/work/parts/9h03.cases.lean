/-! THE LAW, 3: its cases. -/
theorem cs_feed {p : Program} {l : Launch} {e : Env} {s : State} {m : MethodId} {below : List Frame} {meth : Method} {c : Code} {b L : Nat} {xs : Nat → Int32} {D : va_G} {dA : Nat → ClassId} {ad : Nat → Nat} {Q : State → Prop} {cells slots : Nat} {i : Int32} {σ : jx_S} (Z : lwZ p l s m meth c b L xs D dA ad) (hi : vp_in (i + 1) L ∧ vp_in (i + 2) L ∧ vp_in (i + 3) L) (hcs : cells + 1 ≤ 601024 ∧ slots + 6 ≤ 7293034) (h : IV2 σ σ) (k : ∀ σ2, IV2 σ2 σ2 → lwG p l e s m below meth c b Q D dA ad 778 [(0, .ref b), (1, .ref (ad 0)), (2, .ref (ad 106)), (3, .ref (ad 171)), (4, .int i)] [] σ2 (cells + 1) (slots + 6)) : lwG p l e s m below meth c b Q D dA ad 108 [(0, .ref b), (1, .ref (ad 0)), (2, .ref (ad 106)), (3, .ref (ad 171)), (4, .int i)] [] σ cells slots := by
  obtain ⟨⟨hx, hb, hr, hml, hown, htsl, hX, hbl, hlocks, hgv⟩, hK, had, h1, htr⟩ := id Z
  obtain ⟨hts, hA, hbA, hW0⟩ := lwZ_of Z
  obtain ⟨i1, i2, i3⟩ := hi
  intro H locs ls hl hP hD hS
  have hFH : ∀ a, a < s.heap.size → H[a]? = s.heap[a]? := fun a ha => hS.2.1 a ha (Nat.not_le.mpr ha)
  obtain ⟨kk, σ1, bb, σ2, hM, hE, e1, e2, e3⟩ := wr_feed (l := l) (D := D) (dA := dA) h1 htr had h (xs (i + 1).toNatClampNeg) (lawE (xs (i + 2).toNatClampNeg) (xs (i + 3).toNatClampNeg))
  refine lv_aload_n hx hb (show decode code 108 = .ok (.aload_n 1, 1) by decide +kernel) rfl (lv_at hl 1 rfl) ?_
  refine lv_aload_n hx hb (show decode code 109 = .ok (.aload_n 0, 1) by decide +kernel) rfl (lv_at hl 0 rfl) ?_
  refine lv_iload hx hb (show decode code 110 = .ok (.iload 4, 2) by decide +kernel) (lv_at hl 4 rfl) ?_
  refine lv_iconst (v := 1) hx hb (show decode code 112 = .ok (.iconst 1, 1) by decide +kernel) (by decide) ?_
  refine lv_iadd hx hb (show decode code 113 = .ok (.iadd, 1) by decide +kernel) ?_
  refine va_sld hx hb hX hbl hbA hS i1 (show decode code 114 = .ok (.iaload, 1) by decide +kernel) ?_
  refine lv_aload_n hx hb (show decode code 115 = .ok (.aload_n 0, 1) by decide +kernel) rfl (lv_at hl 0 rfl) ?_
  refine lv_iload hx hb (show decode code 116 = .ok (.iload 4, 2) by decide +kernel) (lv_at hl 4 rfl) ?_
  refine lv_iconst (v := 2) hx hb (show decode code 118 = .ok (.iconst 2, 1) by decide +kernel) (by decide) ?_
  refine lv_iadd hx hb (show decode code 119 = .ok (.iadd, 1) by decide +kernel) ?_
  refine va_sld hx hb hX hbl hbA hS i2 (show decode code 120 = .ok (.iaload, 1) by decide +kernel) ?_
  refine lv_i2l hx hb (show decode code 121 = .ok (.i2l, 1) by decide +kernel) rfl ?_
  refine lv_bipush (v := 32) hx hb (show decode code 122 = .ok (.bipush 32, 2) by decide +kernel) (by decide) ?_
  refine lv_lshl hx hb (show decode code 124 = .ok (.lshl, 1) by decide +kernel) rfl ?_
  refine lv_aload_n hx hb (show decode code 125 = .ok (.aload_n 0, 1) by decide +kernel) rfl (lv_at hl 0 rfl) ?_
  refine lv_iload hx hb (show decode code 126 = .ok (.iload 4, 2) by decide +kernel) (lv_at hl 4 rfl) ?_
  refine lv_iconst (v := 3) hx hb (show decode code 128 = .ok (.iconst 3, 1) by decide +kernel) (by decide) ?_
  refine lv_iadd hx hb (show decode code 129 = .ok (.iadd, 1) by decide +kernel) ?_
  refine va_sld hx hb hX hbl hbA hS i3 (show decode code 130 = .ok (.iaload, 1) by decide +kernel) ?_
  refine lv_i2l hx hb (show decode code 131 = .ok (.i2l, 1) by decide +kernel) rfl ?_
  refine lv_ldc2 (v := 4294967295) hx hb hown (htsl _ (by decide +kernel)) (show decode code 132 = .ok (.ldc2_w 48, 3) by decide +kernel) ?_
  refine lv_land hx hb (show decode code 135 = .ok (.land, 1) by decide +kernel) ?_
  refine lv_lor hx hb (show decode code 136 = .ok (.lor, 1) by decide +kernel) ?_
  refine lv_aload_n hx hb (show decode code 137 = .ok (.aload_n 3, 1) by decide +kernel) rfl (lv_at hl 3 rfl) ?_
  refine jl_wcall (n := 0) (A := fun q : Nat => s.heap.size ≤ q) (H0 := s.heap) (nL := 7) (ix := 50) (as := [.ref 0, .int (xs (i + 1).toNatClampNeg), .long (lawE (xs (i + 2).toNatClampNeg) (xs (i + 3).toNatClampNeg)), .ref 171]) (rest := []) hM rfl (show (parseMethodDescriptor "(LLazyStrict;IJ[J)I").map (fun d => d.parameters.length) = some 4 by decide +kernel) (jt_inT (by decide +kernel) rfl) (jt_inT (by decide +kernel) rfl) (jt_inT (by decide +kernel) rfl) (jt_inT (by decide +kernel) rfl) (by decide) hx hb hml hl.1 hown hts hK hA (State.WarmedH.refl s) hFH (by decide) (by decide) hcs.1 hcs.2 (show decode code 138 = .ok (.invokestatic 50, 3) by decide +kernel) (by decide) hP hD hS (fun H1 locs1 hP hD hS => ?_)
  refine lv_istore (lv' := [(5, .int kk), (0, .ref b), (1, .ref (ad 0)), (2, .ref (ad 106)), (3, .ref (ad 171)), (4, .int i)]) hx hb (show decode code 141 = .ok (.istore 5, 2) by decide +kernel) hl (by decide) rfl (fun ls hl => ?_)
  refine lv_aload_n hx hb (show decode code 143 = .ok (.aload_n 2, 1) by decide +kernel) rfl (lv_at hl 3 rfl) ?_
  refine lv_aload_n hx hb (show decode code 144 = .ok (.aload_n 0, 1) by decide +kernel) rfl (lv_at hl 1 rfl) ?_
  refine lv_iload hx hb (show decode code 145 = .ok (.iload 4, 2) by decide +kernel) (lv_at hl 5 rfl) ?_
  refine lv_iconst (v := 1) hx hb (show decode code 147 = .ok (.iconst 1, 1) by decide +kernel) (by decide) ?_
  refine lv_iadd hx hb (show decode code 148 = .ok (.iadd, 1) by decide +kernel) ?_
  refine va_sld hx hb hX hbl hbA hS i1 (show decode code 149 = .ok (.iaload, 1) by decide +kernel) ?_
  refine lv_aload_n hx hb (show decode code 150 = .ok (.aload_n 0, 1) by decide +kernel) rfl (lv_at hl 1 rfl) ?_
  refine lv_iload hx hb (show decode code 151 = .ok (.iload 4, 2) by decide +kernel) (lv_at hl 5 rfl) ?_
  refine lv_iconst (v := 2) hx hb (show decode code 153 = .ok (.iconst 2, 1) by decide +kernel) (by decide) ?_
  refine lv_iadd hx hb (show decode code 154 = .ok (.iadd, 1) by decide +kernel) ?_
  refine va_sld hx hb hX hbl hbA hS i2 (show decode code 155 = .ok (.iaload, 1) by decide +kernel) ?_
  refine lv_i2l hx hb (show decode code 156 = .ok (.i2l, 1) by decide +kernel) rfl ?_
  refine lv_bipush (v := 32) hx hb (show decode code 157 = .ok (.bipush 32, 2) by decide +kernel) (by decide) ?_
  refine lv_lshl hx hb (show decode code 159 = .ok (.lshl, 1) by decide +kernel) rfl ?_
  refine lv_aload_n hx hb (show decode code 160 = .ok (.aload_n 0, 1) by decide +kernel) rfl (lv_at hl 1 rfl) ?_
  refine lv_iload hx hb (show decode code 161 = .ok (.iload 4, 2) by decide +kernel) (lv_at hl 5 rfl) ?_
  refine lv_iconst (v := 3) hx hb (show decode code 163 = .ok (.iconst 3, 1) by decide +kernel) (by decide) ?_
  refine lv_iadd hx hb (show decode code 164 = .ok (.iadd, 1) by decide +kernel) ?_
  refine va_sld hx hb hX hbl hbA hS i3 (show decode code 165 = .ok (.iaload, 1) by decide +kernel) ?_
  refine lv_i2l hx hb (show decode code 166 = .ok (.i2l, 1) by decide +kernel) rfl ?_
  refine lv_ldc2 (v := 4294967295) hx hb hown (htsl _ (by decide +kernel)) (show decode code 167 = .ok (.ldc2_w 48, 3) by decide +kernel) ?_
  refine lv_land hx hb (show decode code 170 = .ok (.land, 1) by decide +kernel) ?_
  refine lv_lor hx hb (show decode code 171 = .ok (.lor, 1) by decide +kernel) ?_
  refine jl_call (A := fun q : Nat => s.heap.size ≤ q) (H0 := s.heap) (nL := 7) (ix := 55) (mj := 144) (ob := 106) (ci := 12) (bs := [.int (xs (i + 1).toNatClampNeg), .long (lawE (xs (i + 2).toNatClampNeg) (xs (i + 3).toNatClampNeg))]) (rest := []) hE (by decide) (by decide +kernel) (by show 4 ≤ (jt_M 144).2.2.2; decide +kernel) (by show 2 = (jt_M 144).2.1; decide +kernel) (by decide) rfl rfl (jt_inT (by decide +kernel) rfl) (jt_inT (by decide +kernel) rfl) (jt_inT (by decide +kernel) rfl) hx hb hml hl.1 hown hts hK hA (by decide) (by decide) ⟨hcs.1, hcs.2⟩ (show decode code 172 = .ok (.invokevirtual 55, 3) by decide +kernel) (by decide) hP hD hS (fun H1 locs1 hP1 hD1 hS1 => ?_)
  show W p l e room_1 s m _ below meth c H1 locs1 _ _ Q (F0 m 175 ls [.int bb])
  refine lv_istore (lv' := [(6, .int bb), (5, .int kk), (0, .ref b), (1, .ref (ad 0)), (2, .ref (ad 106)), (3, .ref (ad 171)), (4, .int i)]) hx hb (show decode code 175 = .ok (.istore 6, 2) by decide +kernel) hl (by decide) rfl (fun ls hl => ?_)
  exact lw_tail (T := 177) (off := 573) Z hcs e1 e2 (by decide) (show decode code 177 = .ok (.aload_n 2, 1) by decide +kernel) (show decode code 178 = .ok (.invokevirtual 56, 3) by decide +kernel) (show decode code 181 = .ok (.iload 5, 2) by decide +kernel) (show decode code 183 = .ok (.if_icmp .eq 5, 3) by decide +kernel) (show decode code 188 = .ok (.iload 5, 2) by decide +kernel) (show decode code 190 = .ok (.ifCond .ne 15, 3) by decide +kernel) (show decode code 193 = .ok (.aload_n 3, 1) by decide +kernel) (show decode code 194 = .ok (.iconst 0, 1) by decide +kernel) (show decode code 195 = .ok (.laload, 1) by decide +kernel) (show decode code 196 = .ok (.iload 6, 2) by decide +kernel) (show decode code 198 = .ok (.i2l, 1) by decide +kernel) (show decode code 199 = .ok (.lcmp, 1) by decide +kernel) (show decode code 200 = .ok (.ifCond .eq 5, 3) by decide +kernel) (show decode code 205 = .ok (.goto 573, 3) by decide +kernel) (k σ2 e3) H1 locs1 ls hl hP1 hD1 hS1
theorem cs_function {p : Program} {l : Launch} {e : Env} {s : State} {m : MethodId} {below : List Frame} {meth : Method} {c : Code} {b L : Nat} {xs : Nat → Int32} {D : va_G} {dA : Nat → ClassId} {ad : Nat → Nat} {Q : State → Prop} {cells slots : Nat} {i : Int32} {σ : jx_S} (Z : lwZ p l s m meth c b L xs D dA ad) (hi : vp_in (i + 1) L ∧ vp_in (i + 2) L ∧ vp_in (i + 3) L) (hcs : cells + 1 ≤ 601024 ∧ slots + 6 ≤ 7293034) (h : IV2 σ σ) (k : ∀ σ2, IV2 σ2 σ2 → lwG p l e s m below meth c b Q D dA ad 778 [(0, .ref b), (1, .ref (ad 0)), (2, .ref (ad 106)), (3, .ref (ad 171)), (4, .int i)] [] σ2 (cells + 1) (slots + 6)) : lwG p l e s m below meth c b Q D dA ad 260 [(0, .ref b), (1, .ref (ad 0)), (2, .ref (ad 106)), (3, .ref (ad 171)), (4, .int i)] [] σ cells slots := by
  obtain ⟨⟨hx, hb, hr, hml, hown, htsl, hX, hbl, hlocks, hgv⟩, hK, had, h1, htr⟩ := id Z
  obtain ⟨hts, hA, hbA, hW0⟩ := lwZ_of Z
  obtain ⟨i1, i2, i3⟩ := hi
  intro H locs ls hl hP hD hS
  have hFH : ∀ a, a < s.heap.size → H[a]? = s.heap[a]? := fun a ha => hS.2.1 a ha (Nat.not_le.mpr ha)
  obtain ⟨kk, σ1, bb, σ2, hM, hE, e1, e2, e3⟩ := wr_function (l := l) (D := D) (dA := dA) h1 htr had h (xs (i + 1).toNatClampNeg) (xs (i + 2).toNatClampNeg)
  refine lv_aload_n hx hb (show decode code 260 = .ok (.aload_n 1, 1) by decide +kernel) rfl (lv_at hl 1 rfl) ?_
  refine lv_aload_n hx hb (show decode code 261 = .ok (.aload_n 0, 1) by decide +kernel) rfl (lv_at hl 0 rfl) ?_
  refine lv_iload hx hb (show decode code 262 = .ok (.iload 4, 2) by decide +kernel) (lv_at hl 4 rfl) ?_
  refine lv_iconst (v := 1) hx hb (show decode code 264 = .ok (.iconst 1, 1) by decide +kernel) (by decide) ?_
  refine lv_iadd hx hb (show decode code 265 = .ok (.iadd, 1) by decide +kernel) ?_
  refine va_sld hx hb hX hbl hbA hS i1 (show decode code 266 = .ok (.iaload, 1) by decide +kernel) ?_
  refine lv_aload_n hx hb (show decode code 267 = .ok (.aload_n 0, 1) by decide +kernel) rfl (lv_at hl 0 rfl) ?_
  refine lv_iload hx hb (show decode code 268 = .ok (.iload 4, 2) by decide +kernel) (lv_at hl 4 rfl) ?_
  refine lv_iconst (v := 2) hx hb (show decode code 270 = .ok (.iconst 2, 1) by decide +kernel) (by decide) ?_
  refine lv_iadd hx hb (show decode code 271 = .ok (.iadd, 1) by decide +kernel) ?_
  refine va_sld hx hb hX hbl hbA hS i2 (show decode code 272 = .ok (.iaload, 1) by decide +kernel) ?_
  refine lv_aload_n hx hb (show decode code 273 = .ok (.aload_n 3, 1) by decide +kernel) rfl (lv_at hl 3 rfl) ?_
  refine jl_wcall (n := 0) (A := fun q : Nat => s.heap.size ≤ q) (H0 := s.heap) (nL := 7) (ix := 76) (as := [.ref 0, .int (xs (i + 1).toNatClampNeg), .int (xs (i + 2).toNatClampNeg), .ref 171]) (rest := []) hM rfl (show (parseMethodDescriptor "(LLazyStrict;II[J)I").map (fun d => d.parameters.length) = some 4 by decide +kernel) (jt_inT (by decide +kernel) rfl) (jt_inT (by decide +kernel) rfl) (jt_inT (by decide +kernel) rfl) (jt_inT (by decide +kernel) rfl) (by decide) hx hb hml hl.1 hown hts hK hA (State.WarmedH.refl s) hFH (by decide) (by decide) hcs.1 hcs.2 (show decode code 274 = .ok (.invokestatic 76, 3) by decide +kernel) (by decide) hP hD hS (fun H1 locs1 hP hD hS => ?_)
  refine lv_istore (lv' := [(5, .int kk), (0, .ref b), (1, .ref (ad 0)), (2, .ref (ad 106)), (3, .ref (ad 171)), (4, .int i)]) hx hb (show decode code 277 = .ok (.istore 5, 2) by decide +kernel) hl (by decide) rfl (fun ls hl => ?_)
  refine lv_aload_n hx hb (show decode code 279 = .ok (.aload_n 2, 1) by decide +kernel) rfl (lv_at hl 3 rfl) ?_
  refine lv_aload_n hx hb (show decode code 280 = .ok (.aload_n 0, 1) by decide +kernel) rfl (lv_at hl 1 rfl) ?_
  refine lv_iload hx hb (show decode code 281 = .ok (.iload 4, 2) by decide +kernel) (lv_at hl 5 rfl) ?_
  refine lv_iconst (v := 1) hx hb (show decode code 283 = .ok (.iconst 1, 1) by decide +kernel) (by decide) ?_
  refine lv_iadd hx hb (show decode code 284 = .ok (.iadd, 1) by decide +kernel) ?_
  refine va_sld hx hb hX hbl hbA hS i1 (show decode code 285 = .ok (.iaload, 1) by decide +kernel) ?_
  refine lv_aload_n hx hb (show decode code 286 = .ok (.aload_n 0, 1) by decide +kernel) rfl (lv_at hl 1 rfl) ?_
  refine lv_iload hx hb (show decode code 287 = .ok (.iload 4, 2) by decide +kernel) (lv_at hl 5 rfl) ?_
  refine lv_iconst (v := 2) hx hb (show decode code 289 = .ok (.iconst 2, 1) by decide +kernel) (by decide) ?_
  refine lv_iadd hx hb (show decode code 290 = .ok (.iadd, 1) by decide +kernel) ?_
  refine va_sld hx hb hX hbl hbA hS i2 (show decode code 291 = .ok (.iaload, 1) by decide +kernel) ?_
  refine jl_call (A := fun q : Nat => s.heap.size ≤ q) (H0 := s.heap) (nL := 7) (ix := 79) (mj := 203) (ob := 106) (ci := 12) (bs := [.int (xs (i + 1).toNatClampNeg), .int (xs (i + 2).toNatClampNeg)]) (rest := []) hE (by decide) (by decide +kernel) (by show 3 ≤ (jt_M 203).2.2.2; decide +kernel) (by show 2 = (jt_M 203).2.1; decide +kernel) (by decide) rfl rfl (jt_inT (by decide +kernel) rfl) (jt_inT (by decide +kernel) rfl) (jt_inT (by decide +kernel) rfl) hx hb hml hl.1 hown hts hK hA (by decide) (by decide) ⟨hcs.1, hcs.2⟩ (show decode code 292 = .ok (.invokevirtual 79, 3) by decide +kernel) (by decide) hP hD hS (fun H1 locs1 hP1 hD1 hS1 => ?_)
  show W p l e room_1 s m _ below meth c H1 locs1 _ _ Q (F0 m 295 ls [.int bb])
  refine lv_istore (lv' := [(6, .int bb), (5, .int kk), (0, .ref b), (1, .ref (ad 0)), (2, .ref (ad 106)), (3, .ref (ad 171)), (4, .int i)]) hx hb (show decode code 295 = .ok (.istore 6, 2) by decide +kernel) hl (by decide) rfl (fun ls hl => ?_)
  exact lw_tail (T := 297) (off := 453) Z hcs e1 e2 (by decide) (show decode code 297 = .ok (.aload_n 2, 1) by decide +kernel) (show decode code 298 = .ok (.invokevirtual 56, 3) by decide +kernel) (show decode code 301 = .ok (.iload 5, 2) by decide +kernel) (show decode code 303 = .ok (.if_icmp .eq 5, 3) by decide +kernel) (show decode code 308 = .ok (.iload 5, 2) by decide +kernel) (show decode code 310 = .ok (.ifCond .ne 15, 3) by decide +kernel) (show decode code 313 = .ok (.aload_n 3, 1) by decide +kernel) (show decode code 314 = .ok (.iconst 0, 1) by decide +kernel) (show decode code 315 = .ok (.laload, 1) by decide +kernel) (show decode code 316 = .ok (.iload 6, 2) by decide +kernel) (show decode code 318 = .ok (.i2l, 1) by decide +kernel) (show decode code 319 = .ok (.lcmp, 1) by decide +kernel) (show decode code 320 = .ok (.ifCond .eq 5, 3) by decide +kernel) (show decode code 325 = .ok (.goto 453, 3) by decide +kernel) (k σ2 e3) H1 locs1 ls hl hP1 hD1 hS1
theorem cs_parameter {p : Program} {l : Launch} {e : Env} {s : State} {m : MethodId} {below : List Frame} {meth : Method} {c : Code} {b L : Nat} {xs : Nat → Int32} {D : va_G} {dA : Nat → ClassId} {ad : Nat → Nat} {Q : State → Prop} {cells slots : Nat} {i : Int32} {σ : jx_S} (Z : lwZ p l s m meth c b L xs D dA ad) (hi : vp_in (i + 1) L ∧ vp_in (i + 2) L ∧ vp_in (i + 3) L) (hcs : cells + 1 ≤ 601024 ∧ slots + 6 ≤ 7293034) (h : IV2 σ σ) (k : ∀ σ2, IV2 σ2 σ2 → lwG p l e s m below meth c b Q D dA ad 778 [(0, .ref b), (1, .ref (ad 0)), (2, .ref (ad 106)), (3, .ref (ad 171)), (4, .int i)] [] σ2 (cells + 1) (slots + 6)) : lwG p l e s m below meth c b Q D dA ad 328 [(0, .ref b), (1, .ref (ad 0)), (2, .ref (ad 106)), (3, .ref (ad 171)), (4, .int i)] [] σ cells slots := by
  obtain ⟨⟨hx, hb, hr, hml, hown, htsl, hX, hbl, hlocks, hgv⟩, hK, had, h1, htr⟩ := id Z
  obtain ⟨hts, hA, hbA, hW0⟩ := lwZ_of Z
  obtain ⟨i1, i2, i3⟩ := hi
  intro H locs ls hl hP hD hS
  have hFH : ∀ a, a < s.heap.size → H[a]? = s.heap[a]? := fun a ha => hS.2.1 a ha (Nat.not_le.mpr ha)
  obtain ⟨kk, σ1, bb, σ2, hM, hE, e1, e2, e3⟩ := wr_parameter (l := l) (D := D) (dA := dA) h1 htr had h (xs (i + 1).toNatClampNeg) (xs (i + 2).toNatClampNeg) (xs (i + 3).toNatClampNeg)
  refine lv_aload_n hx hb (show decode code 328 = .ok (.aload_n 1, 1) by decide +kernel) rfl (lv_at hl 1 rfl) ?_
  refine lv_aload_n hx hb (show decode code 329 = .ok (.aload_n 0, 1) by decide +kernel) rfl (lv_at hl 0 rfl) ?_
  refine lv_iload hx hb (show decode code 330 = .ok (.iload 4, 2) by decide +kernel) (lv_at hl 4 rfl) ?_
  refine lv_iconst (v := 1) hx hb (show decode code 332 = .ok (.iconst 1, 1) by decide +kernel) (by decide) ?_
  refine lv_iadd hx hb (show decode code 333 = .ok (.iadd, 1) by decide +kernel) ?_
  refine va_sld hx hb hX hbl hbA hS i1 (show decode code 334 = .ok (.iaload, 1) by decide +kernel) ?_
  refine lv_aload_n hx hb (show decode code 335 = .ok (.aload_n 0, 1) by decide +kernel) rfl (lv_at hl 0 rfl) ?_
  refine lv_iload hx hb (show decode code 336 = .ok (.iload 4, 2) by decide +kernel) (lv_at hl 4 rfl) ?_
  refine lv_iconst (v := 2) hx hb (show decode code 338 = .ok (.iconst 2, 1) by decide +kernel) (by decide) ?_
  refine lv_iadd hx hb (show decode code 339 = .ok (.iadd, 1) by decide +kernel) ?_
  refine va_sld hx hb hX hbl hbA hS i2 (show decode code 340 = .ok (.iaload, 1) by decide +kernel) ?_
  refine lv_aload_n hx hb (show decode code 341 = .ok (.aload_n 0, 1) by decide +kernel) rfl (lv_at hl 0 rfl) ?_
  refine lv_iload hx hb (show decode code 342 = .ok (.iload 4, 2) by decide +kernel) (lv_at hl 4 rfl) ?_
  refine lv_iconst (v := 3) hx hb (show decode code 344 = .ok (.iconst 3, 1) by decide +kernel) (by decide) ?_
  refine lv_iadd hx hb (show decode code 345 = .ok (.iadd, 1) by decide +kernel) ?_
  refine va_sld hx hb hX hbl hbA hS i3 (show decode code 346 = .ok (.iaload, 1) by decide +kernel) ?_
  refine lv_aload_n hx hb (show decode code 347 = .ok (.aload_n 3, 1) by decide +kernel) rfl (lv_at hl 3 rfl) ?_
  refine jl_wcall (n := 0) (A := fun q : Nat => s.heap.size ≤ q) (H0 := s.heap) (nL := 7) (ix := 80) (as := [.ref 0, .int (xs (i + 1).toNatClampNeg), .int (xs (i + 2).toNatClampNeg), .int (xs (i + 3).toNatClampNeg), .ref 171]) (rest := []) hM rfl (show (parseMethodDescriptor "(LLazyStrict;III[J)I").map (fun d => d.parameters.length) = some 5 by decide +kernel) (jt_inT (by decide +kernel) rfl) (jt_inT (by decide +kernel) rfl) (jt_inT (by decide +kernel) rfl) (jt_inT (by decide +kernel) rfl) (by decide) hx hb hml hl.1 hown hts hK hA (State.WarmedH.refl s) hFH (by decide) (by decide) hcs.1 hcs.2 (show decode code 348 = .ok (.invokestatic 80, 3) by decide +kernel) (by decide) hP hD hS (fun H1 locs1 hP hD hS => ?_)
  refine lv_istore (lv' := [(5, .int kk), (0, .ref b), (1, .ref (ad 0)), (2, .ref (ad 106)), (3, .ref (ad 171)), (4, .int i)]) hx hb (show decode code 351 = .ok (.istore 5, 2) by decide +kernel) hl (by decide) rfl (fun ls hl => ?_)
  refine lv_aload_n hx hb (show decode code 353 = .ok (.aload_n 2, 1) by decide +kernel) rfl (lv_at hl 3 rfl) ?_
  refine lv_aload_n hx hb (show decode code 354 = .ok (.aload_n 0, 1) by decide +kernel) rfl (lv_at hl 1 rfl) ?_
  refine lv_iload hx hb (show decode code 355 = .ok (.iload 4, 2) by decide +kernel) (lv_at hl 5 rfl) ?_
  refine lv_iconst (v := 1) hx hb (show decode code 357 = .ok (.iconst 1, 1) by decide +kernel) (by decide) ?_
  refine lv_iadd hx hb (show decode code 358 = .ok (.iadd, 1) by decide +kernel) ?_
  refine va_sld hx hb hX hbl hbA hS i1 (show decode code 359 = .ok (.iaload, 1) by decide +kernel) ?_
  refine lv_aload_n hx hb (show decode code 360 = .ok (.aload_n 0, 1) by decide +kernel) rfl (lv_at hl 1 rfl) ?_
  refine lv_iload hx hb (show decode code 361 = .ok (.iload 4, 2) by decide +kernel) (lv_at hl 5 rfl) ?_
  refine lv_iconst (v := 2) hx hb (show decode code 363 = .ok (.iconst 2, 1) by decide +kernel) (by decide) ?_
  refine lv_iadd hx hb (show decode code 364 = .ok (.iadd, 1) by decide +kernel) ?_
  refine va_sld hx hb hX hbl hbA hS i2 (show decode code 365 = .ok (.iaload, 1) by decide +kernel) ?_
  refine lv_aload_n hx hb (show decode code 366 = .ok (.aload_n 0, 1) by decide +kernel) rfl (lv_at hl 1 rfl) ?_
  refine lv_iload hx hb (show decode code 367 = .ok (.iload 4, 2) by decide +kernel) (lv_at hl 5 rfl) ?_
  refine lv_iconst (v := 3) hx hb (show decode code 369 = .ok (.iconst 3, 1) by decide +kernel) (by decide) ?_
  refine lv_iadd hx hb (show decode code 370 = .ok (.iadd, 1) by decide +kernel) ?_
  refine va_sld hx hb hX hbl hbA hS i3 (show decode code 371 = .ok (.iaload, 1) by decide +kernel) ?_
  refine jl_call (A := fun q : Nat => s.heap.size ≤ q) (H0 := s.heap) (nL := 7) (ix := 83) (mj := 204) (ob := 106) (ci := 12) (bs := [.int (xs (i + 1).toNatClampNeg), .int (xs (i + 2).toNatClampNeg), .int (xs (i + 3).toNatClampNeg)]) (rest := []) hE (by decide) (by decide +kernel) (by show 4 ≤ (jt_M 204).2.2.2; decide +kernel) (by show 3 = (jt_M 204).2.1; decide +kernel) (by decide) rfl rfl (jt_inT (by decide +kernel) rfl) (jt_inT (by decide +kernel) rfl) (jt_inT (by decide +kernel) rfl) hx hb hml hl.1 hown hts hK hA (by decide) (by decide) ⟨hcs.1, hcs.2⟩ (show decode code 372 = .ok (.invokevirtual 83, 3) by decide +kernel) (by decide) hP hD hS (fun H1 locs1 hP1 hD1 hS1 => ?_)
  show W p l e room_1 s m _ below meth c H1 locs1 _ _ Q (F0 m 375 ls [.int bb])
  refine lv_istore (lv' := [(6, .int bb), (5, .int kk), (0, .ref b), (1, .ref (ad 0)), (2, .ref (ad 106)), (3, .ref (ad 171)), (4, .int i)]) hx hb (show decode code 375 = .ok (.istore 6, 2) by decide +kernel) hl (by decide) rfl (fun ls hl => ?_)
  exact lw_tail (T := 377) (off := 373) Z hcs e1 e2 (by decide) (show decode code 377 = .ok (.aload_n 2, 1) by decide +kernel) (show decode code 378 = .ok (.invokevirtual 56, 3) by decide +kernel) (show decode code 381 = .ok (.iload 5, 2) by decide +kernel) (show decode code 383 = .ok (.if_icmp .eq 5, 3) by decide +kernel) (show decode code 388 = .ok (.iload 5, 2) by decide +kernel) (show decode code 390 = .ok (.ifCond .ne 15, 3) by decide +kernel) (show decode code 393 = .ok (.aload_n 3, 1) by decide +kernel) (show decode code 394 = .ok (.iconst 0, 1) by decide +kernel) (show decode code 395 = .ok (.laload, 1) by decide +kernel) (show decode code 396 = .ok (.iload 6, 2) by decide +kernel) (show decode code 398 = .ok (.i2l, 1) by decide +kernel) (show decode code 399 = .ok (.lcmp, 1) by decide +kernel) (show decode code 400 = .ok (.ifCond .eq 5, 3) by decide +kernel) (show decode code 405 = .ok (.goto 373, 3) by decide +kernel) (k σ2 e3) H1 locs1 ls hl hP1 hD1 hS1
theorem cs_value {p : Program} {l : Launch} {e : Env} {s : State} {m : MethodId} {below : List Frame} {meth : Method} {c : Code} {b L : Nat} {xs : Nat → Int32} {D : va_G} {dA : Nat → ClassId} {ad : Nat → Nat} {Q : State → Prop} {cells slots : Nat} {i : Int32} {σ : jx_S} (Z : lwZ p l s m meth c b L xs D dA ad) (hi : vp_in (i + 1) L ∧ vp_in (i + 2) L ∧ vp_in (i + 3) L) (hcs : cells + 1 ≤ 601024 ∧ slots + 6 ≤ 7293034) (h : IV2 σ σ) (k : ∀ σ2, IV2 σ2 σ2 → lwG p l e s m below meth c b Q D dA ad 778 [(0, .ref b), (1, .ref (ad 0)), (2, .ref (ad 106)), (3, .ref (ad 171)), (4, .int i)] [] σ2 (cells + 1) (slots + 6)) : lwG p l e s m below meth c b Q D dA ad 408 [(0, .ref b), (1, .ref (ad 0)), (2, .ref (ad 106)), (3, .ref (ad 171)), (4, .int i)] [] σ cells slots := by
  obtain ⟨⟨hx, hb, hr, hml, hown, htsl, hX, hbl, hlocks, hgv⟩, hK, had, h1, htr⟩ := id Z
  obtain ⟨hts, hA, hbA, hW0⟩ := lwZ_of Z
  obtain ⟨i1, i2, i3⟩ := hi
  intro H locs ls hl hP hD hS
  have hFH : ∀ a, a < s.heap.size → H[a]? = s.heap[a]? := fun a ha => hS.2.1 a ha (Nat.not_le.mpr ha)
  obtain ⟨kk, σ1, bb, σ2, hM, hE, e1, e2, e3⟩ := wr_value (l := l) (D := D) (dA := dA) h1 htr had h (xs (i + 1).toNatClampNeg) (xs (i + 2).toNatClampNeg)
  refine lv_aload_n hx hb (show decode code 408 = .ok (.aload_n 1, 1) by decide +kernel) rfl (lv_at hl 1 rfl) ?_
  refine lv_aload_n hx hb (show decode code 409 = .ok (.aload_n 0, 1) by decide +kernel) rfl (lv_at hl 0 rfl) ?_
  refine lv_iload hx hb (show decode code 410 = .ok (.iload 4, 2) by decide +kernel) (lv_at hl 4 rfl) ?_
  refine lv_iconst (v := 1) hx hb (show decode code 412 = .ok (.iconst 1, 1) by decide +kernel) (by decide) ?_
  refine lv_iadd hx hb (show decode code 413 = .ok (.iadd, 1) by decide +kernel) ?_
  refine va_sld hx hb hX hbl hbA hS i1 (show decode code 414 = .ok (.iaload, 1) by decide +kernel) ?_
  refine lv_aload_n hx hb (show decode code 415 = .ok (.aload_n 0, 1) by decide +kernel) rfl (lv_at hl 0 rfl) ?_
  refine lv_iload hx hb (show decode code 416 = .ok (.iload 4, 2) by decide +kernel) (lv_at hl 4 rfl) ?_
  refine lv_iconst (v := 2) hx hb (show decode code 418 = .ok (.iconst 2, 1) by decide +kernel) (by decide) ?_
  refine lv_iadd hx hb (show decode code 419 = .ok (.iadd, 1) by decide +kernel) ?_
  refine va_sld hx hb hX hbl hbA hS i2 (show decode code 420 = .ok (.iaload, 1) by decide +kernel) ?_
  refine lv_aload_n hx hb (show decode code 421 = .ok (.aload_n 3, 1) by decide +kernel) rfl (lv_at hl 3 rfl) ?_
  refine jl_wcall (n := 0) (A := fun q : Nat => s.heap.size ≤ q) (H0 := s.heap) (nL := 7) (ix := 84) (as := [.ref 0, .int (xs (i + 1).toNatClampNeg), .int (xs (i + 2).toNatClampNeg), .ref 171]) (rest := []) hM rfl (show (parseMethodDescriptor "(LLazyStrict;II[J)I").map (fun d => d.parameters.length) = some 4 by decide +kernel) (jt_inT (by decide +kernel) rfl) (jt_inT (by decide +kernel) rfl) (jt_inT (by decide +kernel) rfl) (jt_inT (by decide +kernel) rfl) (by decide) hx hb hml hl.1 hown hts hK hA (State.WarmedH.refl s) hFH (by decide) (by decide) hcs.1 hcs.2 (show decode code 422 = .ok (.invokestatic 84, 3) by decide +kernel) (by decide) hP hD hS (fun H1 locs1 hP hD hS => ?_)
  refine lv_istore (lv' := [(5, .int kk), (0, .ref b), (1, .ref (ad 0)), (2, .ref (ad 106)), (3, .ref (ad 171)), (4, .int i)]) hx hb (show decode code 425 = .ok (.istore 5, 2) by decide +kernel) hl (by decide) rfl (fun ls hl => ?_)
  refine lv_aload_n hx hb (show decode code 427 = .ok (.aload_n 2, 1) by decide +kernel) rfl (lv_at hl 3 rfl) ?_
  refine lv_aload_n hx hb (show decode code 428 = .ok (.aload_n 0, 1) by decide +kernel) rfl (lv_at hl 1 rfl) ?_
  refine lv_iload hx hb (show decode code 429 = .ok (.iload 4, 2) by decide +kernel) (lv_at hl 5 rfl) ?_
  refine lv_iconst (v := 1) hx hb (show decode code 431 = .ok (.iconst 1, 1) by decide +kernel) (by decide) ?_
  refine lv_iadd hx hb (show decode code 432 = .ok (.iadd, 1) by decide +kernel) ?_
  refine va_sld hx hb hX hbl hbA hS i1 (show decode code 433 = .ok (.iaload, 1) by decide +kernel) ?_
  refine lv_aload_n hx hb (show decode code 434 = .ok (.aload_n 0, 1) by decide +kernel) rfl (lv_at hl 1 rfl) ?_
  refine lv_iload hx hb (show decode code 435 = .ok (.iload 4, 2) by decide +kernel) (lv_at hl 5 rfl) ?_
  refine lv_iconst (v := 2) hx hb (show decode code 437 = .ok (.iconst 2, 1) by decide +kernel) (by decide) ?_
  refine lv_iadd hx hb (show decode code 438 = .ok (.iadd, 1) by decide +kernel) ?_
  refine va_sld hx hb hX hbl hbA hS i2 (show decode code 439 = .ok (.iaload, 1) by decide +kernel) ?_
  refine jl_call (A := fun q : Nat => s.heap.size ≤ q) (H0 := s.heap) (nL := 7) (ix := 86) (mj := 205) (ob := 106) (ci := 12) (bs := [.int (xs (i + 1).toNatClampNeg), .int (xs (i + 2).toNatClampNeg)]) (rest := []) hE (by decide) (by decide +kernel) (by show 3 ≤ (jt_M 205).2.2.2; decide +kernel) (by show 2 = (jt_M 205).2.1; decide +kernel) (by decide) rfl rfl (jt_inT (by decide +kernel) rfl) (jt_inT (by decide +kernel) rfl) (jt_inT (by decide +kernel) rfl) hx hb hml hl.1 hown hts hK hA (by decide) (by decide) ⟨hcs.1, hcs.2⟩ (show decode code 440 = .ok (.invokevirtual 86, 3) by decide +kernel) (by decide) hP hD hS (fun H1 locs1 hP1 hD1 hS1 => ?_)
  show W p l e room_1 s m _ below meth c H1 locs1 _ _ Q (F0 m 443 ls [.int bb])
  refine lv_istore (lv' := [(6, .int bb), (5, .int kk), (0, .ref b), (1, .ref (ad 0)), (2, .ref (ad 106)), (3, .ref (ad 171)), (4, .int i)]) hx hb (show decode code 443 = .ok (.istore 6, 2) by decide +kernel) hl (by decide) rfl (fun ls hl => ?_)
  exact lw_tail (T := 445) (off := 305) Z hcs e1 e2 (by decide) (show decode code 445 = .ok (.aload_n 2, 1) by decide +kernel) (show decode code 446 = .ok (.invokevirtual 56, 3) by decide +kernel) (show decode code 449 = .ok (.iload 5, 2) by decide +kernel) (show decode code 451 = .ok (.if_icmp .eq 5, 3) by decide +kernel) (show decode code 456 = .ok (.iload 5, 2) by decide +kernel) (show decode code 458 = .ok (.ifCond .ne 15, 3) by decide +kernel) (show decode code 461 = .ok (.aload_n 3, 1) by decide +kernel) (show decode code 462 = .ok (.iconst 0, 1) by decide +kernel) (show decode code 463 = .ok (.laload, 1) by decide +kernel) (show decode code 464 = .ok (.iload 6, 2) by decide +kernel) (show decode code 466 = .ok (.i2l, 1) by decide +kernel) (show decode code 467 = .ok (.lcmp, 1) by decide +kernel) (show decode code 468 = .ok (.ifCond .eq 5, 3) by decide +kernel) (show decode code 473 = .ok (.goto 305, 3) by decide +kernel) (k σ2 e3) H1 locs1 ls hl hP1 hD1 hS1
theorem cs_argument {p : Program} {l : Launch} {e : Env} {s : State} {m : MethodId} {below : List Frame} {meth : Method} {c : Code} {b L : Nat} {xs : Nat → Int32} {D : va_G} {dA : Nat → ClassId} {ad : Nat → Nat} {Q : State → Prop} {cells slots : Nat} {i : Int32} {σ : jx_S} (Z : lwZ p l s m meth c b L xs D dA ad) (hi : vp_in (i + 1) L ∧ vp_in (i + 2) L ∧ vp_in (i + 3) L) (hcs : cells + 1 ≤ 601024 ∧ slots + 6 ≤ 7293034) (h : IV2 σ σ) (k : ∀ σ2, IV2 σ2 σ2 → lwG p l e s m below meth c b Q D dA ad 778 [(0, .ref b), (1, .ref (ad 0)), (2, .ref (ad 106)), (3, .ref (ad 171)), (4, .int i)] [] σ2 (cells + 1) (slots + 6)) : lwG p l e s m below meth c b Q D dA ad 514 [(0, .ref b), (1, .ref (ad 0)), (2, .ref (ad 106)), (3, .ref (ad 171)), (4, .int i)] [] σ cells slots := by
  obtain ⟨⟨hx, hb, hr, hml, hown, htsl, hX, hbl, hlocks, hgv⟩, hK, had, h1, htr⟩ := id Z
  obtain ⟨hts, hA, hbA, hW0⟩ := lwZ_of Z
  obtain ⟨i1, i2, i3⟩ := hi
  intro H locs ls hl hP hD hS
  have hFH : ∀ a, a < s.heap.size → H[a]? = s.heap[a]? := fun a ha => hS.2.1 a ha (Nat.not_le.mpr ha)
  obtain ⟨kk, σ1, bb, σ2, hM, hE, e1, e2, e3⟩ := wr_argument (l := l) (D := D) (dA := dA) h1 htr had h (xs (i + 1).toNatClampNeg)
  refine lv_aload_n hx hb (show decode code 514 = .ok (.aload_n 1, 1) by decide +kernel) rfl (lv_at hl 1 rfl) ?_
  refine lv_aload_n hx hb (show decode code 515 = .ok (.aload_n 0, 1) by decide +kernel) rfl (lv_at hl 0 rfl) ?_
  refine lv_iload hx hb (show decode code 516 = .ok (.iload 4, 2) by decide +kernel) (lv_at hl 4 rfl) ?_
  refine lv_iconst (v := 1) hx hb (show decode code 518 = .ok (.iconst 1, 1) by decide +kernel) (by decide) ?_
  refine lv_iadd hx hb (show decode code 519 = .ok (.iadd, 1) by decide +kernel) ?_
  refine va_sld hx hb hX hbl hbA hS i1 (show decode code 520 = .ok (.iaload, 1) by decide +kernel) ?_
  refine lv_aload_n hx hb (show decode code 521 = .ok (.aload_n 3, 1) by decide +kernel) rfl (lv_at hl 3 rfl) ?_
  refine jl_wcall (n := 0) (A := fun q : Nat => s.heap.size ≤ q) (H0 := s.heap) (nL := 7) (ix := 95) (as := [.ref 0, .int (xs (i + 1).toNatClampNeg), .ref 171]) (rest := []) hM rfl (show (parseMethodDescriptor "(LLazyStrict;I[J)I").map (fun d => d.parameters.length) = some 3 by decide +kernel) (jt_inT (by decide +kernel) rfl) (jt_inT (by decide +kernel) rfl) (jt_inT (by decide +kernel) rfl) (jt_inT (by decide +kernel) rfl) (by decide) hx hb hml hl.1 hown hts hK hA (State.WarmedH.refl s) hFH (by decide) (by decide) hcs.1 hcs.2 (show decode code 522 = .ok (.invokestatic 95, 3) by decide +kernel) (by decide) hP hD hS (fun H1 locs1 hP hD hS => ?_)
  refine lv_istore (lv' := [(5, .int kk), (0, .ref b), (1, .ref (ad 0)), (2, .ref (ad 106)), (3, .ref (ad 171)), (4, .int i)]) hx hb (show decode code 525 = .ok (.istore 5, 2) by decide +kernel) hl (by decide) rfl (fun ls hl => ?_)
  refine lv_aload_n hx hb (show decode code 527 = .ok (.aload_n 2, 1) by decide +kernel) rfl (lv_at hl 3 rfl) ?_
  refine lv_aload_n hx hb (show decode code 528 = .ok (.aload_n 0, 1) by decide +kernel) rfl (lv_at hl 1 rfl) ?_
  refine lv_iload hx hb (show decode code 529 = .ok (.iload 4, 2) by decide +kernel) (lv_at hl 5 rfl) ?_
  refine lv_iconst (v := 1) hx hb (show decode code 531 = .ok (.iconst 1, 1) by decide +kernel) (by decide) ?_
  refine lv_iadd hx hb (show decode code 532 = .ok (.iadd, 1) by decide +kernel) ?_
  refine va_sld hx hb hX hbl hbA hS i1 (show decode code 533 = .ok (.iaload, 1) by decide +kernel) ?_
  refine jl_call (A := fun q : Nat => s.heap.size ≤ q) (H0 := s.heap) (nL := 7) (ix := 98) (mj := 229) (ob := 106) (ci := 12) (bs := [.int (xs (i + 1).toNatClampNeg)]) (rest := []) hE (by decide) (by decide +kernel) (by show 2 ≤ (jt_M 229).2.2.2; decide +kernel) (by show 1 = (jt_M 229).2.1; decide +kernel) (by decide) rfl rfl (jt_inT (by decide +kernel) rfl) (jt_inT (by decide +kernel) rfl) (jt_inT (by decide +kernel) rfl) hx hb hml hl.1 hown hts hK hA (by decide) (by decide) ⟨hcs.1, hcs.2⟩ (show decode code 534 = .ok (.invokevirtual 98, 3) by decide +kernel) (by decide) hP hD hS (fun H1 locs1 hP1 hD1 hS1 => ?_)
  show W p l e room_1 s m _ below meth c H1 locs1 _ _ Q (F0 m 537 ls [.int bb])
  refine lv_istore (lv' := [(6, .int bb), (5, .int kk), (0, .ref b), (1, .ref (ad 0)), (2, .ref (ad 106)), (3, .ref (ad 171)), (4, .int i)]) hx hb (show decode code 537 = .ok (.istore 6, 2) by decide +kernel) hl (by decide) rfl (fun ls hl => ?_)
  exact lw_tail (T := 539) (off := 211) Z hcs e1 e2 (by decide) (show decode code 539 = .ok (.aload_n 2, 1) by decide +kernel) (show decode code 540 = .ok (.invokevirtual 56, 3) by decide +kernel) (show decode code 543 = .ok (.iload 5, 2) by decide +kernel) (show decode code 545 = .ok (.if_icmp .eq 5, 3) by decide +kernel) (show decode code 550 = .ok (.iload 5, 2) by decide +kernel) (show decode code 552 = .ok (.ifCond .ne 15, 3) by decide +kernel) (show decode code 555 = .ok (.aload_n 3, 1) by decide +kernel) (show decode code 556 = .ok (.iconst 0, 1) by decide +kernel) (show decode code 557 = .ok (.laload, 1) by decide +kernel) (show decode code 558 = .ok (.iload 6, 2) by decide +kernel) (show decode code 560 = .ok (.i2l, 1) by decide +kernel) (show decode code 561 = .ok (.lcmp, 1) by decide +kernel) (show decode code 562 = .ok (.ifCond .eq 5, 3) by decide +kernel) (show decode code 567 = .ok (.goto 211, 3) by decide +kernel) (k σ2 e3) H1 locs1 ls hl hP1 hD1 hS1
theorem cs_run {p : Program} {l : Launch} {e : Env} {s : State} {m : MethodId} {below : List Frame} {meth : Method} {c : Code} {b L : Nat} {xs : Nat → Int32} {D : va_G} {dA : Nat → ClassId} {ad : Nat → Nat} {Q : State → Prop} {cells slots : Nat} {i : Int32} {σ : jx_S} (Z : lwZ p l s m meth c b L xs D dA ad) (hi : vp_in (i + 1) L ∧ vp_in (i + 2) L ∧ vp_in (i + 3) L) (hcs : cells + 1 ≤ 601024 ∧ slots + 6 ≤ 7293034) (h : IV2 σ σ) (k : ∀ σ2, IV2 σ2 σ2 → lwG p l e s m below meth c b Q D dA ad 778 [(0, .ref b), (1, .ref (ad 0)), (2, .ref (ad 106)), (3, .ref (ad 171)), (4, .int i)] [] σ2 (cells + 1) (slots + 6)) : lwG p l e s m below meth c b Q D dA ad 570 [(0, .ref b), (1, .ref (ad 0)), (2, .ref (ad 106)), (3, .ref (ad 171)), (4, .int i)] [] σ cells slots := by
  obtain ⟨⟨hx, hb, hr, hml, hown, htsl, hX, hbl, hlocks, hgv⟩, hK, had, h1, htr⟩ := id Z
  obtain ⟨hts, hA, hbA, hW0⟩ := lwZ_of Z
  obtain ⟨i1, i2, i3⟩ := hi
  intro H locs ls hl hP hD hS
  have hFH : ∀ a, a < s.heap.size → H[a]? = s.heap[a]? := fun a ha => hS.2.1 a ha (Nat.not_le.mpr ha)
  obtain ⟨kk, σ1, bb, σ2, hM, hE, e1, e2, e3⟩ := wr_run (l := l) (D := D) (dA := dA) h1 htr had h (xs (i + 1).toNatClampNeg) (xs (i + 2).toNatClampNeg) (lawB (xs (i + 3).toNatClampNeg)) (lawB_01 _)
  refine lv_aload_n hx hb (show decode code 570 = .ok (.aload_n 1, 1) by decide +kernel) rfl (lv_at hl 1 rfl) ?_
  refine lv_aload_n hx hb (show decode code 571 = .ok (.aload_n 0, 1) by decide +kernel) rfl (lv_at hl 0 rfl) ?_
  refine lv_iload hx hb (show decode code 572 = .ok (.iload 4, 2) by decide +kernel) (lv_at hl 4 rfl) ?_
  refine lv_iconst (v := 1) hx hb (show decode code 574 = .ok (.iconst 1, 1) by decide +kernel) (by decide) ?_
  refine lv_iadd hx hb (show decode code 575 = .ok (.iadd, 1) by decide +kernel) ?_
  refine va_sld hx hb hX hbl hbA hS i1 (show decode code 576 = .ok (.iaload, 1) by decide +kernel) ?_
  refine lv_aload_n hx hb (show decode code 577 = .ok (.aload_n 0, 1) by decide +kernel) rfl (lv_at hl 0 rfl) ?_
  refine lv_iload hx hb (show decode code 578 = .ok (.iload 4, 2) by decide +kernel) (lv_at hl 4 rfl) ?_
  refine lv_iconst (v := 2) hx hb (show decode code 580 = .ok (.iconst 2, 1) by decide +kernel) (by decide) ?_
  refine lv_iadd hx hb (show decode code 581 = .ok (.iadd, 1) by decide +kernel) ?_
  refine va_sld hx hb hX hbl hbA hS i2 (show decode code 582 = .ok (.iaload, 1) by decide +kernel) ?_
  refine lv_aload_n hx hb (show decode code 583 = .ok (.aload_n 0, 1) by decide +kernel) rfl (lv_at hl 0 rfl) ?_
  refine lv_iload hx hb (show decode code 584 = .ok (.iload 4, 2) by decide +kernel) (lv_at hl 4 rfl) ?_
  refine lv_iconst (v := 3) hx hb (show decode code 586 = .ok (.iconst 3, 1) by decide +kernel) (by decide) ?_
  refine lv_iadd hx hb (show decode code 587 = .ok (.iadd, 1) by decide +kernel) ?_
  refine va_sld hx hb hX hbl hbA hS i3 (show decode code 588 = .ok (.iaload, 1) by decide +kernel) ?_
  refine lw_bool hx hb (show decode code 589 = .ok (.ifCond .eq 7, 3) by decide +kernel) (show decode code 592 = .ok (.iconst 1, 1) by decide +kernel) (show decode code 593 = .ok (.goto 4, 3) by decide +kernel) (show decode code 596 = .ok (.iconst 0, 1) by decide +kernel) ?_
  refine lv_aload_n hx hb (show decode code 597 = .ok (.aload_n 3, 1) by decide +kernel) rfl (lv_at hl 3 rfl) ?_
  refine jl_wcall (n := 0) (A := fun q : Nat => s.heap.size ≤ q) (H0 := s.heap) (nL := 7) (ix := 99) (as := [.ref 0, .int (xs (i + 1).toNatClampNeg), .int (xs (i + 2).toNatClampNeg), .int (lawB (xs (i + 3).toNatClampNeg)), .ref 171]) (rest := []) hM rfl (show (parseMethodDescriptor "(LLazyStrict;IIZ[J)I").map (fun d => d.parameters.length) = some 5 by decide +kernel) (jt_inT (by decide +kernel) rfl) (jt_inT (by decide +kernel) rfl) (jt_inT (by decide +kernel) rfl) (jt_inT (by decide +kernel) rfl) (by decide) hx hb hml hl.1 hown hts hK hA (State.WarmedH.refl s) hFH (by decide) (by decide) hcs.1 hcs.2 (show decode code 598 = .ok (.invokestatic 99, 3) by decide +kernel) (by decide) hP hD hS (fun H1 locs1 hP hD hS => ?_)
  refine lv_istore (lv' := [(5, .int kk), (0, .ref b), (1, .ref (ad 0)), (2, .ref (ad 106)), (3, .ref (ad 171)), (4, .int i)]) hx hb (show decode code 601 = .ok (.istore 5, 2) by decide +kernel) hl (by decide) rfl (fun ls hl => ?_)
  refine lv_aload_n hx hb (show decode code 603 = .ok (.aload_n 2, 1) by decide +kernel) rfl (lv_at hl 3 rfl) ?_
  refine lv_aload_n hx hb (show decode code 604 = .ok (.aload_n 0, 1) by decide +kernel) rfl (lv_at hl 1 rfl) ?_
  refine lv_iload hx hb (show decode code 605 = .ok (.iload 4, 2) by decide +kernel) (lv_at hl 5 rfl) ?_
  refine lv_iconst (v := 1) hx hb (show decode code 607 = .ok (.iconst 1, 1) by decide +kernel) (by decide) ?_
  refine lv_iadd hx hb (show decode code 608 = .ok (.iadd, 1) by decide +kernel) ?_
  refine va_sld hx hb hX hbl hbA hS i1 (show decode code 609 = .ok (.iaload, 1) by decide +kernel) ?_
  refine lv_aload_n hx hb (show decode code 610 = .ok (.aload_n 0, 1) by decide +kernel) rfl (lv_at hl 1 rfl) ?_
  refine lv_iload hx hb (show decode code 611 = .ok (.iload 4, 2) by decide +kernel) (lv_at hl 5 rfl) ?_
  refine lv_iconst (v := 2) hx hb (show decode code 613 = .ok (.iconst 2, 1) by decide +kernel) (by decide) ?_
  refine lv_iadd hx hb (show decode code 614 = .ok (.iadd, 1) by decide +kernel) ?_
  refine va_sld hx hb hX hbl hbA hS i2 (show decode code 615 = .ok (.iaload, 1) by decide +kernel) ?_
  refine lv_aload_n hx hb (show decode code 616 = .ok (.aload_n 0, 1) by decide +kernel) rfl (lv_at hl 1 rfl) ?_
  refine lv_iload hx hb (show decode code 617 = .ok (.iload 4, 2) by decide +kernel) (lv_at hl 5 rfl) ?_
  refine lv_iconst (v := 3) hx hb (show decode code 619 = .ok (.iconst 3, 1) by decide +kernel) (by decide) ?_
  refine lv_iadd hx hb (show decode code 620 = .ok (.iadd, 1) by decide +kernel) ?_
  refine va_sld hx hb hX hbl hbA hS i3 (show decode code 621 = .ok (.iaload, 1) by decide +kernel) ?_
  refine lw_bool hx hb (show decode code 622 = .ok (.ifCond .eq 7, 3) by decide +kernel) (show decode code 625 = .ok (.iconst 1, 1) by decide +kernel) (show decode code 626 = .ok (.goto 4, 3) by decide +kernel) (show decode code 629 = .ok (.iconst 0, 1) by decide +kernel) ?_
  refine jl_call (A := fun q : Nat => s.heap.size ≤ q) (H0 := s.heap) (nL := 7) (ix := 102) (mj := 230) (ob := 106) (ci := 12) (bs := [.int (xs (i + 1).toNatClampNeg), .int (xs (i + 2).toNatClampNeg), .int (lawB (xs (i + 3).toNatClampNeg))]) (rest := []) hE (by decide) (by decide +kernel) (by show 4 ≤ (jt_M 230).2.2.2; decide +kernel) (by show 3 = (jt_M 230).2.1; decide +kernel) (by decide) rfl rfl (jt_inT (by decide +kernel) rfl) (jt_inT (by decide +kernel) rfl) (jt_inT (by decide +kernel) rfl) hx hb hml hl.1 hown hts hK hA (by decide) (by decide) ⟨hcs.1, hcs.2⟩ (show decode code 630 = .ok (.invokevirtual 102, 3) by decide +kernel) (by decide) hP hD hS (fun H1 locs1 hP1 hD1 hS1 => ?_)
  show W p l e room_1 s m _ below meth c H1 locs1 _ _ Q (F0 m 633 ls [.int bb])
  refine lv_istore (lv' := [(6, .int bb), (5, .int kk), (0, .ref b), (1, .ref (ad 0)), (2, .ref (ad 106)), (3, .ref (ad 171)), (4, .int i)]) hx hb (show decode code 633 = .ok (.istore 6, 2) by decide +kernel) hl (by decide) rfl (fun ls hl => ?_)
  exact lw_tail (T := 635) (off := 115) Z hcs e1 e2 (by decide) (show decode code 635 = .ok (.aload_n 2, 1) by decide +kernel) (show decode code 636 = .ok (.invokevirtual 56, 3) by decide +kernel) (show decode code 639 = .ok (.iload 5, 2) by decide +kernel) (show decode code 641 = .ok (.if_icmp .eq 5, 3) by decide +kernel) (show decode code 646 = .ok (.iload 5, 2) by decide +kernel) (show decode code 648 = .ok (.ifCond .ne 15, 3) by decide +kernel) (show decode code 651 = .ok (.aload_n 3, 1) by decide +kernel) (show decode code 652 = .ok (.iconst 0, 1) by decide +kernel) (show decode code 653 = .ok (.laload, 1) by decide +kernel) (show decode code 654 = .ok (.iload 6, 2) by decide +kernel) (show decode code 656 = .ok (.i2l, 1) by decide +kernel) (show decode code 657 = .ok (.lcmp, 1) by decide +kernel) (show decode code 658 = .ok (.ifCond .eq 5, 3) by decide +kernel) (show decode code 663 = .ok (.goto 115, 3) by decide +kernel) (k σ2 e3) H1 locs1 ls hl hP1 hD1 hS1
theorem cs_told {p : Program} {l : Launch} {e : Env} {s : State} {m : MethodId} {below : List Frame} {meth : Method} {c : Code} {b L : Nat} {xs : Nat → Int32} {D : va_G} {dA : Nat → ClassId} {ad : Nat → Nat} {Q : State → Prop} {cells slots : Nat} {i : Int32} {σ : jx_S} (Z : lwZ p l s m meth c b L xs D dA ad) (hi : vp_in (i + 1) L ∧ vp_in (i + 2) L ∧ vp_in (i + 3) L) (hcs : cells + 1 ≤ 601024 ∧ slots + 6 ≤ 7293034) (h : IV2 σ σ) (k : ∀ σ2, IV2 σ2 σ2 → lwG p l e s m below meth c b Q D dA ad 778 [(0, .ref b), (1, .ref (ad 0)), (2, .ref (ad 106)), (3, .ref (ad 171)), (4, .int i)] [] σ2 (cells + 1) (slots + 6)) : lwG p l e s m below meth c b Q D dA ad 666 [(0, .ref b), (1, .ref (ad 0)), (2, .ref (ad 106)), (3, .ref (ad 171)), (4, .int i)] [] σ cells slots := by
  obtain ⟨⟨hx, hb, hr, hml, hown, htsl, hX, hbl, hlocks, hgv⟩, hK, had, h1, htr⟩ := id Z
  obtain ⟨hts, hA, hbA, hW0⟩ := lwZ_of Z
  obtain ⟨i1, i2, i3⟩ := hi
  intro H locs ls hl hP hD hS
  have hFH : ∀ a, a < s.heap.size → H[a]? = s.heap[a]? := fun a ha => hS.2.1 a ha (Nat.not_le.mpr ha)
  obtain ⟨kk, σ1, bb, σ2, hM, hE, e1, e2, e3⟩ := wr_told (l := l) (D := D) (dA := dA) h1 htr had h (xs (i + 1).toNatClampNeg)
  refine lv_aload_n hx hb (show decode code 666 = .ok (.aload_n 1, 1) by decide +kernel) rfl (lv_at hl 1 rfl) ?_
  refine lv_aload_n hx hb (show decode code 667 = .ok (.aload_n 0, 1) by decide +kernel) rfl (lv_at hl 0 rfl) ?_
  refine lv_iload hx hb (show decode code 668 = .ok (.iload 4, 2) by decide +kernel) (lv_at hl 4 rfl) ?_
  refine lv_iconst (v := 1) hx hb (show decode code 670 = .ok (.iconst 1, 1) by decide +kernel) (by decide) ?_
  refine lv_iadd hx hb (show decode code 671 = .ok (.iadd, 1) by decide +kernel) ?_
  refine va_sld hx hb hX hbl hbA hS i1 (show decode code 672 = .ok (.iaload, 1) by decide +kernel) ?_
  refine lv_aload_n hx hb (show decode code 673 = .ok (.aload_n 3, 1) by decide +kernel) rfl (lv_at hl 3 rfl) ?_
  refine jl_wcall (n := 0) (A := fun q : Nat => s.heap.size ≤ q) (H0 := s.heap) (nL := 7) (ix := 103) (as := [.ref 0, .int (xs (i + 1).toNatClampNeg), .ref 171]) (rest := []) hM rfl (show (parseMethodDescriptor "(LLazyStrict;I[J)I").map (fun d => d.parameters.length) = some 3 by decide +kernel) (jt_inT (by decide +kernel) rfl) (jt_inT (by decide +kernel) rfl) (jt_inT (by decide +kernel) rfl) (jt_inT (by decide +kernel) rfl) (by decide) hx hb hml hl.1 hown hts hK hA (State.WarmedH.refl s) hFH (by decide) (by decide) hcs.1 hcs.2 (show decode code 674 = .ok (.invokestatic 103, 3) by decide +kernel) (by decide) hP hD hS (fun H1 locs1 hP hD hS => ?_)
  refine lv_istore (lv' := [(5, .int kk), (0, .ref b), (1, .ref (ad 0)), (2, .ref (ad 106)), (3, .ref (ad 171)), (4, .int i)]) hx hb (show decode code 677 = .ok (.istore 5, 2) by decide +kernel) hl (by decide) rfl (fun ls hl => ?_)
  refine lv_aload_n hx hb (show decode code 679 = .ok (.aload_n 2, 1) by decide +kernel) rfl (lv_at hl 3 rfl) ?_
  refine lv_aload_n hx hb (show decode code 680 = .ok (.aload_n 0, 1) by decide +kernel) rfl (lv_at hl 1 rfl) ?_
  refine lv_iload hx hb (show decode code 681 = .ok (.iload 4, 2) by decide +kernel) (lv_at hl 5 rfl) ?_
  refine lv_iconst (v := 1) hx hb (show decode code 683 = .ok (.iconst 1, 1) by decide +kernel) (by decide) ?_
  refine lv_iadd hx hb (show decode code 684 = .ok (.iadd, 1) by decide +kernel) ?_
  refine va_sld hx hb hX hbl hbA hS i1 (show decode code 685 = .ok (.iaload, 1) by decide +kernel) ?_
  refine jl_call (A := fun q : Nat => s.heap.size ≤ q) (H0 := s.heap) (nL := 7) (ix := 105) (mj := 231) (ob := 106) (ci := 12) (bs := [.int (xs (i + 1).toNatClampNeg)]) (rest := []) hE (by decide) (by decide +kernel) (by show 2 ≤ (jt_M 231).2.2.2; decide +kernel) (by show 1 = (jt_M 231).2.1; decide +kernel) (by decide) rfl rfl (jt_inT (by decide +kernel) rfl) (jt_inT (by decide +kernel) rfl) (jt_inT (by decide +kernel) rfl) hx hb hml hl.1 hown hts hK hA (by decide) (by decide) ⟨hcs.1, hcs.2⟩ (show decode code 686 = .ok (.invokevirtual 105, 3) by decide +kernel) (by decide) hP hD hS (fun H1 locs1 hP1 hD1 hS1 => ?_)
  show W p l e room_1 s m _ below meth c H1 locs1 _ _ Q (F0 m 689 ls [.int bb])
  refine lv_istore (lv' := [(6, .int bb), (5, .int kk), (0, .ref b), (1, .ref (ad 0)), (2, .ref (ad 106)), (3, .ref (ad 171)), (4, .int i)]) hx hb (show decode code 689 = .ok (.istore 6, 2) by decide +kernel) hl (by decide) rfl (fun ls hl => ?_)
  exact lw_tail (T := 691) (off := 59) Z hcs e1 e2 (by decide) (show decode code 691 = .ok (.aload_n 2, 1) by decide +kernel) (show decode code 692 = .ok (.invokevirtual 56, 3) by decide +kernel) (show decode code 695 = .ok (.iload 5, 2) by decide +kernel) (show decode code 697 = .ok (.if_icmp .eq 5, 3) by decide +kernel) (show decode code 702 = .ok (.iload 5, 2) by decide +kernel) (show decode code 704 = .ok (.ifCond .ne 15, 3) by decide +kernel) (show decode code 707 = .ok (.aload_n 3, 1) by decide +kernel) (show decode code 708 = .ok (.iconst 0, 1) by decide +kernel) (show decode code 709 = .ok (.laload, 1) by decide +kernel) (show decode code 710 = .ok (.iload 6, 2) by decide +kernel) (show decode code 712 = .ok (.i2l, 1) by decide +kernel) (show decode code 713 = .ok (.lcmp, 1) by decide +kernel) (show decode code 714 = .ok (.ifCond .eq 5, 3) by decide +kernel) (show decode code 719 = .ok (.goto 59, 3) by decide +kernel) (k σ2 e3) H1 locs1 ls hl hP1 hD1 hS1
theorem cs_element {p : Program} {l : Launch} {e : Env} {s : State} {m : MethodId} {below : List Frame} {meth : Method} {c : Code} {b L : Nat} {xs : Nat → Int32} {D : va_G} {dA : Nat → ClassId} {ad : Nat → Nat} {Q : State → Prop} {cells slots : Nat} {i : Int32} {σ : jx_S} (Z : lwZ p l s m meth c b L xs D dA ad) (hi : vp_in (i + 1) L ∧ vp_in (i + 2) L ∧ vp_in (i + 3) L) (hcs : cells + 1 ≤ 601024 ∧ slots + 6 ≤ 7293034) (h : IV2 σ σ) (k : ∀ σ2, IV2 σ2 σ2 → lwG p l e s m below meth c b Q D dA ad 778 [(0, .ref b), (1, .ref (ad 0)), (2, .ref (ad 106)), (3, .ref (ad 171)), (4, .int i)] [] σ2 (cells + 1) (slots + 6)) : lwG p l e s m below meth c b Q D dA ad 722 [(0, .ref b), (1, .ref (ad 0)), (2, .ref (ad 106)), (3, .ref (ad 171)), (4, .int i)] [] σ cells slots := by
  obtain ⟨⟨hx, hb, hr, hml, hown, htsl, hX, hbl, hlocks, hgv⟩, hK, had, h1, htr⟩ := id Z
  obtain ⟨hts, hA, hbA, hW0⟩ := lwZ_of Z
  obtain ⟨i1, i2, i3⟩ := hi
  intro H locs ls hl hP hD hS
  have hFH : ∀ a, a < s.heap.size → H[a]? = s.heap[a]? := fun a ha => hS.2.1 a ha (Nat.not_le.mpr ha)
  obtain ⟨kk, σ1, bb, σ2, hM, hE, e1, e2, e3⟩ := wr_element (l := l) (D := D) (dA := dA) h1 htr had h (xs (i + 1).toNatClampNeg)
  refine lv_aload_n hx hb (show decode code 722 = .ok (.aload_n 1, 1) by decide +kernel) rfl (lv_at hl 1 rfl) ?_
  refine lv_aload_n hx hb (show decode code 723 = .ok (.aload_n 0, 1) by decide +kernel) rfl (lv_at hl 0 rfl) ?_
  refine lv_iload hx hb (show decode code 724 = .ok (.iload 4, 2) by decide +kernel) (lv_at hl 4 rfl) ?_
  refine lv_iconst (v := 1) hx hb (show decode code 726 = .ok (.iconst 1, 1) by decide +kernel) (by decide) ?_
  refine lv_iadd hx hb (show decode code 727 = .ok (.iadd, 1) by decide +kernel) ?_
  refine va_sld hx hb hX hbl hbA hS i1 (show decode code 728 = .ok (.iaload, 1) by decide +kernel) ?_
  refine lv_aload_n hx hb (show decode code 729 = .ok (.aload_n 3, 1) by decide +kernel) rfl (lv_at hl 3 rfl) ?_
  refine jl_wcall (n := 0) (A := fun q : Nat => s.heap.size ≤ q) (H0 := s.heap) (nL := 7) (ix := 106) (as := [.ref 0, .int (xs (i + 1).toNatClampNeg), .ref 171]) (rest := []) hM rfl (show (parseMethodDescriptor "(LLazyStrict;I[J)I").map (fun d => d.parameters.length) = some 3 by decide +kernel) (jt_inT (by decide +kernel) rfl) (jt_inT (by decide +kernel) rfl) (jt_inT (by decide +kernel) rfl) (jt_inT (by decide +kernel) rfl) (by decide) hx hb hml hl.1 hown hts hK hA (State.WarmedH.refl s) hFH (by decide) (by decide) hcs.1 hcs.2 (show decode code 730 = .ok (.invokestatic 106, 3) by decide +kernel) (by decide) hP hD hS (fun H1 locs1 hP hD hS => ?_)
  refine lv_istore (lv' := [(5, .int kk), (0, .ref b), (1, .ref (ad 0)), (2, .ref (ad 106)), (3, .ref (ad 171)), (4, .int i)]) hx hb (show decode code 733 = .ok (.istore 5, 2) by decide +kernel) hl (by decide) rfl (fun ls hl => ?_)
  refine lv_aload_n hx hb (show decode code 735 = .ok (.aload_n 2, 1) by decide +kernel) rfl (lv_at hl 3 rfl) ?_
  refine lv_aload_n hx hb (show decode code 736 = .ok (.aload_n 0, 1) by decide +kernel) rfl (lv_at hl 1 rfl) ?_
  refine lv_iload hx hb (show decode code 737 = .ok (.iload 4, 2) by decide +kernel) (lv_at hl 5 rfl) ?_
  refine lv_iconst (v := 1) hx hb (show decode code 739 = .ok (.iconst 1, 1) by decide +kernel) (by decide) ?_
  refine lv_iadd hx hb (show decode code 740 = .ok (.iadd, 1) by decide +kernel) ?_
  refine va_sld hx hb hX hbl hbA hS i1 (show decode code 741 = .ok (.iaload, 1) by decide +kernel) ?_
  refine jl_call (A := fun q : Nat => s.heap.size ≤ q) (H0 := s.heap) (nL := 7) (ix := 108) (mj := 232) (ob := 106) (ci := 12) (bs := [.int (xs (i + 1).toNatClampNeg)]) (rest := []) hE (by decide) (by decide +kernel) (by show 2 ≤ (jt_M 232).2.2.2; decide +kernel) (by show 1 = (jt_M 232).2.1; decide +kernel) (by decide) rfl rfl (jt_inT (by decide +kernel) rfl) (jt_inT (by decide +kernel) rfl) (jt_inT (by decide +kernel) rfl) hx hb hml hl.1 hown hts hK hA (by decide) (by decide) ⟨hcs.1, hcs.2⟩ (show decode code 742 = .ok (.invokevirtual 108, 3) by decide +kernel) (by decide) hP hD hS (fun H1 locs1 hP1 hD1 hS1 => ?_)
  show W p l e room_1 s m _ below meth c H1 locs1 _ _ Q (F0 m 745 ls [.int bb])
  refine lv_istore (lv' := [(6, .int bb), (5, .int kk), (0, .ref b), (1, .ref (ad 0)), (2, .ref (ad 106)), (3, .ref (ad 171)), (4, .int i)]) hx hb (show decode code 745 = .ok (.istore 6, 2) by decide +kernel) hl (by decide) rfl (fun ls hl => ?_)
  exact lw_tail (T := 747) (off := 3) Z hcs e1 e2 (by decide) (show decode code 747 = .ok (.aload_n 2, 1) by decide +kernel) (show decode code 748 = .ok (.invokevirtual 56, 3) by decide +kernel) (show decode code 751 = .ok (.iload 5, 2) by decide +kernel) (show decode code 753 = .ok (.if_icmp .eq 5, 3) by decide +kernel) (show decode code 758 = .ok (.iload 5, 2) by decide +kernel) (show decode code 760 = .ok (.ifCond .ne 15, 3) by decide +kernel) (show decode code 763 = .ok (.aload_n 3, 1) by decide +kernel) (show decode code 764 = .ok (.iconst 0, 1) by decide +kernel) (show decode code 765 = .ok (.laload, 1) by decide +kernel) (show decode code 766 = .ok (.iload 6, 2) by decide +kernel) (show decode code 768 = .ok (.i2l, 1) by decide +kernel) (show decode code 769 = .ok (.lcmp, 1) by decide +kernel) (show decode code 770 = .ok (.ifCond .eq 5, 3) by decide +kernel) (show decode code 775 = .ok (.goto 3, 3) by decide +kernel) (k σ2 e3) H1 locs1 ls hl hP1 hD1 hS1
theorem cs_wipe {p : Program} {l : Launch} {e : Env} {s : State} {m : MethodId} {below : List Frame} {meth : Method} {c : Code} {b L : Nat} {xs : Nat → Int32} {D : va_G} {dA : Nat → ClassId} {ad : Nat → Nat} {Q : State → Prop} {cells slots : Nat} {i : Int32} {σ : jx_S} (Z : lwZ p l s m meth c b L xs D dA ad) (hi : vp_in (i + 1) L ∧ vp_in (i + 2) L ∧ vp_in (i + 3) L) (hcs : cells + 1 ≤ 601024 ∧ slots + 6 ≤ 7293034) (h : IV2 σ σ) (k : ∀ σ2, IV2 σ2 σ2 → lwG p l e s m below meth c b Q D dA ad 778 [(0, .ref b), (1, .ref (ad 0)), (2, .ref (ad 106)), (3, .ref (ad 171)), (4, .int i)] [] σ2 (cells + 1) (slots + 6)) : lwG p l e s m below meth c b Q D dA ad 208 [(0, .ref b), (1, .ref (ad 0)), (2, .ref (ad 106)), (3, .ref (ad 171)), (4, .int i)] [] σ cells slots := by
  obtain ⟨⟨hx, hb, hr, hml, hown, htsl, hX, hbl, hlocks, hgv⟩, hK, had, h1, htr⟩ := id Z
  obtain ⟨hts, hA, hbA, hW0⟩ := lwZ_of Z
  obtain ⟨i1, i2, i3⟩ := hi
  intro H locs ls hl hP hD hS
  have hFH : ∀ a, a < s.heap.size → H[a]? = s.heap[a]? := fun a ha => hS.2.1 a ha (Nat.not_le.mpr ha)
  obtain ⟨r, σ1, σ2, q1, q2, q3⟩ := t_wipe h 
  refine lv_aload_n hx hb (show decode code 208 = .ok (.aload_n 1, 1) by decide +kernel) rfl (lv_at hl 1 rfl) ?_
  refine jl_call (A := fun q : Nat => s.heap.size ≤ q) (H0 := s.heap) (nL := 7) (ix := 60) (mj := 1) (ob := 0) (ci := 0) (bs := []) (rest := []) (x_cl_wipe 400 (by decide)  σ (r, σ1) _ q1 rfl) (by decide) (by decide +kernel) (by show 1 ≤ (jt_M 1).2.2.2; decide +kernel) (by show 0 = (jt_M 1).2.1; decide +kernel) (by decide) rfl rfl (jt_inT (by decide +kernel) rfl) (jt_inT (by decide +kernel) rfl) (jt_inT (by decide +kernel) rfl) hx hb hml hl.1 hown hts hK hA (by decide) (by decide) ⟨by show cells ≤ 601024; omega, by show slots ≤ 7293034; omega⟩ (show decode code 209 = .ok (.invokevirtual 60, 3) by decide +kernel) (by decide) hP hD hS (fun H1 locs1 hP hD hS => ?_)
  show W p l e room_1 s m _ below meth c H1 locs1 _ _ Q (F0 m 212 ls [.int r])
  refine lv_aload_n hx hb (show decode code 212 = .ok (.aload_n 2, 1) by decide +kernel) rfl (lv_at hl 2 rfl) ?_
  refine jl_call (A := fun q : Nat => s.heap.size ≤ q) (H0 := s.heap) (nL := 7) (ix := 63) (mj := 145) (ob := 106) (ci := 12) (bs := []) (rest := [.int r]) (x_r_wipe 400 (by decide)  σ1 (r, σ2) _ q2 rfl) (by decide) (by decide +kernel) (by show 1 ≤ (jt_M 145).2.2.2; decide +kernel) (by show 0 = (jt_M 145).2.1; decide +kernel) (by decide) rfl rfl (jt_inT (by decide +kernel) rfl) (jt_inT (by decide +kernel) rfl) (jt_inT (by decide +kernel) rfl) hx hb hml hl.1 hown hts hK hA (by decide) (by decide) ⟨by show cells ≤ 601024; omega, by show slots ≤ 7293034; omega⟩ (show decode code 213 = .ok (.invokevirtual 63, 3) by decide +kernel) (by show 1 + 0 ≤ 8; decide) hP hD hS (fun H1 locs1 hP1 hD1 hS1 => ?_)
  show W p l e room_1 s m _ below meth c H1 locs1 _ _ Q (F0 m 216 ls [.int r, .int r])
  refine lv_icmp_eq (tgt := 778) hx hb (show decode code 216 = .ok (.if_icmp .eq 562, 3) by decide +kernel) (by decide) (fun c_1 => ?_) (fun c_1 => absurd rfl c_1)
  refine W.widen (k := cells + 1) (n := slots + 6) (by omega) (by omega) ?_
  exact k σ2 q3 H1 locs1 ls hl hP1 hD1 hS1
theorem cs_compile {p : Program} {l : Launch} {e : Env} {s : State} {m : MethodId} {below : List Frame} {meth : Method} {c : Code} {b L : Nat} {xs : Nat → Int32} {D : va_G} {dA : Nat → ClassId} {ad : Nat → Nat} {Q : State → Prop} {cells slots : Nat} {i : Int32} {σ : jx_S} (Z : lwZ p l s m meth c b L xs D dA ad) (hi : vp_in (i + 1) L ∧ vp_in (i + 2) L ∧ vp_in (i + 3) L) (hcs : cells + 1 ≤ 601024 ∧ slots + 6 ≤ 7293034) (h : IV2 σ σ) (k : ∀ σ2, IV2 σ2 σ2 → lwG p l e s m below meth c b Q D dA ad 778 [(0, .ref b), (1, .ref (ad 0)), (2, .ref (ad 106)), (3, .ref (ad 171)), (4, .int i)] [] σ2 (cells + 1) (slots + 6)) : lwG p l e s m below meth c b Q D dA ad 221 [(0, .ref b), (1, .ref (ad 0)), (2, .ref (ad 106)), (3, .ref (ad 171)), (4, .int i)] [] σ cells slots := by
  obtain ⟨⟨hx, hb, hr, hml, hown, htsl, hX, hbl, hlocks, hgv⟩, hK, had, h1, htr⟩ := id Z
  obtain ⟨hts, hA, hbA, hW0⟩ := lwZ_of Z
  obtain ⟨i1, i2, i3⟩ := hi
  intro H locs ls hl hP hD hS
  have hFH : ∀ a, a < s.heap.size → H[a]? = s.heap[a]? := fun a ha => hS.2.1 a ha (Nat.not_le.mpr ha)
  obtain ⟨r, σ1, σ2, q1, q2, q3⟩ := t_compile h 
  refine lv_aload_n hx hb (show decode code 221 = .ok (.aload_n 1, 1) by decide +kernel) rfl (lv_at hl 1 rfl) ?_
  refine jl_call (A := fun q : Nat => s.heap.size ≤ q) (H0 := s.heap) (nL := 7) (ix := 64) (mj := 2) (ob := 0) (ci := 0) (bs := []) (rest := []) (x_cl_compile 400 (by decide)  σ (r, σ1) _ q1 rfl) (by decide) (by decide +kernel) (by show 1 ≤ (jt_M 2).2.2.2; decide +kernel) (by show 0 = (jt_M 2).2.1; decide +kernel) (by decide) rfl rfl (jt_inT (by decide +kernel) rfl) (jt_inT (by decide +kernel) rfl) (jt_inT (by decide +kernel) rfl) hx hb hml hl.1 hown hts hK hA (by decide) (by decide) ⟨by show cells ≤ 601024; omega, by show slots ≤ 7293034; omega⟩ (show decode code 222 = .ok (.invokevirtual 64, 3) by decide +kernel) (by decide) hP hD hS (fun H1 locs1 hP hD hS => ?_)
  show W p l e room_1 s m _ below meth c H1 locs1 _ _ Q (F0 m 225 ls [.int r])
  refine lv_aload_n hx hb (show decode code 225 = .ok (.aload_n 2, 1) by decide +kernel) rfl (lv_at hl 2 rfl) ?_
  refine jl_call (A := fun q : Nat => s.heap.size ≤ q) (H0 := s.heap) (nL := 7) (ix := 67) (mj := 199) (ob := 106) (ci := 12) (bs := []) (rest := [.int r]) (x_r_compile 400 (by decide)  σ1 (r, σ2) _ q2 rfl) (by decide) (by decide +kernel) (by show 1 ≤ (jt_M 199).2.2.2; decide +kernel) (by show 0 = (jt_M 199).2.1; decide +kernel) (by decide) rfl rfl (jt_inT (by decide +kernel) rfl) (jt_inT (by decide +kernel) rfl) (jt_inT (by decide +kernel) rfl) hx hb hml hl.1 hown hts hK hA (by decide) (by decide) ⟨by show cells ≤ 601024; omega, by show slots ≤ 7293034; omega⟩ (show decode code 226 = .ok (.invokevirtual 67, 3) by decide +kernel) (by show 1 + 0 ≤ 8; decide) hP hD hS (fun H1 locs1 hP1 hD1 hS1 => ?_)
  show W p l e room_1 s m _ below meth c H1 locs1 _ _ Q (F0 m 229 ls [.int r, .int r])
  refine lv_icmp_eq (tgt := 778) hx hb (show decode code 229 = .ok (.if_icmp .eq 549, 3) by decide +kernel) (by decide) (fun c_1 => ?_) (fun c_1 => absurd rfl c_1)
  refine W.widen (k := cells + 1) (n := slots + 6) (by omega) (by omega) ?_
  exact k σ2 q3 H1 locs1 ls hl hP1 hD1 hS1
theorem cs_isStrict {p : Program} {l : Launch} {e : Env} {s : State} {m : MethodId} {below : List Frame} {meth : Method} {c : Code} {b L : Nat} {xs : Nat → Int32} {D : va_G} {dA : Nat → ClassId} {ad : Nat → Nat} {Q : State → Prop} {cells slots : Nat} {i : Int32} {σ : jx_S} (Z : lwZ p l s m meth c b L xs D dA ad) (hi : vp_in (i + 1) L ∧ vp_in (i + 2) L ∧ vp_in (i + 3) L) (hcs : cells + 1 ≤ 601024 ∧ slots + 6 ≤ 7293034) (h : IV2 σ σ) (k : ∀ σ2, IV2 σ2 σ2 → lwG p l e s m below meth c b Q D dA ad 778 [(0, .ref b), (1, .ref (ad 0)), (2, .ref (ad 106)), (3, .ref (ad 171)), (4, .int i)] [] σ2 (cells + 1) (slots + 6)) : lwG p l e s m below meth c b Q D dA ad 489 [(0, .ref b), (1, .ref (ad 0)), (2, .ref (ad 106)), (3, .ref (ad 171)), (4, .int i)] [] σ cells slots := by
  obtain ⟨⟨hx, hb, hr, hml, hown, htsl, hX, hbl, hlocks, hgv⟩, hK, had, h1, htr⟩ := id Z
  obtain ⟨hts, hA, hbA, hW0⟩ := lwZ_of Z
  obtain ⟨i1, i2, i3⟩ := hi
  intro H locs ls hl hP hD hS
  have hFH : ∀ a, a < s.heap.size → H[a]? = s.heap[a]? := fun a ha => hS.2.1 a ha (Nat.not_le.mpr ha)
  obtain ⟨r, σ1, σ2, q1, q2, q3⟩ := t_strict h (xs (i + 1).toNatClampNeg)
  refine lv_aload_n hx hb (show decode code 489 = .ok (.aload_n 1, 1) by decide +kernel) rfl (lv_at hl 1 rfl) ?_
  refine lv_aload_n hx hb (show decode code 490 = .ok (.aload_n 0, 1) by decide +kernel) rfl (lv_at hl 0 rfl) ?_
  refine lv_iload hx hb (show decode code 491 = .ok (.iload 4, 2) by decide +kernel) (lv_at hl 4 rfl) ?_
  refine lv_iconst (v := 1) hx hb (show decode code 493 = .ok (.iconst 1, 1) by decide +kernel) (by decide) ?_
  refine lv_iadd hx hb (show decode code 494 = .ok (.iadd, 1) by decide +kernel) ?_
  refine va_sld hx hb hX hbl hbA hS i1 (show decode code 495 = .ok (.iaload, 1) by decide +kernel) ?_
  refine jl_call (A := fun q : Nat => s.heap.size ≤ q) (H0 := s.heap) (nL := 7) (ix := 91) (mj := 9) (ob := 0) (ci := 0) (bs := [.int (xs (i + 1).toNatClampNeg)]) (rest := []) (x_cl_isStrict 400 (by decide) (xs (i + 1).toNatClampNeg) σ (r, σ1) _ q1 rfl) (by decide) (by decide +kernel) (by show 2 ≤ (jt_M 9).2.2.2; decide +kernel) (by show 1 = (jt_M 9).2.1; decide +kernel) (by decide) rfl rfl (jt_inT (by decide +kernel) rfl) (jt_inT (by decide +kernel) rfl) (jt_inT (by decide +kernel) rfl) hx hb hml hl.1 hown hts hK hA (by decide) (by decide) ⟨by show cells ≤ 601024; omega, by show slots ≤ 7293034; omega⟩ (show decode code 496 = .ok (.invokevirtual 91, 3) by decide +kernel) (by decide) hP hD hS (fun H1 locs1 hP hD hS => ?_)
  show W p l e room_1 s m _ below meth c H1 locs1 _ _ Q (F0 m 499 ls [.int r])
  refine lv_aload_n hx hb (show decode code 499 = .ok (.aload_n 2, 1) by decide +kernel) rfl (lv_at hl 2 rfl) ?_
  refine lv_aload_n hx hb (show decode code 500 = .ok (.aload_n 0, 1) by decide +kernel) rfl (lv_at hl 0 rfl) ?_
  refine lv_iload hx hb (show decode code 501 = .ok (.iload 4, 2) by decide +kernel) (lv_at hl 4 rfl) ?_
  refine lv_iconst (v := 1) hx hb (show decode code 503 = .ok (.iconst 1, 1) by decide +kernel) (by decide) ?_
  refine lv_iadd hx hb (show decode code 504 = .ok (.iadd, 1) by decide +kernel) ?_
  refine va_sld hx hb hX hbl hbA hS i1 (show decode code 505 = .ok (.iaload, 1) by decide +kernel) ?_
  refine jl_call (A := fun q : Nat => s.heap.size ≤ q) (H0 := s.heap) (nL := 7) (ix := 94) (mj := 207) (ob := 106) (ci := 12) (bs := [.int (xs (i + 1).toNatClampNeg)]) (rest := [.int r]) (x_r_isStrict 400 (by decide) (xs (i + 1).toNatClampNeg) σ1 (r, σ2) _ q2 rfl) (by decide) (by decide +kernel) (by show 2 ≤ (jt_M 207).2.2.2; decide +kernel) (by show 1 = (jt_M 207).2.1; decide +kernel) (by decide) rfl rfl (jt_inT (by decide +kernel) rfl) (jt_inT (by decide +kernel) rfl) (jt_inT (by decide +kernel) rfl) hx hb hml hl.1 hown hts hK hA (by decide) (by decide) ⟨by show cells ≤ 601024; omega, by show slots ≤ 7293034; omega⟩ (show decode code 506 = .ok (.invokevirtual 94, 3) by decide +kernel) (by show 1 + 0 ≤ 8; decide) hP hD hS (fun H1 locs1 hP1 hD1 hS1 => ?_)
  show W p l e room_1 s m _ below meth c H1 locs1 _ _ Q (F0 m 509 ls [.int r, .int r])
  refine lv_icmp_eq (tgt := 778) hx hb (show decode code 509 = .ok (.if_icmp .eq 269, 3) by decide +kernel) (by decide) (fun c_1 => ?_) (fun c_1 => absurd rfl c_1)
  refine W.widen (k := cells + 1) (n := slots + 6) (by omega) (by omega) ?_
  exact k σ2 q3 H1 locs1 ls hl hP1 hD1 hS1
theorem cs_place {p : Program} {l : Launch} {e : Env} {s : State} {m : MethodId} {below : List Frame} {meth : Method} {c : Code} {b L : Nat} {xs : Nat → Int32} {D : va_G} {dA : Nat → ClassId} {ad : Nat → Nat} {Q : State → Prop} {cells slots : Nat} {i : Int32} {σ : jx_S} (Z : lwZ p l s m meth c b L xs D dA ad) (hi : vp_in (i + 1) L ∧ vp_in (i + 2) L ∧ vp_in (i + 3) L) (hcs : cells + 1 ≤ 601024 ∧ slots + 6 ≤ 7293034) (h : IV2 σ σ) (k : ∀ σ2, IV2 σ2 σ2 → lwG p l e s m below meth c b Q D dA ad 778 [(0, .ref b), (1, .ref (ad 0)), (2, .ref (ad 106)), (3, .ref (ad 171)), (4, .int i)] [] σ2 (cells + 1) (slots + 6)) : lwG p l e s m below meth c b Q D dA ad 234 [(0, .ref b), (1, .ref (ad 0)), (2, .ref (ad 106)), (3, .ref (ad 171)), (4, .int i)] [] σ cells slots := by
  obtain ⟨⟨hx, hb, hr, hml, hown, htsl, hX, hbl, hlocks, hgv⟩, hK, had, h1, htr⟩ := id Z
  obtain ⟨hts, hA, hbA, hW0⟩ := lwZ_of Z
  obtain ⟨i1, i2, i3⟩ := hi
  intro H locs ls hl hP hD hS
  have hFH : ∀ a, a < s.heap.size → H[a]? = s.heap[a]? := fun a ha => hS.2.1 a ha (Nat.not_le.mpr ha)
  obtain ⟨σ2, q2, q3⟩ := t_place h
  refine lv_aload_n hx hb (show decode code 234 = .ok (.aload_n 1, 1) by decide +kernel) rfl (lv_at hl 1 rfl) ?_
  refine jl_call (A := fun q : Nat => s.heap.size ≤ q) (H0 := s.heap) (nL := 7) (ix := 68) (mj := 3) (ob := 0) (ci := 0) (bs := []) (rest := []) (xv_cl_place 400 (by decide) σ) (by decide) (by decide +kernel) (by show 1 ≤ (jt_M 3).2.2.2; decide +kernel) (by show 0 = (jt_M 3).2.1; decide +kernel) (by decide) rfl rfl (jt_inT (by decide +kernel) rfl) (jt_inT (by decide +kernel) rfl) (jt_inT (by decide +kernel) rfl) hx hb hml hl.1 hown hts hK hA (by decide) (by decide) ⟨by show cells ≤ 601024; omega, by show slots ≤ 7293034; omega⟩ (show decode code 235 = .ok (.invokevirtual 68, 3) by decide +kernel) (by decide) hP hD hS (fun H1 locs1 hP hD hS => ?_)
  show W p l e room_1 s m _ below meth c H1 locs1 _ _ Q (F0 m 238 ls [.int (v_cl_place σ)])
  refine lv_aload_n hx hb (show decode code 238 = .ok (.aload_n 2, 1) by decide +kernel) rfl (lv_at hl 2 rfl) ?_
  refine jl_call (A := fun q : Nat => s.heap.size ≤ q) (H0 := s.heap) (nL := 7) (ix := 71) (mj := 200) (ob := 106) (ci := 12) (bs := []) (rest := [.int (v_cl_place σ)]) (x_r_place 400 (by decide) σ ((v_cl_place σ), σ2) _ q2 rfl) (by decide) (by decide +kernel) (by show 1 ≤ (jt_M 200).2.2.2; decide +kernel) (by show 0 = (jt_M 200).2.1; decide +kernel) (by decide) rfl rfl (jt_inT (by decide +kernel) rfl) (jt_inT (by decide +kernel) rfl) (jt_inT (by decide +kernel) rfl) hx hb hml hl.1 hown hts hK hA (by decide) (by decide) ⟨by show cells ≤ 601024; omega, by show slots ≤ 7293034; omega⟩ (show decode code 239 = .ok (.invokevirtual 71, 3) by decide +kernel) (by show 1 + 0 ≤ 8; decide) hP hD hS (fun H1 locs1 hP1 hD1 hS1 => ?_)
  show W p l e room_1 s m _ below meth c H1 locs1 _ _ Q (F0 m 242 ls [.int (v_cl_place σ), .int (v_cl_place σ)])
  refine lv_icmp_eq (tgt := 778) hx hb (show decode code 242 = .ok (.if_icmp .eq 536, 3) by decide +kernel) (by decide) (fun c_1 => ?_) (fun c_1 => absurd rfl c_1)
  refine W.widen (k := cells + 1) (n := slots + 6) (by omega) (by omega) ?_
  exact k σ2 q3 H1 locs1 ls hl hP1 hD1 hS1
theorem cs_functions {p : Program} {l : Launch} {e : Env} {s : State} {m : MethodId} {below : List Frame} {meth : Method} {c : Code} {b L : Nat} {xs : Nat → Int32} {D : va_G} {dA : Nat → ClassId} {ad : Nat → Nat} {Q : State → Prop} {cells slots : Nat} {i : Int32} {σ : jx_S} (Z : lwZ p l s m meth c b L xs D dA ad) (hi : vp_in (i + 1) L ∧ vp_in (i + 2) L ∧ vp_in (i + 3) L) (hcs : cells + 1 ≤ 601024 ∧ slots + 6 ≤ 7293034) (h : IV2 σ σ) (k : ∀ σ2, IV2 σ2 σ2 → lwG p l e s m below meth c b Q D dA ad 778 [(0, .ref b), (1, .ref (ad 0)), (2, .ref (ad 106)), (3, .ref (ad 171)), (4, .int i)] [] σ2 (cells + 1) (slots + 6)) : lwG p l e s m below meth c b Q D dA ad 247 [(0, .ref b), (1, .ref (ad 0)), (2, .ref (ad 106)), (3, .ref (ad 171)), (4, .int i)] [] σ cells slots := by
  obtain ⟨⟨hx, hb, hr, hml, hown, htsl, hX, hbl, hlocks, hgv⟩, hK, had, h1, htr⟩ := id Z
  obtain ⟨hts, hA, hbA, hW0⟩ := lwZ_of Z
  obtain ⟨i1, i2, i3⟩ := hi
  intro H locs ls hl hP hD hS
  have hFH : ∀ a, a < s.heap.size → H[a]? = s.heap[a]? := fun a ha => hS.2.1 a ha (Nat.not_le.mpr ha)
  obtain ⟨σ2, q2, q3⟩ := t_functions h
  refine lv_aload_n hx hb (show decode code 247 = .ok (.aload_n 1, 1) by decide +kernel) rfl (lv_at hl 1 rfl) ?_
  refine jl_call (A := fun q : Nat => s.heap.size ≤ q) (H0 := s.heap) (nL := 7) (ix := 72) (mj := 4) (ob := 0) (ci := 0) (bs := []) (rest := []) (xv_cl_functions 400 (by decide) σ) (by decide) (by decide +kernel) (by show 1 ≤ (jt_M 4).2.2.2; decide +kernel) (by show 0 = (jt_M 4).2.1; decide +kernel) (by decide) rfl rfl (jt_inT (by decide +kernel) rfl) (jt_inT (by decide +kernel) rfl) (jt_inT (by decide +kernel) rfl) hx hb hml hl.1 hown hts hK hA (by decide) (by decide) ⟨by show cells ≤ 601024; omega, by show slots ≤ 7293034; omega⟩ (show decode code 248 = .ok (.invokevirtual 72, 3) by decide +kernel) (by decide) hP hD hS (fun H1 locs1 hP hD hS => ?_)
  show W p l e room_1 s m _ below meth c H1 locs1 _ _ Q (F0 m 251 ls [.int (v_cl_functions σ)])
  refine lv_aload_n hx hb (show decode code 251 = .ok (.aload_n 2, 1) by decide +kernel) rfl (lv_at hl 2 rfl) ?_
  refine jl_call (A := fun q : Nat => s.heap.size ≤ q) (H0 := s.heap) (nL := 7) (ix := 75) (mj := 201) (ob := 106) (ci := 12) (bs := []) (rest := [.int (v_cl_functions σ)]) (x_r_functions 400 (by decide) σ ((v_cl_functions σ), σ2) _ q2 rfl) (by decide) (by decide +kernel) (by show 1 ≤ (jt_M 201).2.2.2; decide +kernel) (by show 0 = (jt_M 201).2.1; decide +kernel) (by decide) rfl rfl (jt_inT (by decide +kernel) rfl) (jt_inT (by decide +kernel) rfl) (jt_inT (by decide +kernel) rfl) hx hb hml hl.1 hown hts hK hA (by decide) (by decide) ⟨by show cells ≤ 601024; omega, by show slots ≤ 7293034; omega⟩ (show decode code 252 = .ok (.invokevirtual 75, 3) by decide +kernel) (by show 1 + 0 ≤ 8; decide) hP hD hS (fun H1 locs1 hP1 hD1 hS1 => ?_)
  show W p l e room_1 s m _ below meth c H1 locs1 _ _ Q (F0 m 255 ls [.int (v_cl_functions σ), .int (v_cl_functions σ)])
  refine lv_icmp_eq (tgt := 778) hx hb (show decode code 255 = .ok (.if_icmp .eq 523, 3) by decide +kernel) (by decide) (fun c_1 => ?_) (fun c_1 => absurd rfl c_1)
  refine W.widen (k := cells + 1) (n := slots + 6) (by omega) (by omega) ?_
  exact k σ2 q3 H1 locs1 ls hl hP1 hD1 hS1
theorem cs_rounds {p : Program} {l : Launch} {e : Env} {s : State} {m : MethodId} {below : List Frame} {meth : Method} {c : Code} {b L : Nat} {xs : Nat → Int32} {D : va_G} {dA : Nat → ClassId} {ad : Nat → Nat} {Q : State → Prop} {cells slots : Nat} {i : Int32} {σ : jx_S} (Z : lwZ p l s m meth c b L xs D dA ad) (hi : vp_in (i + 1) L ∧ vp_in (i + 2) L ∧ vp_in (i + 3) L) (hcs : cells + 1 ≤ 601024 ∧ slots + 6 ≤ 7293034) (h : IV2 σ σ) (k : ∀ σ2, IV2 σ2 σ2 → lwG p l e s m below meth c b Q D dA ad 778 [(0, .ref b), (1, .ref (ad 0)), (2, .ref (ad 106)), (3, .ref (ad 171)), (4, .int i)] [] σ2 (cells + 1) (slots + 6)) : lwG p l e s m below meth c b Q D dA ad 476 [(0, .ref b), (1, .ref (ad 0)), (2, .ref (ad 106)), (3, .ref (ad 171)), (4, .int i)] [] σ cells slots := by
  obtain ⟨⟨hx, hb, hr, hml, hown, htsl, hX, hbl, hlocks, hgv⟩, hK, had, h1, htr⟩ := id Z
  obtain ⟨hts, hA, hbA, hW0⟩ := lwZ_of Z
  obtain ⟨i1, i2, i3⟩ := hi
  intro H locs ls hl hP hD hS
  have hFH : ∀ a, a < s.heap.size → H[a]? = s.heap[a]? := fun a ha => hS.2.1 a ha (Nat.not_le.mpr ha)
  obtain ⟨σ2, q2, q3⟩ := t_rounds h
  refine lv_aload_n hx hb (show decode code 476 = .ok (.aload_n 1, 1) by decide +kernel) rfl (lv_at hl 1 rfl) ?_
  refine jl_call (A := fun q : Nat => s.heap.size ≤ q) (H0 := s.heap) (nL := 7) (ix := 87) (mj := 8) (ob := 0) (ci := 0) (bs := []) (rest := []) (xv_cl_rounds 400 (by decide) σ) (by decide) (by decide +kernel) (by show 1 ≤ (jt_M 8).2.2.2; decide +kernel) (by show 0 = (jt_M 8).2.1; decide +kernel) (by decide) rfl rfl (jt_inT (by decide +kernel) rfl) (jt_inT (by decide +kernel) rfl) (jt_inT (by decide +kernel) rfl) hx hb hml hl.1 hown hts hK hA (by decide) (by decide) ⟨by show cells ≤ 601024; omega, by show slots ≤ 7293034; omega⟩ (show decode code 477 = .ok (.invokevirtual 87, 3) by decide +kernel) (by decide) hP hD hS (fun H1 locs1 hP hD hS => ?_)
  show W p l e room_1 s m _ below meth c H1 locs1 _ _ Q (F0 m 480 ls [.int (v_cl_rounds σ)])
  refine lv_aload_n hx hb (show decode code 480 = .ok (.aload_n 2, 1) by decide +kernel) rfl (lv_at hl 2 rfl) ?_
  refine jl_call (A := fun q : Nat => s.heap.size ≤ q) (H0 := s.heap) (nL := 7) (ix := 90) (mj := 206) (ob := 106) (ci := 12) (bs := []) (rest := [.int (v_cl_rounds σ)]) (x_r_rounds 400 (by decide) σ ((v_cl_rounds σ), σ2) _ q2 rfl) (by decide) (by decide +kernel) (by show 1 ≤ (jt_M 206).2.2.2; decide +kernel) (by show 0 = (jt_M 206).2.1; decide +kernel) (by decide) rfl rfl (jt_inT (by decide +kernel) rfl) (jt_inT (by decide +kernel) rfl) (jt_inT (by decide +kernel) rfl) hx hb hml hl.1 hown hts hK hA (by decide) (by decide) ⟨by show cells ≤ 601024; omega, by show slots ≤ 7293034; omega⟩ (show decode code 481 = .ok (.invokevirtual 90, 3) by decide +kernel) (by show 1 + 0 ≤ 8; decide) hP hD hS (fun H1 locs1 hP1 hD1 hS1 => ?_)
  show W p l e room_1 s m _ below meth c H1 locs1 _ _ Q (F0 m 484 ls [.int (v_cl_rounds σ), .int (v_cl_rounds σ)])
  refine lv_icmp_eq (tgt := 778) hx hb (show decode code 484 = .ok (.if_icmp .eq 294, 3) by decide +kernel) (by decide) (fun c_1 => ?_) (fun c_1 => absurd rfl c_1)
  refine W.widen (k := cells + 1) (n := slots + 6) (by omega) (by omega) ?_
  exact k σ2 q3 H1 locs1 ls hl hP1 hD1 hS1
