/-! THE LAW, 4: its loop. -/
theorem nI_4 (n : Nat) : nI (n + 4) = nI n + 4 := by
  rw [show n + 4 = n + 3 + 1 by omega, nI_succ, show n + 3 = n + 2 + 1 by omega, nI_succ, show n + 2 = n + 1 + 1 by omega, nI_succ, nI_succ, Int32.add_assoc, Int32.add_assoc, Int32.add_assoc]; rfl
theorem lw_lt {L t : Nat} (hL : L ≤ 2048) (ht : t ≤ 4096) (h : ¬ nI L - 4 < nI t) : t + 4 ≤ L := by
  apply Classical.byContradiction
  intro q
  apply h
  by_cases c : 4 ≤ L
  · obtain ⟨n, rfl⟩ : ∃ n, L = n + 4 := ⟨L - 4, by omega⟩
    rw [nI_4, Int32.add_sub_cancel]
    exact Int32.not_le.mp (nI_ge (show n < t by omega) (by omega))
  · have h0 : ¬ nI t < 0 := nI_pos (by omega)
    have h1 : nI L - 4 < 0 := by
      rcases (show L = 0 ∨ L = 1 ∨ L = 2 ∨ L = 3 by omega) with rfl | rfl | rfl | rfl <;> decide
    exact Int32.lt_of_lt_of_le h1 (Int32.not_lt.mp h0)
theorem law_loop {p : Program} {l : Launch} {e : Env} {s : State} {m : MethodId} {below : List Frame} {meth : Method} {c : Code} {b L S : Nat} {xs : Nat → Int32} {D : va_G} {dA : Nat → ClassId} {ad : Nat → Nat} (hL : L ≤ 2048) (hS0 : S ≤ 7200000) (Z : lwZ p l s m meth c b L xs D dA ad) :
    ∀ (n t : Nat) (i : Int32) (σ : jx_S), IV2 σ σ → i = nI (4 * t) → t ≤ 513 → L < 4 * (t + n) → lwG p l e s m below meth c b (lw_Z below #[Value.ref b] s) D dA ad 23 [(0, .ref b), (1, .ref (ad 0)), (2, .ref (ad 106)), (3, .ref (ad 171)), (4, .int i)] [] σ (172 + t) (S + 6 * t) := by
  obtain ⟨⟨hx, hb, hr, hml, hown, htsl, hX, hbl, hlocks, hgv⟩, hK, had, h1, htr⟩ := id Z
  obtain ⟨hts, hA, hbA, hW0⟩ := lwZ_of Z
  intro n
  induction n with
  | zero =>
    intro t i σ h hi ht hn H locs ls hl hP hD hS
    refine lv_iload hx hb (show decode code 23 = .ok (.iload 4, 2) by decide +kernel) (lv_at hl 4 rfl) ?_
    refine lv_aload_n hx hb (show decode code 25 = .ok (.aload_n 0, 1) by decide +kernel) rfl (lv_at hl 0 rfl) ?_
    refine va_slen hx hb hX hbl hbA hS (show decode code 26 = .ok (.arraylength, 1) by decide +kernel) ?_
    refine lv_iconst (v := 4) hx hb (show decode code 27 = .ok (.iconst 4, 1) by decide +kernel) (by decide) ?_
    refine lv_isub hx hb (show decode code 28 = .ok (.isub, 1) by decide +kernel) ?_
    refine lv_icmp_gt (tgt := 784) hx hb (show decode code 29 = .ok (.if_icmp .gt 755, 3) by decide +kernel) (by decide) (fun _ => ?_) (fun q => ?_)
    · refine lv_iconst (v := 1) hx hb (show decode code 784 = .ok (.iconst 1, 1) by decide +kernel) (by decide) ?_
      refine va_forget (fun q hq => hS.2.2 q hq) ?_
      refine W.widen (k := 601024) (n := 7293034) (by omega) (by omega) ?_
      exact lw_ret hx hb hr hlocks (show decode code 785 = .ok (.ireturn, 1) by decide +kernel)
    · exfalso
      rw [hi] at q
      have := lw_lt hL (by omega) q
      omega
  | succ n ih =>
    intro t i σ h hi ht hn H locs ls hl hP hD hS
    refine lv_iload hx hb (show decode code 23 = .ok (.iload 4, 2) by decide +kernel) (lv_at hl 4 rfl) ?_
    refine lv_aload_n hx hb (show decode code 25 = .ok (.aload_n 0, 1) by decide +kernel) rfl (lv_at hl 0 rfl) ?_
    refine va_slen hx hb hX hbl hbA hS (show decode code 26 = .ok (.arraylength, 1) by decide +kernel) ?_
    refine lv_iconst (v := 4) hx hb (show decode code 27 = .ok (.iconst 4, 1) by decide +kernel) (by decide) ?_
    refine lv_isub hx hb (show decode code 28 = .ok (.isub, 1) by decide +kernel) ?_
    refine lv_icmp_gt (tgt := 784) hx hb (show decode code 29 = .ok (.if_icmp .gt 755, 3) by decide +kernel) (by decide) (fun _ => ?_) (fun q => ?_)
    · refine lv_iconst (v := 1) hx hb (show decode code 784 = .ok (.iconst 1, 1) by decide +kernel) (by decide) ?_
      refine va_forget (fun q hq => hS.2.2 q hq) ?_
      refine W.widen (k := 601024) (n := 7293034) (by omega) (by omega) ?_
      exact lw_ret hx hb hr hlocks (show decode code 785 = .ok (.ireturn, 1) by decide +kernel)
    · rw [hi] at q
      have hlt := lw_lt hL (by omega) q
      have j0 : vp_in i L := by rw [hi]; exact vp_in_nI (by omega) (by omega)
      have j1 : vp_in (i + 1) L := by rw [hi, ← nI_succ]; exact vp_in_nI (by omega) (by omega)
      have j2 : vp_in (i + 2) L := by rw [hi, show nI (4 * t) + 2 = nI (4 * t + 2) by rw [show 4 * t + 2 = 4 * t + 1 + 1 by omega, nI_succ, nI_succ, Int32.add_assoc]; rfl]; exact vp_in_nI (by omega) (by omega)
      have j3 : vp_in (i + 3) L := by rw [hi, show nI (4 * t) + 3 = nI (4 * t + 3) by rw [show 4 * t + 3 = 4 * t + 2 + 1 by omega, nI_succ, show 4 * t + 2 = 4 * t + 1 + 1 by omega, nI_succ, nI_succ, Int32.add_assoc, Int32.add_assoc]; rfl]; exact vp_in_nI (by omega) (by omega)
      have hcs : 172 + t + 1 ≤ 601024 ∧ S + 6 * t + 6 ≤ 7293034 := ⟨by omega, by omega⟩
      have k : ∀ σ2, IV2 σ2 σ2 → lwG p l e s m below meth c b (lw_Z below #[Value.ref b] s) D dA ad 778 [(0, .ref b), (1, .ref (ad 0)), (2, .ref (ad 106)), (3, .ref (ad 171)), (4, .int i)] [] σ2 (172 + t + 1) (S + 6 * t + 6) := by
        intro σ2 hI H locs ls hl hP hD hS
        refine lv_iinc (v := i + 4) (k := 4) hx hb (show decode code 778 = .ok (.iinc 4 4, 3) by decide +kernel) hl rfl rfl (by decide) rfl (fun ls hl => ?_)
        refine lv_goto (tgt := 23) hx hb (show decode code 781 = .ok (.goto (-758), 3) by decide +kernel) (by decide) ?_
        exact ih (t + 1) (i + 4) σ2 hI (by rw [hi, show 4 * (t + 1) = 4 * t + 4 by omega, nI_4]) (by omega) (by omega) H locs ls (lv_sub hl [1, 2, 3, 4, 0] rfl) hP hD hS
      refine lv_aload_n hx hb (show decode code 32 = .ok (.aload_n 0, 1) by decide +kernel) rfl (lv_at hl 0 rfl) ?_
      refine lv_iload hx hb (show decode code 33 = .ok (.iload 4, 2) by decide +kernel) (lv_at hl 4 rfl) ?_
      refine va_sld hx hb hX hbl hbA hS j0 (show decode code 35 = .ok (.iaload, 1) by decide +kernel) ?_
      refine lv_bipush (v := 15) hx hb (show decode code 36 = .ok (.bipush 15, 2) by decide +kernel) (by decide) ?_
      refine lv_iand hx hb (show decode code 38 = .ok (.iand, 1) by decide +kernel) ?_
      generalize xs i.toNatClampNeg &&& 15 = v
      have d39 : ∃ len, decode code 39 = .ok (.tableswitch 739 0 13 #[69, 169, 182, 195, 208, 221, 289, 369, 437, 450, 475, 531, 627, 683], len) := ⟨69, by decide +kernel⟩
      obtain ⟨len, d39⟩ := d39
      by_cases v0 : v = 0
      · subst v0
        refine lv_tableIn (off := 69) (tgt := 108) hx hb d39 (by decide) (by decide) (by decide) (by decide) ?_
        exact cs_feed Z ⟨j1, j2, j3⟩ hcs h k H locs ls hl hP hD hS
      by_cases v1 : v = 1
      · subst v1
        refine lv_tableIn (off := 169) (tgt := 208) hx hb d39 (by decide) (by decide) (by decide) (by decide) ?_
        exact cs_wipe Z ⟨j1, j2, j3⟩ hcs h k H locs ls hl hP hD hS
      by_cases v2 : v = 2
      · subst v2
        refine lv_tableIn (off := 182) (tgt := 221) hx hb d39 (by decide) (by decide) (by decide) (by decide) ?_
        exact cs_compile Z ⟨j1, j2, j3⟩ hcs h k H locs ls hl hP hD hS
      by_cases v3 : v = 3
      · subst v3
        refine lv_tableIn (off := 195) (tgt := 234) hx hb d39 (by decide) (by decide) (by decide) (by decide) ?_
        exact cs_place Z ⟨j1, j2, j3⟩ hcs h k H locs ls hl hP hD hS
      by_cases v4 : v = 4
      · subst v4
        refine lv_tableIn (off := 208) (tgt := 247) hx hb d39 (by decide) (by decide) (by decide) (by decide) ?_
        exact cs_functions Z ⟨j1, j2, j3⟩ hcs h k H locs ls hl hP hD hS
      by_cases v5 : v = 5
      · subst v5
        refine lv_tableIn (off := 221) (tgt := 260) hx hb d39 (by decide) (by decide) (by decide) (by decide) ?_
        exact cs_function Z ⟨j1, j2, j3⟩ hcs h k H locs ls hl hP hD hS
      by_cases v6 : v = 6
      · subst v6
        refine lv_tableIn (off := 289) (tgt := 328) hx hb d39 (by decide) (by decide) (by decide) (by decide) ?_
        exact cs_parameter Z ⟨j1, j2, j3⟩ hcs h k H locs ls hl hP hD hS
      by_cases v7 : v = 7
      · subst v7
        refine lv_tableIn (off := 369) (tgt := 408) hx hb d39 (by decide) (by decide) (by decide) (by decide) ?_
        exact cs_value Z ⟨j1, j2, j3⟩ hcs h k H locs ls hl hP hD hS
      by_cases v8 : v = 8
      · subst v8
        refine lv_tableIn (off := 437) (tgt := 476) hx hb d39 (by decide) (by decide) (by decide) (by decide) ?_
        exact cs_rounds Z ⟨j1, j2, j3⟩ hcs h k H locs ls hl hP hD hS
      by_cases v9 : v = 9
      · subst v9
        refine lv_tableIn (off := 450) (tgt := 489) hx hb d39 (by decide) (by decide) (by decide) (by decide) ?_
        exact cs_isStrict Z ⟨j1, j2, j3⟩ hcs h k H locs ls hl hP hD hS
      by_cases v10 : v = 10
      · subst v10
        refine lv_tableIn (off := 475) (tgt := 514) hx hb d39 (by decide) (by decide) (by decide) (by decide) ?_
        exact cs_argument Z ⟨j1, j2, j3⟩ hcs h k H locs ls hl hP hD hS
      by_cases v11 : v = 11
      · subst v11
        refine lv_tableIn (off := 531) (tgt := 570) hx hb d39 (by decide) (by decide) (by decide) (by decide) ?_
        exact cs_run Z ⟨j1, j2, j3⟩ hcs h k H locs ls hl hP hD hS
      by_cases v12 : v = 12
      · subst v12
        refine lv_tableIn (off := 627) (tgt := 666) hx hb d39 (by decide) (by decide) (by decide) (by decide) ?_
        exact cs_told Z ⟨j1, j2, j3⟩ hcs h k H locs ls hl hP hD hS
      by_cases v13 : v = 13
      · subst v13
        refine lv_tableIn (off := 683) (tgt := 722) hx hb d39 (by decide) (by decide) (by decide) (by decide) ?_
        exact cs_element Z ⟨j1, j2, j3⟩ hcs h k H locs ls hl hP hD hS
      refine lv_tableOut (tgt := 778) hx hb d39 ?_ (by decide) ?_
      · by_cases z0 : v.toInt < 0
        · exact Or.inl z0
        · right
          have u0 := lv_neT (a := 0) v0 rfl
          have u1 := lv_neT (a := 1) v1 rfl
          have u2 := lv_neT (a := 2) v2 rfl
          have u3 := lv_neT (a := 3) v3 rfl
          have u4 := lv_neT (a := 4) v4 rfl
          have u5 := lv_neT (a := 5) v5 rfl
          have u6 := lv_neT (a := 6) v6 rfl
          have u7 := lv_neT (a := 7) v7 rfl
          have u8 := lv_neT (a := 8) v8 rfl
          have u9 := lv_neT (a := 9) v9 rfl
          have u10 := lv_neT (a := 10) v10 rfl
          have u11 := lv_neT (a := 11) v11 rfl
          have u12 := lv_neT (a := 12) v12 rfl
          have u13 := lv_neT (a := 13) v13 rfl
          omega
      · refine W.widen (k := 172 + t + 1) (n := S + 6 * t + 6) (by omega) (by omega) ?_
        exact k σ h H locs ls hl hP hD hS
