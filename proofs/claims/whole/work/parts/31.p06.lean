def p_cMac_putOff_38 (rec : (Int32 → Int32 → jx_S → Option (Int64 × jx_S))) (x1 : Int32) (σ : jx_S) : Option (Int64 × jx_S) := (some (((v_cMac_literal x1 σ), σ)))
theorem x_cMac_putOff_38 (d : Nat) (rec : (Int32 → Int32 → jx_S → Option (Int64 × jx_S))) (Dr : Nat) (hrec : ∀ z0 z1 s r, rec z0 z1 s = some r → jE Dr 127 0 (lv_args 0 [.ref 8, .int z0, .int z1]) [] s (some (.long r.1), r.2)) (hd : Dr + 3 ≤ d) (x1 : Int32) (σ : jx_S) (t : (Int64 × jx_S)) (res : Option Value × jx_S) (h : p_cMac_putOff_38 rec x1 σ = some t) (hK : kkJ t res) : jE d 127 38 [(0, .ref 8), (1, .int x1)] [] σ res := by
  unfold p_cMac_putOff_38 at h
  refine jE_blk (bs := [(.aload_n 0, 0, 0), (.iload_n 1, 0, 0)]) (i := .invokevirtual 195) (a1 := 114) (a2 := 0) (pc1 := 40) (l1 := [(0, .ref 8), (1, .int x1)]) (st1 := [.int x1, .ref 8]) (σ1 := σ) (by decide +kernel) rfl (fun hC => ?_)
  refine jE_call (as := [.ref 8, .int x1]) (pc1 := 43) (st1 := []) hC rfl (by decide) (by omega) (xv_cMac_literal (d - 1) (by omega) x1 σ) ?_
  refine jE_blk (bs := []) (i := .lreturn) (a1 := 0) (a2 := 0) (pc1 := 43) (l1 := [(0, .ref 8), (1, .int x1)]) (st1 := [.long (v_cMac_literal x1 σ)]) (σ1 := σ) (by decide +kernel) rfl (fun hC => ?_)
  have h9 := Option.some.inj h
  subst h9
  have e9 : ((some (.long (v_cMac_literal x1 σ)), σ) : Option Value × jx_S) = res := hK
  subst e9
  exact jE_ret hC rfl
def p_cMac_putOff_91 (rec : (Int32 → Int32 → jx_S → Option (Int64 × jx_S))) (x1 : Int32) (x2 : Int32) (σ : jx_S) : Option (Int64 × jx_S) := (if ¬ (v_cTyp_isBase (jI_at 1201 (σ.1 37) x1) σ) = 0 then (if ¬ (σ.1 9 12) = (3000 : Int32) then ((p_cHea_addPutOff x1 (v_cMac_frame σ) σ).bind fun q1 => (some ((q1.1, q1.2)))) else (some (((0 : Int64), (jx_i σ 8 14 (5 : Int32)))))) else ((p_cMac_putOffFunction rec x1 x2 σ).bind fun q2 => (some ((q2.1, q2.2)))))
theorem x_cMac_putOff_91 (d : Nat) (rec : (Int32 → Int32 → jx_S → Option (Int64 × jx_S))) (Dr : Nat) (hrec : ∀ z0 z1 s r, rec z0 z1 s = some r → jE Dr 127 0 (lv_args 0 [.ref 8, .int z0, .int z1]) [] s (some (.long r.1), r.2)) (hd : Dr + 3 ≤ d) (x1 : Int32) (x2 : Int32) (σ : jx_S) (t : (Int64 × jx_S)) (res : Option Value × jx_S) (h : p_cMac_putOff_91 rec x1 x2 σ = some t) (hK : kkJ t res) : jE d 127 91 [(0, .ref 8), (1, .int x1), (2, .int x2)] [] σ res := by
  unfold p_cMac_putOff_91 at h
  refine jE_blk (bs := [(.aload_n 0, 0, 0), (.getfield 53, 8, 3), (.getfield 287, 3, 7), (.iload_n 1, 0, 0)]) (i := .invokevirtual 90) (a1 := 136) (a2 := 0) (pc1 := 99) (l1 := [(0, .ref 8), (1, .int x1), (2, .int x2)]) (st1 := [.int x1, .ref 36]) (σ1 := σ) (by decide +kernel) rfl (fun hC => ?_)
  refine jE_call (as := [.ref 36, .int x1]) (pc1 := 102) (st1 := []) hC rfl (by decide) (by omega) (xI_at (d - 1) 36 1201 x1 σ (by decide) rfl rfl) ?_
  refine jE_blk (bs := []) (i := .invokestatic 290) (a1 := 81) (a2 := 0) (pc1 := 102) (l1 := [(0, .ref 8), (1, .int x1), (2, .int x2)]) (st1 := [.int (jI_at 1201 (σ.1 37) x1)]) (σ1 := σ) (by decide +kernel) rfl (fun hC => ?_)
  refine jE_call (as := [.int (jI_at 1201 (σ.1 37) x1)]) (pc1 := 105) (st1 := []) hC rfl (by decide) (by omega) (xv_cTyp_isBase (d - 1) (by omega) (jI_at 1201 (σ.1 37) x1) σ) ?_
  refine jE_blk (bs := []) (i := .ifCond .ne (10)) (a1 := 0) (a2 := 0) (pc1 := 105) (l1 := [(0, .ref 8), (1, .int x1), (2, .int x2)]) (st1 := [.int (v_cTyp_isBase (jI_at 1201 (σ.1 37) x1) σ)]) (σ1 := σ) (by decide +kernel) rfl (fun hC => ?_)
  rcases Classical.em (¬ (v_cTyp_isBase (jI_at 1201 (σ.1 37) x1) σ) = 0) with hc | hc
  · rw [if_pos hc] at h
    refine jE_ifT 115 hC (by decide) hc ?_
    refine jE_blk (bs := [(.aload_n 0, 0, 0), (.getfield 26, 8, 5), (.getfield 126, 9, 12), (.sipush (3000), 3000, 0)]) (i := .if_icmp .ne (10)) (a1 := 0) (a2 := 0) (pc1 := 125) (l1 := [(0, .ref 8), (1, .int x1), (2, .int x2)]) (st1 := [.int (3000 : Int32), .int (σ.1 9 12)]) (σ1 := σ) (by decide +kernel) rfl (fun hC => ?_)
    rcases Classical.em (¬ (σ.1 9 12) = (3000 : Int32)) with hc | hc
    · rw [if_pos hc] at h
      refine jE_icT 135 hC (by decide) hc ?_
      refine jE_blk (bs := [(.aload_n 0, 0, 0), (.getfield 26, 8, 5), (.iload_n 1, 0, 0), (.aload_n 0, 0, 0)]) (i := .invokevirtual 175) (a1 := 112) (a2 := 0) (pc1 := 141) (l1 := [(0, .ref 8), (1, .int x1), (2, .int x2)]) (st1 := [.ref 8, .int x1, .ref 9]) (σ1 := σ) (by decide +kernel) rfl (fun hC => ?_)
      refine jE_call (as := [.ref 8]) (pc1 := 144) (st1 := [.int x1, .ref 9]) hC rfl (by decide) (by omega) (xv_cMac_frame (d - 1) (by omega) σ) ?_
      refine jE_blk (bs := []) (i := .invokevirtual 299) (a1 := 133) (a2 := 0) (pc1 := 144) (l1 := [(0, .ref 8), (1, .int x1), (2, .int x2)]) (st1 := [.int (v_cMac_frame σ), .int x1, .ref 9]) (σ1 := σ) (by decide +kernel) rfl (fun hC => ?_)
      obtain ⟨q1, hq, h⟩ := Option.bind_eq_some_iff.mp h
      refine jE_call (as := [.ref 9, .int x1, .int (v_cMac_frame σ)]) (pc1 := 147) (st1 := []) hC rfl (by decide) (by omega) (x_cHea_addPutOff (d - 1) (by omega) x1 (v_cMac_frame σ) σ q1 (some (.long q1.1), q1.2) hq rfl) ?_
      refine jE_blk (bs := []) (i := .lreturn) (a1 := 0) (a2 := 0) (pc1 := 147) (l1 := [(0, .ref 8), (1, .int x1), (2, .int x2)]) (st1 := [.long q1.1]) (σ1 := q1.2) (by decide +kernel) rfl (fun hC => ?_)
      have h9 := Option.some.inj h
      subst h9
      have e9 : ((some (.long q1.1), q1.2) : Option Value × jx_S) = res := hK
      subst e9
      exact jE_ret hC rfl
    · rw [if_neg hc] at h
      refine jE_icF 135 hC (by decide) hc ?_
      refine jE_blk (bs := [(.aload_n 0, 0, 0), (.iconst (5), 5, 0), (.putfield 76, 8, 14), (.lconst 0, 0, 0)]) (i := .lreturn) (a1 := 0) (a2 := 0) (pc1 := 134) (l1 := [(0, .ref 8), (1, .int x1), (2, .int x2)]) (st1 := [.long (0 : Int64)]) (σ1 := (jx_i σ 8 14 (5 : Int32))) (by decide +kernel) rfl (fun hC => ?_)
      have h9 := Option.some.inj h
      subst h9
      have e9 : ((some (.long (0 : Int64)), (jx_i σ 8 14 (5 : Int32))) : Option Value × jx_S) = res := hK
      subst e9
      exact jE_ret hC rfl
  · rw [if_neg hc] at h
    refine jE_ifF 115 hC (by decide) hc ?_
    refine jE_blk (bs := [(.aload_n 0, 0, 0), (.iload_n 1, 0, 0), (.iload_n 2, 0, 0)]) (i := .invokevirtual 296) (a1 := 128) (a2 := 0) (pc1 := 111) (l1 := [(0, .ref 8), (1, .int x1), (2, .int x2)]) (st1 := [.int x2, .int x1, .ref 8]) (σ1 := σ) (by decide +kernel) rfl (fun hC => ?_)
    obtain ⟨q2, hq, h⟩ := Option.bind_eq_some_iff.mp h
    refine jE_call (as := [.ref 8, .int x1, .int x2]) (pc1 := 114) (st1 := []) hC rfl (by decide) (by omega) (x_cMac_putOffFunction (d - 1) rec Dr hrec (by omega) x1 x2 σ q2 (some (.long q2.1), q2.2) hq rfl) ?_
    refine jE_blk (bs := []) (i := .lreturn) (a1 := 0) (a2 := 0) (pc1 := 114) (l1 := [(0, .ref 8), (1, .int x1), (2, .int x2)]) (st1 := [.long q2.1]) (σ1 := q2.2) (by decide +kernel) rfl (fun hC => ?_)
    have h9 := Option.some.inj h
    subst h9
    have e9 : ((some (.long q2.1), q2.2) : Option Value × jx_S) = res := hK
    subst e9
    exact jE_ret hC rfl
def p_cMac_putOff_b (rec : (Int32 → Int32 → jx_S → Option (Int64 × jx_S))) (x1 : Int32) (x2 : Int32) (σ : jx_S) : Option (Int64 × jx_S) := (if ¬ (σ.1 8 14) = 0 then (some (((0 : Int64), σ))) else (if x2 ≤ (30 : Int32) then (if (jI_at 1201 (σ.1 23) x1) = (2 : Int32) then (p_cMac_putOff_38 rec x1 σ) else (if ¬ (jI_at 1201 (σ.1 23) x1) = (13 : Int32) then (if ¬ (jI_at 1201 (σ.1 23) x1) = (28 : Int32) then (p_cMac_putOff_91 rec x1 x2 σ) else (if ¬ (jI_at 1201 (σ.1 35) x1) = 0 then (p_cMac_putOff_91 rec x1 x2 σ) else (some (((jL_at 30000 (σ.2 97) ((v_cMac_frame σ) + (jI_at 1201 (σ.1 33) x1))), σ))))) else (p_cMac_putOff_38 rec x1 σ))) else (some (((0 : Int64), σ)))))
theorem x_cMac_putOff_b (d : Nat) (rec : (Int32 → Int32 → jx_S → Option (Int64 × jx_S))) (Dr : Nat) (hrec : ∀ z0 z1 s r, rec z0 z1 s = some r → jE Dr 127 0 (lv_args 0 [.ref 8, .int z0, .int z1]) [] s (some (.long r.1), r.2)) (hd : Dr + 3 ≤ d) (x1 : Int32) (x2 : Int32) (σ : jx_S) (t : (Int64 × jx_S)) (res : Option Value × jx_S) (h : p_cMac_putOff_b rec x1 x2 σ = some t) (hK : kkJ t res) : jE d 127 0 [(0, .ref 8), (1, .int x1), (2, .int x2)] [] σ res := by
  unfold p_cMac_putOff_b at h
  refine jE_blk (bs := [(.aload_n 0, 0, 0), (.getfield 53, 8, 3), (.getfield 190, 3, 0), (.iload_n 1, 0, 0)]) (i := .invokevirtual 90) (a1 := 136) (a2 := 0) (pc1 := 8) (l1 := [(0, .ref 8), (1, .int x1), (2, .int x2)]) (st1 := [.int x1, .ref 22]) (σ1 := σ) (by decide +kernel) rfl (fun hC => ?_)
  refine jE_call (as := [.ref 22, .int x1]) (pc1 := 11) (st1 := []) hC rfl (by decide) (by omega) (xI_at (d - 1) 22 1201 x1 σ (by decide) rfl rfl) ?_
  refine jE_blk (bs := [(.istore_n 3, 4, 0), (.aload_n 0, 0, 0), (.getfield 76, 8, 14)]) (i := .ifCond .ne (9)) (a1 := 0) (a2 := 0) (pc1 := 16) (l1 := [(3, .int (jI_at 1201 (σ.1 23) x1)), (0, .ref 8), (1, .int x1), (2, .int x2)]) (st1 := [.int (σ.1 8 14)]) (σ1 := σ) (by decide +kernel) rfl (fun hC => ?_)
  rcases Classical.em (¬ (σ.1 8 14) = 0) with hc | hc
  · rw [if_pos hc] at h
    refine jE_ifT 25 hC (by decide) hc ?_
    refine jE_blk (bs := [(.lconst 0, 0, 0)]) (i := .lreturn) (a1 := 0) (a2 := 0) (pc1 := 26) (l1 := [(3, .int (jI_at 1201 (σ.1 23) x1)), (0, .ref 8), (1, .int x1), (2, .int x2)]) (st1 := [.long (0 : Int64)]) (σ1 := σ) (by decide +kernel) rfl (fun hC => ?_)
    have h9 := Option.some.inj h
    subst h9
    have e9 : ((some (.long (0 : Int64)), σ) : Option Value × jx_S) = res := hK
    subst e9
    exact jE_ret hC rfl
  · rw [if_neg hc] at h
    refine jE_ifF 25 hC (by decide) hc ?_
    refine jE_blk (bs := [(.iload_n 2, 0, 0), (.bipush (30), 30, 0)]) (i := .if_icmp .le (5)) (a1 := 0) (a2 := 0) (pc1 := 22) (l1 := [(3, .int (jI_at 1201 (σ.1 23) x1)), (0, .ref 8), (1, .int x1), (2, .int x2)]) (st1 := [.int (30 : Int32), .int x2]) (σ1 := σ) (by decide +kernel) rfl (fun hC => ?_)
    rcases Classical.em (x2 ≤ (30 : Int32)) with hc | hc
    · rw [if_pos hc] at h
      refine jE_icT 27 hC (by decide) hc ?_
      refine jE_blk (bs := [(.iload_n 3, 0, 0), (.iconst (2), 2, 0)]) (i := .if_icmp .eq (9)) (a1 := 0) (a2 := 0) (pc1 := 29) (l1 := [(3, .int (jI_at 1201 (σ.1 23) x1)), (0, .ref 8), (1, .int x1), (2, .int x2)]) (st1 := [.int (2 : Int32), .int (jI_at 1201 (σ.1 23) x1)]) (σ1 := σ) (by decide +kernel) rfl (fun hC => ?_)
      rcases Classical.em ((jI_at 1201 (σ.1 23) x1) = (2 : Int32)) with hc | hc
      · rw [if_pos hc] at h
        refine jE_icT 38 hC (by decide) hc ?_
        exact jE_loc (l := [(0, .ref 8), (1, .int x1)]) (ks := [0, 1]) rfl (by decide) ⟨rfl, rfl, trivial⟩ (x_cMac_putOff_38 d rec Dr hrec hd x1 σ _ res h hK)
      · rw [if_neg hc] at h
        refine jE_icF 38 hC (by decide) hc ?_
        refine jE_blk (bs := [(.iload_n 3, 0, 0), (.bipush (13), 13, 0)]) (i := .if_icmp .ne (9)) (a1 := 0) (a2 := 0) (pc1 := 35) (l1 := [(3, .int (jI_at 1201 (σ.1 23) x1)), (0, .ref 8), (1, .int x1), (2, .int x2)]) (st1 := [.int (13 : Int32), .int (jI_at 1201 (σ.1 23) x1)]) (σ1 := σ) (by decide +kernel) rfl (fun hC => ?_)
        rcases Classical.em (¬ (jI_at 1201 (σ.1 23) x1) = (13 : Int32)) with hc | hc
        · rw [if_pos hc] at h
          refine jE_icT 44 hC (by decide) hc ?_
          refine jE_blk (bs := [(.iload_n 3, 0, 0), (.bipush (28), 28, 0)]) (i := .if_icmp .ne (44)) (a1 := 0) (a2 := 0) (pc1 := 47) (l1 := [(3, .int (jI_at 1201 (σ.1 23) x1)), (0, .ref 8), (1, .int x1), (2, .int x2)]) (st1 := [.int (28 : Int32), .int (jI_at 1201 (σ.1 23) x1)]) (σ1 := σ) (by decide +kernel) rfl (fun hC => ?_)
          rcases Classical.em (¬ (jI_at 1201 (σ.1 23) x1) = (28 : Int32)) with hc | hc
          · rw [if_pos hc] at h
            refine jE_icT 91 hC (by decide) hc ?_
            exact jE_loc (l := [(0, .ref 8), (1, .int x1), (2, .int x2)]) (ks := [0, 1, 2]) rfl (by decide) ⟨rfl, rfl, rfl, trivial⟩ (x_cMac_putOff_91 d rec Dr hrec hd x1 x2 σ _ res h hK)
          · rw [if_neg hc] at h
            refine jE_icF 91 hC (by decide) hc ?_
            refine jE_blk (bs := [(.aload_n 0, 0, 0), (.getfield 53, 8, 3), (.getfield 198, 3, 6), (.iload_n 1, 0, 0)]) (i := .invokevirtual 90) (a1 := 136) (a2 := 0) (pc1 := 58) (l1 := [(3, .int (jI_at 1201 (σ.1 23) x1)), (0, .ref 8), (1, .int x1), (2, .int x2)]) (st1 := [.int x1, .ref 34]) (σ1 := σ) (by decide +kernel) rfl (fun hC => ?_)
            refine jE_call (as := [.ref 34, .int x1]) (pc1 := 61) (st1 := []) hC rfl (by decide) (by omega) (xI_at (d - 1) 34 1201 x1 σ (by decide) rfl rfl) ?_
            refine jE_blk (bs := []) (i := .ifCond .ne (30)) (a1 := 0) (a2 := 0) (pc1 := 61) (l1 := [(3, .int (jI_at 1201 (σ.1 23) x1)), (0, .ref 8), (1, .int x1), (2, .int x2)]) (st1 := [.int (jI_at 1201 (σ.1 35) x1)]) (σ1 := σ) (by decide +kernel) rfl (fun hC => ?_)
            rcases Classical.em (¬ (jI_at 1201 (σ.1 35) x1) = 0) with hc | hc
            · rw [if_pos hc] at h
              refine jE_ifT 91 hC (by decide) hc ?_
              exact jE_loc (l := [(0, .ref 8), (1, .int x1), (2, .int x2)]) (ks := [0, 1, 2]) rfl (by decide) ⟨rfl, rfl, rfl, trivial⟩ (x_cMac_putOff_91 d rec Dr hrec hd x1 x2 σ _ res h hK)
            · rw [if_neg hc] at h
              refine jE_ifF 91 hC (by decide) hc ?_
              refine jE_blk (bs := [(.aload_n 0, 0, 0), (.getfield 26, 8, 5), (.getfield 233, 9, 6), (.aload_n 0, 0, 0)]) (i := .invokevirtual 175) (a1 := 112) (a2 := 0) (pc1 := 72) (l1 := [(3, .int (jI_at 1201 (σ.1 23) x1)), (0, .ref 8), (1, .int x1), (2, .int x2)]) (st1 := [.ref 8, .ref 96]) (σ1 := σ) (by decide +kernel) rfl (fun hC => ?_)
              refine jE_call (as := [.ref 8]) (pc1 := 75) (st1 := [.ref 96]) hC rfl (by decide) (by omega) (xv_cMac_frame (d - 1) (by omega) σ) ?_
              refine jE_blk (bs := [(.aload_n 0, 0, 0), (.getfield 53, 8, 3), (.getfield 236, 3, 5), (.iload_n 1, 0, 0)]) (i := .invokevirtual 90) (a1 := 136) (a2 := 0) (pc1 := 83) (l1 := [(3, .int (jI_at 1201 (σ.1 23) x1)), (0, .ref 8), (1, .int x1), (2, .int x2)]) (st1 := [.int x1, .ref 32, .int (v_cMac_frame σ), .ref 96]) (σ1 := σ) (by decide +kernel) rfl (fun hC => ?_)
              refine jE_call (as := [.ref 32, .int x1]) (pc1 := 86) (st1 := [.int (v_cMac_frame σ), .ref 96]) hC rfl (by decide) (by omega) (xI_at (d - 1) 32 1201 x1 σ (by decide) rfl rfl) ?_
              refine jE_blk (bs := [(.iadd, 0, 0)]) (i := .invokevirtual 148) (a1 := 140) (a2 := 0) (pc1 := 87) (l1 := [(3, .int (jI_at 1201 (σ.1 23) x1)), (0, .ref 8), (1, .int x1), (2, .int x2)]) (st1 := [.int ((v_cMac_frame σ) + (jI_at 1201 (σ.1 33) x1)), .ref 96]) (σ1 := σ) (by decide +kernel) rfl (fun hC => ?_)
              refine jE_call (as := [.ref 96, .int ((v_cMac_frame σ) + (jI_at 1201 (σ.1 33) x1))]) (pc1 := 90) (st1 := []) hC rfl (by decide) (by omega) (xL_at (d - 1) 96 30000 ((v_cMac_frame σ) + (jI_at 1201 (σ.1 33) x1)) σ (by decide) rfl rfl) ?_
              refine jE_blk (bs := []) (i := .lreturn) (a1 := 0) (a2 := 0) (pc1 := 90) (l1 := [(3, .int (jI_at 1201 (σ.1 23) x1)), (0, .ref 8), (1, .int x1), (2, .int x2)]) (st1 := [.long (jL_at 30000 (σ.2 97) ((v_cMac_frame σ) + (jI_at 1201 (σ.1 33) x1)))]) (σ1 := σ) (by decide +kernel) rfl (fun hC => ?_)
              have h9 := Option.some.inj h
              subst h9
              have e9 : ((some (.long (jL_at 30000 (σ.2 97) ((v_cMac_frame σ) + (jI_at 1201 (σ.1 33) x1)))), σ) : Option Value × jx_S) = res := hK
              subst e9
              exact jE_ret hC rfl
        · rw [if_neg hc] at h
          refine jE_icF 44 hC (by decide) hc ?_
          exact jE_loc (l := [(0, .ref 8), (1, .int x1)]) (ks := [0, 1]) rfl (by decide) ⟨rfl, rfl, trivial⟩ (x_cMac_putOff_38 d rec Dr hrec hd x1 σ _ res h hK)
    · rw [if_neg hc] at h
      refine jE_icF 27 hC (by decide) hc ?_
      refine jE_blk (bs := [(.lconst 0, 0, 0)]) (i := .lreturn) (a1 := 0) (a2 := 0) (pc1 := 26) (l1 := [(3, .int (jI_at 1201 (σ.1 23) x1)), (0, .ref 8), (1, .int x1), (2, .int x2)]) (st1 := [.long (0 : Int64)]) (σ1 := σ) (by decide +kernel) rfl (fun hC => ?_)
      have h9 := Option.some.inj h
      subst h9
      have e9 : ((some (.long (0 : Int64)), σ) : Option Value × jx_S) = res := hK
      subst e9
      exact jE_ret hC rfl
def p_cMac_putOff : Nat → Int32 → Int32 → jx_S → Option (Int64 × jx_S)
  | 0 => fun _ _ _ => none
  | n + 1 => p_cMac_putOff_b (p_cMac_putOff n)
theorem x_cMac_putOff : ∀ (n d : Nat) (hd : 4 * n ≤ d) (x1 : Int32) (x2 : Int32) (σ : jx_S) (t : (Int64 × jx_S)) (res : Option Value × jx_S) (h : p_cMac_putOff n x1 x2 σ = some t) (hK : kkJ t res), jE d 127 0 [(0, .ref 8), (1, .int x1), (2, .int x2)] [] σ res := by
  intro n
  induction n with
  | zero => intro d hd x1 x2 σ t res h; cases h
  | succ n ih =>
    intro d hd x1 x2 σ t res h hK
    exact x_cMac_putOff_b d (p_cMac_putOff n) (4 * n) (fun z0 z1 s r hr => ih (4 * n) (Nat.le_refl _) z0 z1 s r _ hr rfl) (by omega) x1 x2 σ t res h hK
def kk_cMac_callHeld_54 (d : Nat) (t : ((Int32 × Int64 × Int32 × Int32 × Int32 × Int32 × jx_S) ⊕ jx_S)) (res : Option Value × jx_S) : Prop := match t with
  | .inl s => jE d 124 54 [(0, .ref 8), (1, .int s.1), (2, .long s.2.1), (4, .int s.2.2.1), (5, .int s.2.2.2.1), (6, .int s.2.2.2.2.1), (7, .int s.2.2.2.2.2.1)] [] s.2.2.2.2.2.2 res
  | .inr t => kkV t res
def kk_cMac_callHeld_178 (d : Nat) (t : ((Int32 × Int64 × Int32 × Int32 × Int32 × jx_S) ⊕ jx_S)) (res : Option Value × jx_S) : Prop := match t with
  | .inl s => jE d 124 178 [(0, .ref 8), (1, .int s.1), (2, .long s.2.1), (4, .int s.2.2.1), (5, .int s.2.2.2.1), (7, .int s.2.2.2.2.1)] [] s.2.2.2.2.2 res
  | .inr t => kkV t res
def p_cMac_callHeld_225 (x2 : Int64) (σ : jx_S) : Option jx_S := (if ¬ (σ.1 8 14) = 0 then (some (σ)) else ((p_cMac_enter (v_cHea_numberOf x2 (jI_put 250 σ 79 ((σ.1 8 11) - (1 : Int32)) (100 : Int32))) (jI_put 250 σ 79 ((σ.1 8 11) - (1 : Int32)) (100 : Int32))).bind fun q2 => (some (q2))))
theorem x_cMac_callHeld_225 (d : Nat) (hd : 133 ≤ d) (x2 : Int64) (σ : jx_S) (t : jx_S) (res : Option Value × jx_S) (h : p_cMac_callHeld_225 x2 σ = some t) (hK : kkV t res) : jE d 124 225 [(0, .ref 8), (2, .long x2)] [] σ res := by
  unfold p_cMac_callHeld_225 at h
  refine jE_blk (bs := [(.aload_n 0, 0, 0), (.getfield 76, 8, 14)]) (i := .ifCond .ne (26)) (a1 := 0) (a2 := 0) (pc1 := 229) (l1 := [(0, .ref 8), (2, .long x2)]) (st1 := [.int (σ.1 8 14)]) (σ1 := σ) (by decide +kernel) rfl (fun hC => ?_)
  rcases Classical.em (¬ (σ.1 8 14) = 0) with hc | hc
  · rw [if_pos hc] at h
    refine jE_ifT 255 hC (by decide) hc ?_
    refine jE_blk (bs := []) (i := .return_) (a1 := 0) (a2 := 0) (pc1 := 255) (l1 := [(0, .ref 8), (2, .long x2)]) (st1 := []) (σ1 := σ) (by decide +kernel) rfl (fun hC => ?_)
    have h9 := Option.some.inj h
    subst h9
    have e9 : ((none, σ) : Option Value × jx_S) = res := hK
    subst e9
    exact jE_ret hC rfl
  · rw [if_neg hc] at h
    refine jE_ifF 255 hC (by decide) hc ?_
    refine jE_blk (bs := [(.aload_n 0, 0, 0), (.getfield 36, 8, 8), (.aload_n 0, 0, 0), (.getfield 65, 8, 11), (.iconst (1), 1, 0), (.isub, 0, 0), (.bipush (100), 100, 0)]) (i := .invokevirtual 121) (a1 := 137) (a2 := 0) (pc1 := 244) (l1 := [(0, .ref 8), (2, .long x2)]) (st1 := [.int (100 : Int32), .int ((σ.1 8 11) - (1 : Int32)), .ref 78]) (σ1 := σ) (by decide +kernel) rfl (fun hC => ?_)
    refine jE_call (as := [.ref 78, .int ((σ.1 8 11) - (1 : Int32)), .int (100 : Int32)]) (pc1 := 247) (st1 := []) hC rfl (by decide) (by omega) (xI_put (d - 1) 78 250 ((σ.1 8 11) - (1 : Int32)) (100 : Int32) σ (by decide) rfl rfl) ?_
    refine jE_blk (bs := [(.aload_n 0, 0, 0), (.lload_n 2, 0, 0)]) (i := .invokestatic 117) (a1 := 131) (a2 := 0) (pc1 := 249) (l1 := [(0, .ref 8), (2, .long x2)]) (st1 := [.long x2, .ref 8]) (σ1 := (jI_put 250 σ 79 ((σ.1 8 11) - (1 : Int32)) (100 : Int32))) (by decide +kernel) rfl (fun hC => ?_)
    refine jE_call (as := [.long x2]) (pc1 := 252) (st1 := [.ref 8]) hC rfl (by decide) (by omega) (xv_cHea_numberOf (d - 1) (by omega) x2 (jI_put 250 σ 79 ((σ.1 8 11) - (1 : Int32)) (100 : Int32))) ?_
    refine jE_blk (bs := []) (i := .invokevirtual 102) (a1 := 126) (a2 := 0) (pc1 := 252) (l1 := [(0, .ref 8), (2, .long x2)]) (st1 := [.int (v_cHea_numberOf x2 (jI_put 250 σ 79 ((σ.1 8 11) - (1 : Int32)) (100 : Int32))), .ref 8]) (σ1 := (jI_put 250 σ 79 ((σ.1 8 11) - (1 : Int32)) (100 : Int32))) (by decide +kernel) rfl (fun hC => ?_)
    obtain ⟨q2, hq, h⟩ := Option.bind_eq_some_iff.mp h
    refine jE_call (as := [.ref 8, .int (v_cHea_numberOf x2 (jI_put 250 σ 79 ((σ.1 8 11) - (1 : Int32)) (100 : Int32)))]) (pc1 := 255) (st1 := []) hC rfl (by decide) (by omega) (x_cMac_enter (d - 1) (by omega) (v_cHea_numberOf x2 (jI_put 250 σ 79 ((σ.1 8 11) - (1 : Int32)) (100 : Int32))) (jI_put 250 σ 79 ((σ.1 8 11) - (1 : Int32)) (100 : Int32)) q2 (none, q2) hq rfl) ?_
    refine jE_blk (bs := []) (i := .return_) (a1 := 0) (a2 := 0) (pc1 := 255) (l1 := [(0, .ref 8), (2, .long x2)]) (st1 := []) (σ1 := q2) (by decide +kernel) rfl (fun hC => ?_)
    have h9 := Option.some.inj h
    subst h9
    have e9 : ((none, q2) : Option Value × jx_S) = res := hK
    subst e9
    exact jE_ret hC rfl
def p_cMac_callHeld_178_s (x1 : Int32) (x2 : Int64) (x4 : Int32) (x5 : Int32) (x7 : Int32) (σ : jx_S) : Option ((Int32 × Int64 × Int32 × Int32 × Int32 × jx_S) ⊕ jx_S) := (if x5 ≤ x7 then (Option.map Sum.inr (p_cMac_callHeld_225 x2 σ)) else (if ¬ (σ.1 8 14) = 0 then (Option.map Sum.inr (p_cMac_callHeld_225 x2 σ)) else ((p_cTre_part x1 x7 σ).bind fun q5 => ((p_cMac_putOff 33 q5.1 (0 : Int32) q5.2).bind fun q6 => (some (.inl (x1, x2, x4, x5, (x7 + 1), (jL_put 8 q6.2 83 (x4 + x7) q6.1))))))))
theorem x_cMac_callHeld_178_s (d : Nat) (hd : 133 ≤ d) (x1 : Int32) (x2 : Int64) (x4 : Int32) (x5 : Int32) (x7 : Int32) (σ : jx_S) (t : ((Int32 × Int64 × Int32 × Int32 × Int32 × jx_S) ⊕ jx_S)) (res : Option Value × jx_S) (h : p_cMac_callHeld_178_s x1 x2 x4 x5 x7 σ = some t) (hK : kk_cMac_callHeld_178 d t res) : jE d 124 178 [(0, .ref 8), (1, .int x1), (2, .long x2), (4, .int x4), (5, .int x5), (7, .int x7)] [] σ res := by
  unfold p_cMac_callHeld_178_s at h
  refine jE_blk (bs := [(.iload 7, 0, 0), (.iload 5, 0, 0)]) (i := .if_icmp .ge (43)) (a1 := 0) (a2 := 0) (pc1 := 182) (l1 := [(0, .ref 8), (1, .int x1), (2, .long x2), (4, .int x4), (5, .int x5), (7, .int x7)]) (st1 := [.int x5, .int x7]) (σ1 := σ) (by decide +kernel) rfl (fun hC => ?_)
  rcases Classical.em (x5 ≤ x7) with hc | hc
  · rw [if_pos hc] at h
    refine jE_icT 225 hC (by decide) hc ?_
    obtain ⟨t9_3, h9_3, h8_3⟩ := Option.map_eq_some_iff.mp h
    clear h
    subst h8_3
    have h := h9_3
    clear h9_3
    exact jE_loc (l := [(0, .ref 8), (2, .long x2)]) (ks := [0, 2]) rfl (by decide) ⟨rfl, rfl, trivial⟩ (x_cMac_callHeld_225 d hd x2 σ _ res h hK)
  · rw [if_neg hc] at h
    refine jE_icF 225 hC (by decide) hc ?_
    refine jE_blk (bs := [(.aload_n 0, 0, 0), (.getfield 76, 8, 14)]) (i := .ifCond .ne (36)) (a1 := 0) (a2 := 0) (pc1 := 189) (l1 := [(0, .ref 8), (1, .int x1), (2, .long x2), (4, .int x4), (5, .int x5), (7, .int x7)]) (st1 := [.int (σ.1 8 14)]) (σ1 := σ) (by decide +kernel) rfl (fun hC => ?_)
    rcases Classical.em (¬ (σ.1 8 14) = 0) with hc | hc
    · rw [if_pos hc] at h
      refine jE_ifT 225 hC (by decide) hc ?_
      obtain ⟨t9_4, h9_4, h8_4⟩ := Option.map_eq_some_iff.mp h
      clear h
      subst h8_4
      have h := h9_4
      clear h9_4
      exact jE_loc (l := [(0, .ref 8), (2, .long x2)]) (ks := [0, 2]) rfl (by decide) ⟨rfl, rfl, trivial⟩ (x_cMac_callHeld_225 d hd x2 σ _ res h hK)
    · rw [if_neg hc] at h
      refine jE_ifF 225 hC (by decide) hc ?_
      refine jE_blk (bs := [(.aload_n 0, 0, 0), (.getfield 46, 8, 10), (.iload 4, 0, 0), (.iload 7, 0, 0), (.iadd, 0, 0), (.aload_n 0, 0, 0), (.aload_n 0, 0, 0), (.getfield 53, 8, 3), (.iload_n 1, 0, 0), (.iload 7, 0, 0)]) (i := .invokevirtual 239) (a1 := 31) (a2 := 0) (pc1 := 209) (l1 := [(0, .ref 8), (1, .int x1), (2, .long x2), (4, .int x4), (5, .int x5), (7, .int x7)]) (st1 := [.int x7, .int x1, .ref 3, .ref 8, .int (x4 + x7), .ref 82]) (σ1 := σ) (by decide +kernel) rfl (fun hC => ?_)
      obtain ⟨q5, hq, h⟩ := Option.bind_eq_some_iff.mp h
      refine jE_call (as := [.ref 3, .int x1, .int x7]) (pc1 := 212) (st1 := [.ref 8, .int (x4 + x7), .ref 82]) hC rfl (by decide) (by omega) (x_cTre_part (d - 1) (by omega) x1 x7 σ q5 (some (.int q5.1), q5.2) hq rfl) ?_
      refine jE_blk (bs := [(.iconst (0), 0, 0)]) (i := .invokevirtual 245) (a1 := 127) (a2 := 0) (pc1 := 213) (l1 := [(0, .ref 8), (1, .int x1), (2, .long x2), (4, .int x4), (5, .int x5), (7, .int x7)]) (st1 := [.int (0 : Int32), .int q5.1, .ref 8, .int (x4 + x7), .ref 82]) (σ1 := q5.2) (by decide +kernel) rfl (fun hC => ?_)
      obtain ⟨q6, hq, h⟩ := Option.bind_eq_some_iff.mp h
      refine jE_call (as := [.ref 8, .int q5.1, .int (0 : Int32)]) (pc1 := 216) (st1 := [.int (x4 + x7), .ref 82]) hC rfl (by decide) (by omega) (x_cMac_putOff 33 (d - 1) (by omega) q5.1 (0 : Int32) q5.2 q6 (some (.long q6.1), q6.2) hq rfl) ?_
      refine jE_blk (bs := []) (i := .invokevirtual 98) (a1 := 141) (a2 := 0) (pc1 := 216) (l1 := [(0, .ref 8), (1, .int x1), (2, .long x2), (4, .int x4), (5, .int x5), (7, .int x7)]) (st1 := [.long q6.1, .int (x4 + x7), .ref 82]) (σ1 := q6.2) (by decide +kernel) rfl (fun hC => ?_)
      refine jE_call (as := [.ref 82, .int (x4 + x7), .long q6.1]) (pc1 := 219) (st1 := []) hC rfl (by decide) (by omega) (xL_put (d - 1) 82 8 (x4 + x7) q6.1 q6.2 (by decide) rfl rfl) ?_
      refine jE_blk (bs := [(.iinc 7 (1), 10, 2), (.goto (-44), 0, 0)]) (i := .iload 7) (a1 := 0) (a2 := 0) (pc1 := 178) (l1 := [(7, .int (x7 + 1)), (0, .ref 8), (1, .int x1), (2, .long x2), (4, .int x4), (5, .int x5)]) (st1 := []) (σ1 := (jL_put 8 q6.2 83 (x4 + x7) q6.1)) (by decide +kernel) rfl (fun hC => ?_)
      have h9 := Option.some.inj h
      subst h9
      exact jE_loc (l := [(0, .ref 8), (1, .int x1), (2, .long x2), (4, .int x4), (5, .int x5), (7, .int (x7 + 1))]) (ks := [0, 1, 2, 4, 5, 7]) rfl (by decide) ⟨rfl, rfl, rfl, rfl, rfl, rfl, trivial⟩ hK
def p_cMac_callHeld_178 (x1 : Int32) (x2 : Int64) (x4 : Int32) (x5 : Int32) (x7 : Int32) (σ : jx_S) : Option jx_S := jx_loop 100000000 (fun s => p_cMac_callHeld_178_s s.1 s.2.1 s.2.2.1 s.2.2.2.1 s.2.2.2.2.1 (s.2.2.2.2.2)) (x1, x2, x4, x5, x7, σ)
theorem x_cMac_callHeld_178 (d : Nat) (hd : 133 ≤ d) (x1 : Int32) (x2 : Int64) (x4 : Int32) (x5 : Int32) (x7 : Int32) (σ : jx_S) (t : jx_S) (res : Option Value × jx_S) (h : p_cMac_callHeld_178 x1 x2 x4 x5 x7 σ = some t) (hK : kkV t res) : jE d 124 178 [(0, .ref 8), (1, .int x1), (2, .long x2), (4, .int x4), (5, .int x5), (7, .int x7)] [] σ res := by
  refine jx_loop_ok (E := fun s t => ∀ res, kkV t res → jE d 124 178 [(0, .ref 8), (1, .int s.1), (2, .long s.2.1), (4, .int s.2.2.1), (5, .int s.2.2.2.1), (7, .int s.2.2.2.2.1)] [] s.2.2.2.2.2 res) (fun s t hs => ?_) _ _ _ h res hK
  cases t with
  | inl s1 => exact fun b hb res hk => x_cMac_callHeld_178_s d hd (s.1) (s.2.1) (s.2.2.1) (s.2.2.2.1) (s.2.2.2.2.1) (s.2.2.2.2.2) _ res hs (hb res hk)
  | inr b => exact fun res hk => x_cMac_callHeld_178_s d hd (s.1) (s.2.1) (s.2.2.1) (s.2.2.2.1) (s.2.2.2.2.1) (s.2.2.2.2.2) _ res hs hk
def p_cMac_callHeld_175 (x1 : Int32) (x2 : Int64) (x4 : Int32) (x5 : Int32) (σ : jx_S) : Option jx_S := (p_cMac_callHeld_178 x1 x2 x4 x5 (0 : Int32) σ)
theorem x_cMac_callHeld_175 (d : Nat) (hd : 133 ≤ d) (x1 : Int32) (x2 : Int64) (x4 : Int32) (x5 : Int32) (σ : jx_S) (t : jx_S) (res : Option Value × jx_S) (h : p_cMac_callHeld_175 x1 x2 x4 x5 σ = some t) (hK : kkV t res) : jE d 124 175 [(0, .ref 8), (1, .int x1), (2, .long x2), (4, .int x4), (5, .int x5)] [] σ res := by
  unfold p_cMac_callHeld_175 at h
  refine jE_blk (bs := [(.iconst (0), 0, 0), (.istore 7, 10, 0)]) (i := .iload 7) (a1 := 0) (a2 := 0) (pc1 := 178) (l1 := [(7, .int (0 : Int32)), (0, .ref 8), (1, .int x1), (2, .long x2), (4, .int x4), (5, .int x5)]) (st1 := []) (σ1 := σ) (by decide +kernel) rfl (fun hC => ?_)
  exact jE_loc (l := [(0, .ref 8), (1, .int x1), (2, .long x2), (4, .int x4), (5, .int x5), (7, .int (0 : Int32))]) (ks := [0, 1, 2, 4, 5, 7]) rfl (by decide) ⟨rfl, rfl, rfl, rfl, rfl, rfl, trivial⟩ (x_cMac_callHeld_178 d hd x1 x2 x4 x5 (0 : Int32) σ _ res h hK)
def kk_cMac_callHeld_96 (d : Nat) (t : ((Int32 × Int32 × Int32 × Int32 × Int32 × Int32 × Int32 × jx_S) ⊕ ((Int32 × Int64 × Int32 × Int32 × Int32 × Int32 × jx_S) ⊕ jx_S))) (res : Option Value × jx_S) : Prop := match t with
  | .inl s => jE d 124 96 [(0, .ref 8), (1, .int s.1), (4, .int s.2.1), (5, .int s.2.2.1), (6, .int s.2.2.2.1), (7, .int s.2.2.2.2.1), (8, .int s.2.2.2.2.2.1), (9, .int s.2.2.2.2.2.2.1)] [] s.2.2.2.2.2.2.2 res
  | .inr t => kk_cMac_callHeld_54 d t res
def p_cMac_callHeld_96_s (x1 : Int32) (x4 : Int32) (x5 : Int32) (x6 : Int32) (x7 : Int32) (x8 : Int32) (x9 : Int32) (σ : jx_S) : Option ((Int32 × Int32 × Int32 × Int32 × Int32 × Int32 × Int32 × jx_S) ⊕ ((Int32 × Int64 × Int32 × Int32 × Int32 × Int32 × jx_S) ⊕ jx_S)) := (if (jI_at 6000 (σ.1 105) x8) ≤ x9 then (Option.map Sum.inr (some (.inl (x1, (jL_at 6000 (σ.2 101) x8), x4, x5, x6, (x7 + 1), σ)))) else (some (.inl (x1, x4, x5, x6, x7, x8, (x9 + 1), (jL_put 8 σ 83 (x6 + x9) (jL_at 6000 (σ.2 99) ((jI_at 6000 (σ.1 103) x8) + x9)))))))
theorem x_cMac_callHeld_96_s (d : Nat) (hd : 133 ≤ d) (x1 : Int32) (x4 : Int32) (x5 : Int32) (x6 : Int32) (x7 : Int32) (x8 : Int32) (x9 : Int32) (σ : jx_S) (t : ((Int32 × Int32 × Int32 × Int32 × Int32 × Int32 × Int32 × jx_S) ⊕ ((Int32 × Int64 × Int32 × Int32 × Int32 × Int32 × jx_S) ⊕ jx_S))) (res : Option Value × jx_S) (h : p_cMac_callHeld_96_s x1 x4 x5 x6 x7 x8 x9 σ = some t) (hK : kk_cMac_callHeld_96 d t res) : jE d 124 96 [(0, .ref 8), (1, .int x1), (4, .int x4), (5, .int x5), (6, .int x6), (7, .int x7), (8, .int x8), (9, .int x9)] [] σ res := by
  unfold p_cMac_callHeld_96_s at h
  refine jE_blk (bs := [(.iload 9, 0, 0), (.aload_n 0, 0, 0), (.getfield 26, 8, 5), (.getfield 267, 9, 10), (.iload 8, 0, 0)]) (i := .invokevirtual 90) (a1 := 136) (a2 := 0) (pc1 := 107) (l1 := [(0, .ref 8), (1, .int x1), (4, .int x4), (5, .int x5), (6, .int x6), (7, .int x7), (8, .int x8), (9, .int x9)]) (st1 := [.int x8, .ref 104, .int x9]) (σ1 := σ) (by decide +kernel) rfl (fun hC => ?_)
  refine jE_call (as := [.ref 104, .int x8]) (pc1 := 110) (st1 := [.int x9]) hC rfl (by decide) (by omega) (xI_at (d - 1) 104 6000 x8 σ (by decide) rfl rfl) ?_
  refine jE_blk (bs := []) (i := .if_icmp .ge (46)) (a1 := 0) (a2 := 0) (pc1 := 110) (l1 := [(0, .ref 8), (1, .int x1), (4, .int x4), (5, .int x5), (6, .int x6), (7, .int x7), (8, .int x8), (9, .int x9)]) (st1 := [.int (jI_at 6000 (σ.1 105) x8), .int x9]) (σ1 := σ) (by decide +kernel) rfl (fun hC => ?_)
  rcases Classical.em ((jI_at 6000 (σ.1 105) x8) ≤ x9) with hc | hc
  · rw [if_pos hc] at h
    refine jE_icT 156 hC (by decide) hc ?_
    obtain ⟨t9_9, h9_9, h8_9⟩ := Option.map_eq_some_iff.mp h
    clear h
    subst h8_9
    have h := h9_9
    clear h9_9
    refine jE_blk (bs := [(.aload_n 0, 0, 0), (.getfield 26, 8, 5), (.getfield 276, 9, 8), (.iload 8, 0, 0)]) (i := .invokevirtual 148) (a1 := 140) (a2 := 0) (pc1 := 165) (l1 := [(0, .ref 8), (1, .int x1), (4, .int x4), (5, .int x5), (6, .int x6), (7, .int x7), (8, .int x8), (9, .int x9)]) (st1 := [.int x8, .ref 100]) (σ1 := σ) (by decide +kernel) rfl (fun hC => ?_)
    refine jE_call (as := [.ref 100, .int x8]) (pc1 := 168) (st1 := []) hC rfl (by decide) (by omega) (xL_at (d - 1) 100 6000 x8 σ (by decide) rfl rfl) ?_
    refine jE_blk (bs := [(.lstore_n 2, 10, 0), (.iinc 7 (1), 10, 2), (.goto (-118), 0, 0)]) (i := .iload 7) (a1 := 0) (a2 := 0) (pc1 := 54) (l1 := [(7, .int (x7 + 1)), (2, .long (jL_at 6000 (σ.2 101) x8)), (0, .ref 8), (1, .int x1), (4, .int x4), (5, .int x5), (6, .int x6), (8, .int x8), (9, .int x9)]) (st1 := []) (σ1 := σ) (by decide +kernel) rfl (fun hC => ?_)
    have h9 := Option.some.inj h
    subst h9
    exact jE_loc (l := [(0, .ref 8), (1, .int x1), (2, .long (jL_at 6000 (σ.2 101) x8)), (4, .int x4), (5, .int x5), (6, .int x6), (7, .int (x7 + 1))]) (ks := [0, 1, 2, 4, 5, 6, 7]) rfl (by decide) ⟨rfl, rfl, rfl, rfl, rfl, rfl, rfl, trivial⟩ hK
  · rw [if_neg hc] at h
    refine jE_icF 156 hC (by decide) hc ?_
    refine jE_blk (bs := [(.aload_n 0, 0, 0), (.getfield 46, 8, 10), (.iload 6, 0, 0), (.iload 9, 0, 0), (.iadd, 0, 0), (.aload_n 0, 0, 0), (.getfield 26, 8, 5), (.getfield 270, 9, 7), (.aload_n 0, 0, 0), (.getfield 26, 8, 5), (.getfield 273, 9, 9), (.iload 8, 0, 0)]) (i := .invokevirtual 90) (a1 := 136) (a2 := 0) (pc1 := 138) (l1 := [(0, .ref 8), (1, .int x1), (4, .int x4), (5, .int x5), (6, .int x6), (7, .int x7), (8, .int x8), (9, .int x9)]) (st1 := [.int x8, .ref 102, .ref 98, .int (x6 + x9), .ref 82]) (σ1 := σ) (by decide +kernel) rfl (fun hC => ?_)
    refine jE_call (as := [.ref 102, .int x8]) (pc1 := 141) (st1 := [.ref 98, .int (x6 + x9), .ref 82]) hC rfl (by decide) (by omega) (xI_at (d - 1) 102 6000 x8 σ (by decide) rfl rfl) ?_
    refine jE_blk (bs := [(.iload 9, 0, 0), (.iadd, 0, 0)]) (i := .invokevirtual 148) (a1 := 140) (a2 := 0) (pc1 := 144) (l1 := [(0, .ref 8), (1, .int x1), (4, .int x4), (5, .int x5), (6, .int x6), (7, .int x7), (8, .int x8), (9, .int x9)]) (st1 := [.int ((jI_at 6000 (σ.1 103) x8) + x9), .ref 98, .int (x6 + x9), .ref 82]) (σ1 := σ) (by decide +kernel) rfl (fun hC => ?_)
    refine jE_call (as := [.ref 98, .int ((jI_at 6000 (σ.1 103) x8) + x9)]) (pc1 := 147) (st1 := [.int (x6 + x9), .ref 82]) hC rfl (by decide) (by omega) (xL_at (d - 1) 98 6000 ((jI_at 6000 (σ.1 103) x8) + x9) σ (by decide) rfl rfl) ?_
    refine jE_blk (bs := []) (i := .invokevirtual 98) (a1 := 141) (a2 := 0) (pc1 := 147) (l1 := [(0, .ref 8), (1, .int x1), (4, .int x4), (5, .int x5), (6, .int x6), (7, .int x7), (8, .int x8), (9, .int x9)]) (st1 := [.long (jL_at 6000 (σ.2 99) ((jI_at 6000 (σ.1 103) x8) + x9)), .int (x6 + x9), .ref 82]) (σ1 := σ) (by decide +kernel) rfl (fun hC => ?_)
    refine jE_call (as := [.ref 82, .int (x6 + x9), .long (jL_at 6000 (σ.2 99) ((jI_at 6000 (σ.1 103) x8) + x9))]) (pc1 := 150) (st1 := []) hC rfl (by decide) (by omega) (xL_put (d - 1) 82 8 (x6 + x9) (jL_at 6000 (σ.2 99) ((jI_at 6000 (σ.1 103) x8) + x9)) σ (by decide) rfl rfl) ?_
    refine jE_blk (bs := [(.iinc 9 (1), 10, 2), (.goto (-57), 0, 0)]) (i := .iload 9) (a1 := 0) (a2 := 0) (pc1 := 96) (l1 := [(9, .int (x9 + 1)), (0, .ref 8), (1, .int x1), (4, .int x4), (5, .int x5), (6, .int x6), (7, .int x7), (8, .int x8)]) (st1 := []) (σ1 := (jL_put 8 σ 83 (x6 + x9) (jL_at 6000 (σ.2 99) ((jI_at 6000 (σ.1 103) x8) + x9)))) (by decide +kernel) rfl (fun hC => ?_)
    have h9 := Option.some.inj h
    subst h9
    exact jE_loc (l := [(0, .ref 8), (1, .int x1), (4, .int x4), (5, .int x5), (6, .int x6), (7, .int x7), (8, .int x8), (9, .int (x9 + 1))]) (ks := [0, 1, 4, 5, 6, 7, 8, 9]) rfl (by decide) ⟨rfl, rfl, rfl, rfl, rfl, rfl, rfl, rfl, trivial⟩ hK
def p_cMac_callHeld_96 (x1 : Int32) (x4 : Int32) (x5 : Int32) (x6 : Int32) (x7 : Int32) (x8 : Int32) (x9 : Int32) (σ : jx_S) : Option ((Int32 × Int64 × Int32 × Int32 × Int32 × Int32 × jx_S) ⊕ jx_S) := jx_loop 100000000 (fun s => p_cMac_callHeld_96_s s.1 s.2.1 s.2.2.1 s.2.2.2.1 s.2.2.2.2.1 s.2.2.2.2.2.1 s.2.2.2.2.2.2.1 (s.2.2.2.2.2.2.2)) (x1, x4, x5, x6, x7, x8, x9, σ)
theorem x_cMac_callHeld_96 (d : Nat) (hd : 133 ≤ d) (x1 : Int32) (x4 : Int32) (x5 : Int32) (x6 : Int32) (x7 : Int32) (x8 : Int32) (x9 : Int32) (σ : jx_S) (t : ((Int32 × Int64 × Int32 × Int32 × Int32 × Int32 × jx_S) ⊕ jx_S)) (res : Option Value × jx_S) (h : p_cMac_callHeld_96 x1 x4 x5 x6 x7 x8 x9 σ = some t) (hK : kk_cMac_callHeld_54 d t res) : jE d 124 96 [(0, .ref 8), (1, .int x1), (4, .int x4), (5, .int x5), (6, .int x6), (7, .int x7), (8, .int x8), (9, .int x9)] [] σ res := by
  refine jx_loop_ok (E := fun s t => ∀ res, kk_cMac_callHeld_54 d t res → jE d 124 96 [(0, .ref 8), (1, .int s.1), (4, .int s.2.1), (5, .int s.2.2.1), (6, .int s.2.2.2.1), (7, .int s.2.2.2.2.1), (8, .int s.2.2.2.2.2.1), (9, .int s.2.2.2.2.2.2.1)] [] s.2.2.2.2.2.2.2 res) (fun s t hs => ?_) _ _ _ h res hK
  cases t with
  | inl s1 => exact fun b hb res hk => x_cMac_callHeld_96_s d hd (s.1) (s.2.1) (s.2.2.1) (s.2.2.2.1) (s.2.2.2.2.1) (s.2.2.2.2.2.1) (s.2.2.2.2.2.2.1) (s.2.2.2.2.2.2.2) _ res hs (hb res hk)
  | inr b => exact fun res hk => x_cMac_callHeld_96_s d hd (s.1) (s.2.1) (s.2.2.1) (s.2.2.2.1) (s.2.2.2.2.1) (s.2.2.2.2.2.1) (s.2.2.2.2.2.2.1) (s.2.2.2.2.2.2.2) _ res hs hk
def p_cMac_callHeld_54_s (x1 : Int32) (x2 : Int64) (x4 : Int32) (x5 : Int32) (x6 : Int32) (x7 : Int32) (σ : jx_S) : Option ((Int32 × Int64 × Int32 × Int32 × Int32 × Int32 × jx_S) ⊕ jx_S) := (if (8 : Int32) ≤ x7 then (Option.map Sum.inr (p_cMac_callHeld_175 x1 x2 x4 x5 σ)) else (if ¬ (v_cHea_tagOf x2 σ) = (6 : Int32) then (Option.map Sum.inr (p_cMac_callHeld_175 x1 x2 x4 x5 σ)) else (p_cMac_callHeld_96 x1 x4 x5 (x6 - (jI_at 6000 (σ.1 105) (v_cHea_numberOf x2 σ))) x7 (v_cHea_numberOf x2 σ) (0 : Int32) σ)))
theorem x_cMac_callHeld_54_s (d : Nat) (hd : 133 ≤ d) (x1 : Int32) (x2 : Int64) (x4 : Int32) (x5 : Int32) (x6 : Int32) (x7 : Int32) (σ : jx_S) (t : ((Int32 × Int64 × Int32 × Int32 × Int32 × Int32 × jx_S) ⊕ jx_S)) (res : Option Value × jx_S) (h : p_cMac_callHeld_54_s x1 x2 x4 x5 x6 x7 σ = some t) (hK : kk_cMac_callHeld_54 d t res) : jE d 124 54 [(0, .ref 8), (1, .int x1), (2, .long x2), (4, .int x4), (5, .int x5), (6, .int x6), (7, .int x7)] [] σ res := by
  unfold p_cMac_callHeld_54_s at h
  refine jE_blk (bs := [(.iload 7, 0, 0), (.bipush (8), 8, 0)]) (i := .if_icmp .ge (117)) (a1 := 0) (a2 := 0) (pc1 := 58) (l1 := [(0, .ref 8), (1, .int x1), (2, .long x2), (4, .int x4), (5, .int x5), (6, .int x6), (7, .int x7)]) (st1 := [.int (8 : Int32), .int x7]) (σ1 := σ) (by decide +kernel) rfl (fun hC => ?_)
  rcases Classical.em ((8 : Int32) ≤ x7) with hc | hc
  · rw [if_pos hc] at h
    refine jE_icT 175 hC (by decide) hc ?_
    obtain ⟨t9_7, h9_7, h8_7⟩ := Option.map_eq_some_iff.mp h
    clear h
    subst h8_7
    have h := h9_7
    clear h9_7
    exact jE_loc (l := [(0, .ref 8), (1, .int x1), (2, .long x2), (4, .int x4), (5, .int x5)]) (ks := [0, 1, 2, 4, 5]) rfl (by decide) ⟨rfl, rfl, rfl, rfl, rfl, trivial⟩ (x_cMac_callHeld_175 d hd x1 x2 x4 x5 σ _ res h hK)
  · rw [if_neg hc] at h
    refine jE_icF 175 hC (by decide) hc ?_
    refine jE_blk (bs := [(.lload_n 2, 0, 0)]) (i := .invokestatic 154) (a1 := 130) (a2 := 0) (pc1 := 62) (l1 := [(0, .ref 8), (1, .int x1), (2, .long x2), (4, .int x4), (5, .int x5), (6, .int x6), (7, .int x7)]) (st1 := [.long x2]) (σ1 := σ) (by decide +kernel) rfl (fun hC => ?_)
    refine jE_call (as := [.long x2]) (pc1 := 65) (st1 := []) hC rfl (by decide) (by omega) (xv_cHea_tagOf (d - 1) (by omega) x2 σ) ?_
    refine jE_blk (bs := [(.bipush (6), 6, 0)]) (i := .if_icmp .ne (108)) (a1 := 0) (a2 := 0) (pc1 := 67) (l1 := [(0, .ref 8), (1, .int x1), (2, .long x2), (4, .int x4), (5, .int x5), (6, .int x6), (7, .int x7)]) (st1 := [.int (6 : Int32), .int (v_cHea_tagOf x2 σ)]) (σ1 := σ) (by decide +kernel) rfl (fun hC => ?_)
    rcases Classical.em (¬ (v_cHea_tagOf x2 σ) = (6 : Int32)) with hc | hc
    · rw [if_pos hc] at h
      refine jE_icT 175 hC (by decide) hc ?_
      obtain ⟨t9_8, h9_8, h8_8⟩ := Option.map_eq_some_iff.mp h
      clear h
      subst h8_8
      have h := h9_8
      clear h9_8
      exact jE_loc (l := [(0, .ref 8), (1, .int x1), (2, .long x2), (4, .int x4), (5, .int x5)]) (ks := [0, 1, 2, 4, 5]) rfl (by decide) ⟨rfl, rfl, rfl, rfl, rfl, trivial⟩ (x_cMac_callHeld_175 d hd x1 x2 x4 x5 σ _ res h hK)
    · rw [if_neg hc] at h
      refine jE_icF 175 hC (by decide) hc ?_
      refine jE_blk (bs := [(.lload_n 2, 0, 0)]) (i := .invokestatic 117) (a1 := 131) (a2 := 0) (pc1 := 71) (l1 := [(0, .ref 8), (1, .int x1), (2, .long x2), (4, .int x4), (5, .int x5), (6, .int x6), (7, .int x7)]) (st1 := [.long x2]) (σ1 := σ) (by decide +kernel) rfl (fun hC => ?_)
      refine jE_call (as := [.long x2]) (pc1 := 74) (st1 := []) hC rfl (by decide) (by omega) (xv_cHea_numberOf (d - 1) (by omega) x2 σ) ?_
      refine jE_blk (bs := [(.istore 8, 10, 0), (.iload 6, 0, 0), (.aload_n 0, 0, 0), (.getfield 26, 8, 5), (.getfield 267, 9, 10), (.iload 8, 0, 0)]) (i := .invokevirtual 90) (a1 := 136) (a2 := 0) (pc1 := 87) (l1 := [(8, .int (v_cHea_numberOf x2 σ)), (0, .ref 8), (1, .int x1), (2, .long x2), (4, .int x4), (5, .int x5), (6, .int x6), (7, .int x7)]) (st1 := [.int (v_cHea_numberOf x2 σ), .ref 104, .int x6]) (σ1 := σ) (by decide +kernel) rfl (fun hC => ?_)
      refine jE_call (as := [.ref 104, .int (v_cHea_numberOf x2 σ)]) (pc1 := 90) (st1 := [.int x6]) hC rfl (by decide) (by omega) (xI_at (d - 1) 104 6000 (v_cHea_numberOf x2 σ) σ (by decide) rfl rfl) ?_
      refine jE_blk (bs := [(.isub, 0, 0), (.istore 6, 10, 0), (.iconst (0), 0, 0), (.istore 9, 10, 0)]) (i := .iload 9) (a1 := 0) (a2 := 0) (pc1 := 96) (l1 := [(9, .int (0 : Int32)), (6, .int (x6 - (jI_at 6000 (σ.1 105) (v_cHea_numberOf x2 σ)))), (8, .int (v_cHea_numberOf x2 σ)), (0, .ref 8), (1, .int x1), (2, .long x2), (4, .int x4), (5, .int x5), (7, .int x7)]) (st1 := []) (σ1 := σ) (by decide +kernel) rfl (fun hC => ?_)
      exact jE_loc (l := [(0, .ref 8), (1, .int x1), (4, .int x4), (5, .int x5), (6, .int (x6 - (jI_at 6000 (σ.1 105) (v_cHea_numberOf x2 σ)))), (7, .int x7), (8, .int (v_cHea_numberOf x2 σ)), (9, .int (0 : Int32))]) (ks := [0, 1, 4, 5, 6, 7, 8, 9]) rfl (by decide) ⟨rfl, rfl, rfl, rfl, rfl, rfl, rfl, rfl, trivial⟩ (x_cMac_callHeld_96 d hd x1 x4 x5 (x6 - (jI_at 6000 (σ.1 105) (v_cHea_numberOf x2 σ))) x7 (v_cHea_numberOf x2 σ) (0 : Int32) σ _ res h hK)
def p_cMac_callHeld_54 (x1 : Int32) (x2 : Int64) (x4 : Int32) (x5 : Int32) (x6 : Int32) (x7 : Int32) (σ : jx_S) : Option jx_S := jx_loop 100000000 (fun s => p_cMac_callHeld_54_s s.1 s.2.1 s.2.2.1 s.2.2.2.1 s.2.2.2.2.1 s.2.2.2.2.2.1 (s.2.2.2.2.2.2)) (x1, x2, x4, x5, x6, x7, σ)
theorem x_cMac_callHeld_54 (d : Nat) (hd : 133 ≤ d) (x1 : Int32) (x2 : Int64) (x4 : Int32) (x5 : Int32) (x6 : Int32) (x7 : Int32) (σ : jx_S) (t : jx_S) (res : Option Value × jx_S) (h : p_cMac_callHeld_54 x1 x2 x4 x5 x6 x7 σ = some t) (hK : kkV t res) : jE d 124 54 [(0, .ref 8), (1, .int x1), (2, .long x2), (4, .int x4), (5, .int x5), (6, .int x6), (7, .int x7)] [] σ res := by
  refine jx_loop_ok (E := fun s t => ∀ res, kkV t res → jE d 124 54 [(0, .ref 8), (1, .int s.1), (2, .long s.2.1), (4, .int s.2.2.1), (5, .int s.2.2.2.1), (6, .int s.2.2.2.2.1), (7, .int s.2.2.2.2.2.1)] [] s.2.2.2.2.2.2 res) (fun s t hs => ?_) _ _ _ h res hK
  cases t with
  | inl s1 => exact fun b hb res hk => x_cMac_callHeld_54_s d hd (s.1) (s.2.1) (s.2.2.1) (s.2.2.2.1) (s.2.2.2.2.1) (s.2.2.2.2.2.1) (s.2.2.2.2.2.2) _ res hs (hb res hk)
  | inr b => exact fun res hk => x_cMac_callHeld_54_s d hd (s.1) (s.2.1) (s.2.2.1) (s.2.2.2.1) (s.2.2.2.2.1) (s.2.2.2.2.2.1) (s.2.2.2.2.2.2) _ res hs hk
def p_cMac_callHeld (x1 : Int32) (σ : jx_S) : Option jx_S := ((p_cMac_sizeGot (jL_at 30000 (σ.2 97) ((v_cMac_frame σ) + (jI_at 1201 (σ.1 33) x1))) σ).bind fun q1 => (p_cMac_callHeld_54 x1 (jL_at 30000 (σ.2 97) ((v_cMac_frame σ) + (jI_at 1201 (σ.1 33) x1))) q1.1 (jI_at 1201 (q1.2.1 35) x1) q1.1 (0 : Int32) q1.2))
theorem x_cMac_callHeld (d : Nat) (hd : 133 ≤ d) (x1 : Int32) (σ : jx_S) (t : jx_S) (res : Option Value × jx_S) (h : p_cMac_callHeld x1 σ = some t) (hK : kkV t res) : jE d 124 0 [(0, .ref 8), (1, .int x1)] [] σ res := by
  unfold p_cMac_callHeld at h
  refine jE_blk (bs := [(.aload_n 0, 0, 0), (.getfield 26, 8, 5), (.getfield 233, 9, 6), (.aload_n 0, 0, 0)]) (i := .invokevirtual 175) (a1 := 112) (a2 := 0) (pc1 := 8) (l1 := [(0, .ref 8), (1, .int x1)]) (st1 := [.ref 8, .ref 96]) (σ1 := σ) (by decide +kernel) rfl (fun hC => ?_)
  refine jE_call (as := [.ref 8]) (pc1 := 11) (st1 := [.ref 96]) hC rfl (by decide) (by omega) (xv_cMac_frame (d - 1) (by omega) σ) ?_
  refine jE_blk (bs := [(.aload_n 0, 0, 0), (.getfield 53, 8, 3), (.getfield 236, 3, 5), (.iload_n 1, 0, 0)]) (i := .invokevirtual 90) (a1 := 136) (a2 := 0) (pc1 := 19) (l1 := [(0, .ref 8), (1, .int x1)]) (st1 := [.int x1, .ref 32, .int (v_cMac_frame σ), .ref 96]) (σ1 := σ) (by decide +kernel) rfl (fun hC => ?_)
  refine jE_call (as := [.ref 32, .int x1]) (pc1 := 22) (st1 := [.int (v_cMac_frame σ), .ref 96]) hC rfl (by decide) (by omega) (xI_at (d - 1) 32 1201 x1 σ (by decide) rfl rfl) ?_
  refine jE_blk (bs := [(.iadd, 0, 0)]) (i := .invokevirtual 148) (a1 := 140) (a2 := 0) (pc1 := 23) (l1 := [(0, .ref 8), (1, .int x1)]) (st1 := [.int ((v_cMac_frame σ) + (jI_at 1201 (σ.1 33) x1)), .ref 96]) (σ1 := σ) (by decide +kernel) rfl (fun hC => ?_)
  refine jE_call (as := [.ref 96, .int ((v_cMac_frame σ) + (jI_at 1201 (σ.1 33) x1))]) (pc1 := 26) (st1 := []) hC rfl (by decide) (by omega) (xL_at (d - 1) 96 30000 ((v_cMac_frame σ) + (jI_at 1201 (σ.1 33) x1)) σ (by decide) rfl rfl) ?_
  refine jE_blk (bs := [(.lstore_n 2, 10, 0), (.aload_n 0, 0, 0), (.lload_n 2, 0, 0)]) (i := .invokevirtual 264) (a1 := 125) (a2 := 0) (pc1 := 29) (l1 := [(2, .long (jL_at 30000 (σ.2 97) ((v_cMac_frame σ) + (jI_at 1201 (σ.1 33) x1)))), (0, .ref 8), (1, .int x1)]) (st1 := [.long (jL_at 30000 (σ.2 97) ((v_cMac_frame σ) + (jI_at 1201 (σ.1 33) x1))), .ref 8]) (σ1 := σ) (by decide +kernel) rfl (fun hC => ?_)
  obtain ⟨q1, hq, h⟩ := Option.bind_eq_some_iff.mp h
  refine jE_call (as := [.ref 8, .long (jL_at 30000 (σ.2 97) ((v_cMac_frame σ) + (jI_at 1201 (σ.1 33) x1)))]) (pc1 := 32) (st1 := []) hC rfl (by decide) (by omega) (x_cMac_sizeGot (d - 1) (by omega) (jL_at 30000 (σ.2 97) ((v_cMac_frame σ) + (jI_at 1201 (σ.1 33) x1))) σ q1 (some (.int q1.1), q1.2) hq rfl) ?_
  refine jE_blk (bs := [(.istore 4, 10, 0), (.aload_n 0, 0, 0), (.getfield 53, 8, 3), (.getfield 198, 3, 6), (.iload_n 1, 0, 0)]) (i := .invokevirtual 90) (a1 := 136) (a2 := 0) (pc1 := 42) (l1 := [(4, .int q1.1), (2, .long (jL_at 30000 (σ.2 97) ((v_cMac_frame σ) + (jI_at 1201 (σ.1 33) x1)))), (0, .ref 8), (1, .int x1)]) (st1 := [.int x1, .ref 34]) (σ1 := q1.2) (by decide +kernel) rfl (fun hC => ?_)
  refine jE_call (as := [.ref 34, .int x1]) (pc1 := 45) (st1 := []) hC rfl (by decide) (by omega) (xI_at (d - 1) 34 1201 x1 q1.2 (by decide) rfl rfl) ?_
  refine jE_blk (bs := [(.istore 5, 10, 0), (.iload 4, 0, 0), (.istore 6, 10, 0), (.iconst (0), 0, 0), (.istore 7, 10, 0)]) (i := .iload 7) (a1 := 0) (a2 := 0) (pc1 := 54) (l1 := [(7, .int (0 : Int32)), (6, .int q1.1), (5, .int (jI_at 1201 (q1.2.1 35) x1)), (4, .int q1.1), (2, .long (jL_at 30000 (σ.2 97) ((v_cMac_frame σ) + (jI_at 1201 (σ.1 33) x1)))), (0, .ref 8), (1, .int x1)]) (st1 := []) (σ1 := q1.2) (by decide +kernel) rfl (fun hC => ?_)
  exact jE_loc (l := [(0, .ref 8), (1, .int x1), (2, .long (jL_at 30000 (σ.2 97) ((v_cMac_frame σ) + (jI_at 1201 (σ.1 33) x1)))), (4, .int q1.1), (5, .int (jI_at 1201 (q1.2.1 35) x1)), (6, .int q1.1), (7, .int (0 : Int32))]) (ks := [0, 1, 2, 4, 5, 6, 7]) rfl (by decide) ⟨rfl, rfl, rfl, rfl, rfl, rfl, rfl, trivial⟩ (x_cMac_callHeld_54 d hd x1 (jL_at 30000 (σ.2 97) ((v_cMac_frame σ) + (jI_at 1201 (σ.1 33) x1))) q1.1 (jI_at 1201 (q1.2.1 35) x1) q1.1 (0 : Int32) q1.2 _ res h hK)
def p_cMac_beginPutOff (x1 : Int32) (σ : jx_S) : Option jx_S := ((p_cMac_begin (jI_at 3000 (σ.1 89) x1) (jI_at 3000 (σ.1 91) x1) (jI_put 3000 σ 93 x1 (1 : Int32))).bind fun q1 => (some (q1)))
theorem x_cMac_beginPutOff (d : Nat) (hd : 2 ≤ d) (x1 : Int32) (σ : jx_S) (t : jx_S) (res : Option Value × jx_S) (h : p_cMac_beginPutOff x1 σ = some t) (hK : kkV t res) : jE d 110 0 [(0, .ref 8), (1, .int x1)] [] σ res := by
  unfold p_cMac_beginPutOff at h
  refine jE_blk (bs := [(.aload_n 0, 0, 0), (.getfield 26, 8, 5), (.getfield 160, 9, 4), (.iload_n 1, 0, 0), (.iconst (1), 1, 0)]) (i := .invokevirtual 121) (a1 := 137) (a2 := 0) (pc1 := 9) (l1 := [(0, .ref 8), (1, .int x1)]) (st1 := [.int (1 : Int32), .int x1, .ref 92]) (σ1 := σ) (by decide +kernel) rfl (fun hC => ?_)
  refine jE_call (as := [.ref 92, .int x1, .int (1 : Int32)]) (pc1 := 12) (st1 := []) hC rfl (by decide) (by omega) (xI_put (d - 1) 92 3000 x1 (1 : Int32) σ (by decide) rfl rfl) ?_
  refine jE_blk (bs := [(.aload_n 0, 0, 0), (.aload_n 0, 0, 0), (.getfield 26, 8, 5), (.getfield 182, 9, 2), (.iload_n 1, 0, 0)]) (i := .invokevirtual 90) (a1 := 136) (a2 := 0) (pc1 := 21) (l1 := [(0, .ref 8), (1, .int x1)]) (st1 := [.int x1, .ref 88, .ref 8]) (σ1 := (jI_put 3000 σ 93 x1 (1 : Int32))) (by decide +kernel) rfl (fun hC => ?_)
  refine jE_call (as := [.ref 88, .int x1]) (pc1 := 24) (st1 := [.ref 8]) hC rfl (by decide) (by omega) (xI_at (d - 1) 88 3000 x1 (jI_put 3000 σ 93 x1 (1 : Int32)) (by decide) rfl rfl) ?_
  refine jE_blk (bs := [(.aload_n 0, 0, 0), (.getfield 26, 8, 5), (.getfield 185, 9, 3), (.iload_n 1, 0, 0)]) (i := .invokevirtual 90) (a1 := 136) (a2 := 0) (pc1 := 32) (l1 := [(0, .ref 8), (1, .int x1)]) (st1 := [.int x1, .ref 90, .int (jI_at 3000 (σ.1 89) x1), .ref 8]) (σ1 := (jI_put 3000 σ 93 x1 (1 : Int32))) (by decide +kernel) rfl (fun hC => ?_)
  refine jE_call (as := [.ref 90, .int x1]) (pc1 := 35) (st1 := [.int (jI_at 3000 (σ.1 89) x1), .ref 8]) hC rfl (by decide) (by omega) (xI_at (d - 1) 90 3000 x1 (jI_put 3000 σ 93 x1 (1 : Int32)) (by decide) rfl rfl) ?_
  refine jE_blk (bs := []) (i := .invokevirtual 179) (a1 := 108) (a2 := 0) (pc1 := 35) (l1 := [(0, .ref 8), (1, .int x1)]) (st1 := [.int (jI_at 3000 (σ.1 91) x1), .int (jI_at 3000 (σ.1 89) x1), .ref 8]) (σ1 := (jI_put 3000 σ 93 x1 (1 : Int32))) (by decide +kernel) rfl (fun hC => ?_)
  obtain ⟨q1, hq, h⟩ := Option.bind_eq_some_iff.mp h
  refine jE_call (as := [.ref 8, .int (jI_at 3000 (σ.1 89) x1), .int (jI_at 3000 (σ.1 91) x1)]) (pc1 := 38) (st1 := []) hC rfl (by decide) (by omega) (x_cMac_begin (d - 1) (by omega) (jI_at 3000 (σ.1 89) x1) (jI_at 3000 (σ.1 91) x1) (jI_put 3000 σ 93 x1 (1 : Int32)) q1 (none, q1) hq rfl) ?_
  refine jE_blk (bs := []) (i := .return_) (a1 := 0) (a2 := 0) (pc1 := 38) (l1 := [(0, .ref 8), (1, .int x1)]) (st1 := []) (σ1 := q1) (by decide +kernel) rfl (fun hC => ?_)
  have h9 := Option.some.inj h
  subst h9
  have e9 : ((none, q1) : Option Value × jx_S) = res := hK
  subst e9
  exact jE_ret hC rfl
def p_cHea_settle (x1 : Int32) (x2 : Int64) (σ : jx_S) : Option jx_S := (some ((jx_i (jI_put 3000 (jL_put 3000 σ 95 x1 x2) 93 x1 (2 : Int32)) 9 13 ((σ.1 9 13) + (1 : Int32)))))
theorem x_cHea_settle (d : Nat) (hd : 1 ≤ d) (x1 : Int32) (x2 : Int64) (σ : jx_S) (t : jx_S) (res : Option Value × jx_S) (h : p_cHea_settle x1 x2 σ = some t) (hK : kkV t res) : jE d 135 0 [(0, .ref 9), (1, .int x1), (2, .long x2)] [] σ res := by
  unfold p_cHea_settle at h
  refine jE_blk (bs := [(.aload_n 0, 0, 0), (.getfield 34, 9, 5), (.iload_n 1, 0, 0), (.lload_n 2, 0, 0)]) (i := .invokevirtual 81) (a1 := 141) (a2 := 0) (pc1 := 6) (l1 := [(0, .ref 9), (1, .int x1), (2, .long x2)]) (st1 := [.long x2, .int x1, .ref 94]) (σ1 := σ) (by decide +kernel) rfl (fun hC => ?_)
  refine jE_call (as := [.ref 94, .int x1, .long x2]) (pc1 := 9) (st1 := []) hC rfl (by decide) (by omega) (xL_put (d - 1) 94 3000 x1 x2 σ (by decide) rfl rfl) ?_
  refine jE_blk (bs := [(.aload_n 0, 0, 0), (.getfield 31, 9, 4), (.iload_n 1, 0, 0), (.iconst (2), 2, 0)]) (i := .invokevirtual 73) (a1 := 137) (a2 := 0) (pc1 := 15) (l1 := [(0, .ref 9), (1, .int x1), (2, .long x2)]) (st1 := [.int (2 : Int32), .int x1, .ref 92]) (σ1 := (jL_put 3000 σ 95 x1 x2)) (by decide +kernel) rfl (fun hC => ?_)
  refine jE_call (as := [.ref 92, .int x1, .int (2 : Int32)]) (pc1 := 18) (st1 := []) hC rfl (by decide) (by omega) (xI_put (d - 1) 92 3000 x1 (2 : Int32) (jL_put 3000 σ 95 x1 x2) (by decide) rfl rfl) ?_
  refine jE_blk (bs := [(.aload_n 0, 0, 0), (.dup, 0, 0), (.getfield 61, 9, 13), (.iconst (1), 1, 0), (.iadd, 0, 0), (.putfield 61, 9, 13)]) (i := .return_) (a1 := 0) (a2 := 0) (pc1 := 28) (l1 := [(0, .ref 9), (1, .int x1), (2, .long x2)]) (st1 := []) (σ1 := (jx_i (jI_put 3000 (jL_put 3000 σ 95 x1 x2) 93 x1 (2 : Int32)) 9 13 ((σ.1 9 13) + (1 : Int32)))) (by decide +kernel) rfl (fun hC => ?_)
  have h9 := Option.some.inj h
  subst h9
  have e9 : ((none, (jx_i (jI_put 3000 (jL_put 3000 σ 95 x1 x2) 93 x1 (2 : Int32)) 9 13 ((σ.1 9 13) + (1 : Int32)))) : Option Value × jx_S) = res := hK
  subst e9
  exact jE_ret hC rfl
def p_cMac_workLocal (x1 : Int32) (x2 : Int32) (σ : jx_S) : Option jx_S := (if ¬ x2 = (1 : Int32) then (if (v_cHea_tagOf (jL_at 30000 (σ.2 97) ((v_cMac_frame σ) + (jI_at 1201 (σ.1 33) x1))) σ) = (4 : Int32) then (if ¬ (jI_at 3000 (σ.1 93) (v_cHea_numberOf (jL_at 30000 (σ.2 97) ((v_cMac_frame σ) + (jI_at 1201 (σ.1 33) x1))) σ)) = (2 : Int32) then (if ¬ (jI_at 3000 (σ.1 93) (v_cHea_numberOf (jL_at 30000 (σ.2 97) ((v_cMac_frame σ) + (jI_at 1201 (σ.1 33) x1))) σ)) = (1 : Int32) then ((p_cMac_beginPutOff (v_cHea_numberOf (jL_at 30000 (σ.2 97) ((v_cMac_frame σ) + (jI_at 1201 (σ.1 33) x1))) σ) (jI_put 250 σ 79 ((σ.1 8 11) - (1 : Int32)) (1 : Int32))).bind fun q1 => (some (q1))) else (some ((jx_i σ 8 14 (2 : Int32))))) else ((p_cMac_finish (jL_at 3000 (σ.2 95) (v_cHea_numberOf (jL_at 30000 (σ.2 97) ((v_cMac_frame σ) + (jI_at 1201 (σ.1 33) x1))) σ)) σ).bind fun q2 => (some (q2)))) else ((p_cMac_finish (jL_at 30000 (σ.2 97) ((v_cMac_frame σ) + (jI_at 1201 (σ.1 33) x1))) σ).bind fun q3 => (some (q3)))) else ((p_cHea_settle (v_cHea_numberOf (jL_at 30000 (σ.2 97) ((v_cMac_frame σ) + (jI_at 1201 (σ.1 33) x1))) σ) (σ.2 8 15) σ).bind fun q4 => ((p_cMac_finish (q4.2 8 15) q4).bind fun q5 => (some (q5)))))
theorem x_cMac_workLocal (d : Nat) (hd : 3 ≤ d) (x1 : Int32) (x2 : Int32) (σ : jx_S) (t : jx_S) (res : Option Value × jx_S) (h : p_cMac_workLocal x1 x2 σ = some t) (hK : kkV t res) : jE d 115 0 [(0, .ref 8), (1, .int x1), (2, .int x2)] [] σ res := by
  unfold p_cMac_workLocal at h
  refine jE_blk (bs := [(.aload_n 0, 0, 0), (.getfield 26, 8, 5), (.getfield 233, 9, 6), (.aload_n 0, 0, 0)]) (i := .invokevirtual 175) (a1 := 112) (a2 := 0) (pc1 := 8) (l1 := [(0, .ref 8), (1, .int x1), (2, .int x2)]) (st1 := [.ref 8, .ref 96]) (σ1 := σ) (by decide +kernel) rfl (fun hC => ?_)
  refine jE_call (as := [.ref 8]) (pc1 := 11) (st1 := [.ref 96]) hC rfl (by decide) (by omega) (xv_cMac_frame (d - 1) (by omega) σ) ?_
  refine jE_blk (bs := [(.aload_n 0, 0, 0), (.getfield 53, 8, 3), (.getfield 236, 3, 5), (.iload_n 1, 0, 0)]) (i := .invokevirtual 90) (a1 := 136) (a2 := 0) (pc1 := 19) (l1 := [(0, .ref 8), (1, .int x1), (2, .int x2)]) (st1 := [.int x1, .ref 32, .int (v_cMac_frame σ), .ref 96]) (σ1 := σ) (by decide +kernel) rfl (fun hC => ?_)
  refine jE_call (as := [.ref 32, .int x1]) (pc1 := 22) (st1 := [.int (v_cMac_frame σ), .ref 96]) hC rfl (by decide) (by omega) (xI_at (d - 1) 32 1201 x1 σ (by decide) rfl rfl) ?_
  refine jE_blk (bs := [(.iadd, 0, 0)]) (i := .invokevirtual 148) (a1 := 140) (a2 := 0) (pc1 := 23) (l1 := [(0, .ref 8), (1, .int x1), (2, .int x2)]) (st1 := [.int ((v_cMac_frame σ) + (jI_at 1201 (σ.1 33) x1)), .ref 96]) (σ1 := σ) (by decide +kernel) rfl (fun hC => ?_)
  refine jE_call (as := [.ref 96, .int ((v_cMac_frame σ) + (jI_at 1201 (σ.1 33) x1))]) (pc1 := 26) (st1 := []) hC rfl (by decide) (by omega) (xL_at (d - 1) 96 30000 ((v_cMac_frame σ) + (jI_at 1201 (σ.1 33) x1)) σ (by decide) rfl rfl) ?_
  refine jE_blk (bs := [(.lstore_n 3, 6, 0), (.lload_n 3, 0, 0)]) (i := .invokestatic 117) (a1 := 131) (a2 := 0) (pc1 := 28) (l1 := [(3, .long (jL_at 30000 (σ.2 97) ((v_cMac_frame σ) + (jI_at 1201 (σ.1 33) x1)))), (0, .ref 8), (1, .int x1), (2, .int x2)]) (st1 := [.long (jL_at 30000 (σ.2 97) ((v_cMac_frame σ) + (jI_at 1201 (σ.1 33) x1)))]) (σ1 := σ) (by decide +kernel) rfl (fun hC => ?_)
  refine jE_call (as := [.long (jL_at 30000 (σ.2 97) ((v_cMac_frame σ) + (jI_at 1201 (σ.1 33) x1)))]) (pc1 := 31) (st1 := []) hC rfl (by decide) (by omega) (xv_cHea_numberOf (d - 1) (by omega) (jL_at 30000 (σ.2 97) ((v_cMac_frame σ) + (jI_at 1201 (σ.1 33) x1))) σ) ?_
  refine jE_blk (bs := [(.istore 5, 6, 0), (.iload_n 2, 0, 0), (.iconst (1), 1, 0)]) (i := .if_icmp .ne (27)) (a1 := 0) (a2 := 0) (pc1 := 35) (l1 := [(5, .int (v_cHea_numberOf (jL_at 30000 (σ.2 97) ((v_cMac_frame σ) + (jI_at 1201 (σ.1 33) x1))) σ)), (3, .long (jL_at 30000 (σ.2 97) ((v_cMac_frame σ) + (jI_at 1201 (σ.1 33) x1)))), (0, .ref 8), (1, .int x1), (2, .int x2)]) (st1 := [.int (1 : Int32), .int x2]) (σ1 := σ) (by decide +kernel) rfl (fun hC => ?_)
  rcases Classical.em (¬ x2 = (1 : Int32)) with hc | hc
  · rw [if_pos hc] at h
    refine jE_icT 62 hC (by decide) hc ?_
    refine jE_blk (bs := [(.lload_n 3, 0, 0)]) (i := .invokestatic 154) (a1 := 130) (a2 := 0) (pc1 := 63) (l1 := [(5, .int (v_cHea_numberOf (jL_at 30000 (σ.2 97) ((v_cMac_frame σ) + (jI_at 1201 (σ.1 33) x1))) σ)), (3, .long (jL_at 30000 (σ.2 97) ((v_cMac_frame σ) + (jI_at 1201 (σ.1 33) x1)))), (0, .ref 8), (1, .int x1), (2, .int x2)]) (st1 := [.long (jL_at 30000 (σ.2 97) ((v_cMac_frame σ) + (jI_at 1201 (σ.1 33) x1)))]) (σ1 := σ) (by decide +kernel) rfl (fun hC => ?_)
    refine jE_call (as := [.long (jL_at 30000 (σ.2 97) ((v_cMac_frame σ) + (jI_at 1201 (σ.1 33) x1)))]) (pc1 := 66) (st1 := []) hC rfl (by decide) (by omega) (xv_cHea_tagOf (d - 1) (by omega) (jL_at 30000 (σ.2 97) ((v_cMac_frame σ) + (jI_at 1201 (σ.1 33) x1))) σ) ?_
    refine jE_blk (bs := [(.iconst (4), 4, 0)]) (i := .if_icmp .eq (11)) (a1 := 0) (a2 := 0) (pc1 := 67) (l1 := [(5, .int (v_cHea_numberOf (jL_at 30000 (σ.2 97) ((v_cMac_frame σ) + (jI_at 1201 (σ.1 33) x1))) σ)), (3, .long (jL_at 30000 (σ.2 97) ((v_cMac_frame σ) + (jI_at 1201 (σ.1 33) x1)))), (0, .ref 8), (1, .int x1), (2, .int x2)]) (st1 := [.int (4 : Int32), .int (v_cHea_tagOf (jL_at 30000 (σ.2 97) ((v_cMac_frame σ) + (jI_at 1201 (σ.1 33) x1))) σ)]) (σ1 := σ) (by decide +kernel) rfl (fun hC => ?_)
    rcases Classical.em ((v_cHea_tagOf (jL_at 30000 (σ.2 97) ((v_cMac_frame σ) + (jI_at 1201 (σ.1 33) x1))) σ) = (4 : Int32)) with hc | hc
    · rw [if_pos hc] at h
      refine jE_icT 78 hC (by decide) hc ?_
      refine jE_blk (bs := [(.aload_n 0, 0, 0), (.getfield 26, 8, 5), (.getfield 160, 9, 4), (.iload 5, 0, 0)]) (i := .invokevirtual 90) (a1 := 136) (a2 := 0) (pc1 := 87) (l1 := [(5, .int (v_cHea_numberOf (jL_at 30000 (σ.2 97) ((v_cMac_frame σ) + (jI_at 1201 (σ.1 33) x1))) σ)), (3, .long (jL_at 30000 (σ.2 97) ((v_cMac_frame σ) + (jI_at 1201 (σ.1 33) x1)))), (0, .ref 8), (1, .int x1), (2, .int x2)]) (st1 := [.int (v_cHea_numberOf (jL_at 30000 (σ.2 97) ((v_cMac_frame σ) + (jI_at 1201 (σ.1 33) x1))) σ), .ref 92]) (σ1 := σ) (by decide +kernel) rfl (fun hC => ?_)
      refine jE_call (as := [.ref 92, .int (v_cHea_numberOf (jL_at 30000 (σ.2 97) ((v_cMac_frame σ) + (jI_at 1201 (σ.1 33) x1))) σ)]) (pc1 := 90) (st1 := []) hC rfl (by decide) (by omega) (xI_at (d - 1) 92 3000 (v_cHea_numberOf (jL_at 30000 (σ.2 97) ((v_cMac_frame σ) + (jI_at 1201 (σ.1 33) x1))) σ) σ (by decide) rfl rfl) ?_
      refine jE_blk (bs := [(.iconst (2), 2, 0)]) (i := .if_icmp .ne (22)) (a1 := 0) (a2 := 0) (pc1 := 91) (l1 := [(5, .int (v_cHea_numberOf (jL_at 30000 (σ.2 97) ((v_cMac_frame σ) + (jI_at 1201 (σ.1 33) x1))) σ)), (3, .long (jL_at 30000 (σ.2 97) ((v_cMac_frame σ) + (jI_at 1201 (σ.1 33) x1)))), (0, .ref 8), (1, .int x1), (2, .int x2)]) (st1 := [.int (2 : Int32), .int (jI_at 3000 (σ.1 93) (v_cHea_numberOf (jL_at 30000 (σ.2 97) ((v_cMac_frame σ) + (jI_at 1201 (σ.1 33) x1))) σ))]) (σ1 := σ) (by decide +kernel) rfl (fun hC => ?_)
      rcases Classical.em (¬ (jI_at 3000 (σ.1 93) (v_cHea_numberOf (jL_at 30000 (σ.2 97) ((v_cMac_frame σ) + (jI_at 1201 (σ.1 33) x1))) σ)) = (2 : Int32)) with hc | hc
      · rw [if_pos hc] at h
        refine jE_icT 113 hC (by decide) hc ?_
        refine jE_blk (bs := [(.aload_n 0, 0, 0), (.getfield 26, 8, 5), (.getfield 160, 9, 4), (.iload 5, 0, 0)]) (i := .invokevirtual 90) (a1 := 136) (a2 := 0) (pc1 := 122) (l1 := [(5, .int (v_cHea_numberOf (jL_at 30000 (σ.2 97) ((v_cMac_frame σ) + (jI_at 1201 (σ.1 33) x1))) σ)), (3, .long (jL_at 30000 (σ.2 97) ((v_cMac_frame σ) + (jI_at 1201 (σ.1 33) x1)))), (0, .ref 8), (1, .int x1), (2, .int x2)]) (st1 := [.int (v_cHea_numberOf (jL_at 30000 (σ.2 97) ((v_cMac_frame σ) + (jI_at 1201 (σ.1 33) x1))) σ), .ref 92]) (σ1 := σ) (by decide +kernel) rfl (fun hC => ?_)
        refine jE_call (as := [.ref 92, .int (v_cHea_numberOf (jL_at 30000 (σ.2 97) ((v_cMac_frame σ) + (jI_at 1201 (σ.1 33) x1))) σ)]) (pc1 := 125) (st1 := []) hC rfl (by decide) (by omega) (xI_at (d - 1) 92 3000 (v_cHea_numberOf (jL_at 30000 (σ.2 97) ((v_cMac_frame σ) + (jI_at 1201 (σ.1 33) x1))) σ) σ (by decide) rfl rfl) ?_
        refine jE_blk (bs := [(.iconst (1), 1, 0)]) (i := .if_icmp .ne (11)) (a1 := 0) (a2 := 0) (pc1 := 126) (l1 := [(5, .int (v_cHea_numberOf (jL_at 30000 (σ.2 97) ((v_cMac_frame σ) + (jI_at 1201 (σ.1 33) x1))) σ)), (3, .long (jL_at 30000 (σ.2 97) ((v_cMac_frame σ) + (jI_at 1201 (σ.1 33) x1)))), (0, .ref 8), (1, .int x1), (2, .int x2)]) (st1 := [.int (1 : Int32), .int (jI_at 3000 (σ.1 93) (v_cHea_numberOf (jL_at 30000 (σ.2 97) ((v_cMac_frame σ) + (jI_at 1201 (σ.1 33) x1))) σ))]) (σ1 := σ) (by decide +kernel) rfl (fun hC => ?_)
        rcases Classical.em (¬ (jI_at 3000 (σ.1 93) (v_cHea_numberOf (jL_at 30000 (σ.2 97) ((v_cMac_frame σ) + (jI_at 1201 (σ.1 33) x1))) σ)) = (1 : Int32)) with hc | hc
        · rw [if_pos hc] at h
          refine jE_icT 137 hC (by decide) hc ?_
          refine jE_blk (bs := [(.aload_n 0, 0, 0), (.getfield 36, 8, 8), (.aload_n 0, 0, 0), (.getfield 65, 8, 11), (.iconst (1), 1, 0), (.isub, 0, 0), (.iconst (1), 1, 0)]) (i := .invokevirtual 121) (a1 := 137) (a2 := 0) (pc1 := 148) (l1 := [(5, .int (v_cHea_numberOf (jL_at 30000 (σ.2 97) ((v_cMac_frame σ) + (jI_at 1201 (σ.1 33) x1))) σ)), (3, .long (jL_at 30000 (σ.2 97) ((v_cMac_frame σ) + (jI_at 1201 (σ.1 33) x1)))), (0, .ref 8), (1, .int x1), (2, .int x2)]) (st1 := [.int (1 : Int32), .int ((σ.1 8 11) - (1 : Int32)), .ref 78]) (σ1 := σ) (by decide +kernel) rfl (fun hC => ?_)
          refine jE_call (as := [.ref 78, .int ((σ.1 8 11) - (1 : Int32)), .int (1 : Int32)]) (pc1 := 151) (st1 := []) hC rfl (by decide) (by omega) (xI_put (d - 1) 78 250 ((σ.1 8 11) - (1 : Int32)) (1 : Int32) σ (by decide) rfl rfl) ?_
          refine jE_blk (bs := [(.aload_n 0, 0, 0), (.iload 5, 0, 0)]) (i := .invokevirtual 166) (a1 := 110) (a2 := 0) (pc1 := 154) (l1 := [(5, .int (v_cHea_numberOf (jL_at 30000 (σ.2 97) ((v_cMac_frame σ) + (jI_at 1201 (σ.1 33) x1))) σ)), (3, .long (jL_at 30000 (σ.2 97) ((v_cMac_frame σ) + (jI_at 1201 (σ.1 33) x1)))), (0, .ref 8), (1, .int x1), (2, .int x2)]) (st1 := [.int (v_cHea_numberOf (jL_at 30000 (σ.2 97) ((v_cMac_frame σ) + (jI_at 1201 (σ.1 33) x1))) σ), .ref 8]) (σ1 := (jI_put 250 σ 79 ((σ.1 8 11) - (1 : Int32)) (1 : Int32))) (by decide +kernel) rfl (fun hC => ?_)
          obtain ⟨q1, hq, h⟩ := Option.bind_eq_some_iff.mp h
          refine jE_call (as := [.ref 8, .int (v_cHea_numberOf (jL_at 30000 (σ.2 97) ((v_cMac_frame σ) + (jI_at 1201 (σ.1 33) x1))) σ)]) (pc1 := 157) (st1 := []) hC rfl (by decide) (by omega) (x_cMac_beginPutOff (d - 1) (by omega) (v_cHea_numberOf (jL_at 30000 (σ.2 97) ((v_cMac_frame σ) + (jI_at 1201 (σ.1 33) x1))) σ) (jI_put 250 σ 79 ((σ.1 8 11) - (1 : Int32)) (1 : Int32)) q1 (none, q1) hq rfl) ?_
          refine jE_blk (bs := []) (i := .return_) (a1 := 0) (a2 := 0) (pc1 := 157) (l1 := [(5, .int (v_cHea_numberOf (jL_at 30000 (σ.2 97) ((v_cMac_frame σ) + (jI_at 1201 (σ.1 33) x1))) σ)), (3, .long (jL_at 30000 (σ.2 97) ((v_cMac_frame σ) + (jI_at 1201 (σ.1 33) x1)))), (0, .ref 8), (1, .int x1), (2, .int x2)]) (st1 := []) (σ1 := q1) (by decide +kernel) rfl (fun hC => ?_)
          have h9 := Option.some.inj h
          subst h9
          have e9 : ((none, q1) : Option Value × jx_S) = res := hK
          subst e9
          exact jE_ret hC rfl
        · rw [if_neg hc] at h
          refine jE_icF 137 hC (by decide) hc ?_
          refine jE_blk (bs := [(.aload_n 0, 0, 0), (.iconst (2), 2, 0), (.putfield 76, 8, 14), (.goto (23), 0, 0)]) (i := .return_) (a1 := 0) (a2 := 0) (pc1 := 157) (l1 := [(5, .int (v_cHea_numberOf (jL_at 30000 (σ.2 97) ((v_cMac_frame σ) + (jI_at 1201 (σ.1 33) x1))) σ)), (3, .long (jL_at 30000 (σ.2 97) ((v_cMac_frame σ) + (jI_at 1201 (σ.1 33) x1)))), (0, .ref 8), (1, .int x1), (2, .int x2)]) (st1 := []) (σ1 := (jx_i σ 8 14 (2 : Int32))) (by decide +kernel) rfl (fun hC => ?_)
          have h9 := Option.some.inj h
          subst h9
          have e9 : ((none, (jx_i σ 8 14 (2 : Int32))) : Option Value × jx_S) = res := hK
          subst e9
          exact jE_ret hC rfl
      · rw [if_neg hc] at h
        refine jE_icF 113 hC (by decide) hc ?_
        refine jE_blk (bs := [(.aload_n 0, 0, 0), (.aload_n 0, 0, 0), (.getfield 26, 8, 5), (.getfield 163, 9, 5), (.iload 5, 0, 0)]) (i := .invokevirtual 148) (a1 := 140) (a2 := 0) (pc1 := 104) (l1 := [(5, .int (v_cHea_numberOf (jL_at 30000 (σ.2 97) ((v_cMac_frame σ) + (jI_at 1201 (σ.1 33) x1))) σ)), (3, .long (jL_at 30000 (σ.2 97) ((v_cMac_frame σ) + (jI_at 1201 (σ.1 33) x1)))), (0, .ref 8), (1, .int x1), (2, .int x2)]) (st1 := [.int (v_cHea_numberOf (jL_at 30000 (σ.2 97) ((v_cMac_frame σ) + (jI_at 1201 (σ.1 33) x1))) σ), .ref 94, .ref 8]) (σ1 := σ) (by decide +kernel) rfl (fun hC => ?_)
        refine jE_call (as := [.ref 94, .int (v_cHea_numberOf (jL_at 30000 (σ.2 97) ((v_cMac_frame σ) + (jI_at 1201 (σ.1 33) x1))) σ)]) (pc1 := 107) (st1 := [.ref 8]) hC rfl (by decide) (by omega) (xL_at (d - 1) 94 3000 (v_cHea_numberOf (jL_at 30000 (σ.2 97) ((v_cMac_frame σ) + (jI_at 1201 (σ.1 33) x1))) σ) σ (by decide) rfl rfl) ?_
        refine jE_blk (bs := []) (i := .invokevirtual 187) (a1 := 111) (a2 := 0) (pc1 := 107) (l1 := [(5, .int (v_cHea_numberOf (jL_at 30000 (σ.2 97) ((v_cMac_frame σ) + (jI_at 1201 (σ.1 33) x1))) σ)), (3, .long (jL_at 30000 (σ.2 97) ((v_cMac_frame σ) + (jI_at 1201 (σ.1 33) x1)))), (0, .ref 8), (1, .int x1), (2, .int x2)]) (st1 := [.long (jL_at 3000 (σ.2 95) (v_cHea_numberOf (jL_at 30000 (σ.2 97) ((v_cMac_frame σ) + (jI_at 1201 (σ.1 33) x1))) σ)), .ref 8]) (σ1 := σ) (by decide +kernel) rfl (fun hC => ?_)
        obtain ⟨q2, hq, h⟩ := Option.bind_eq_some_iff.mp h
        refine jE_call (as := [.ref 8, .long (jL_at 3000 (σ.2 95) (v_cHea_numberOf (jL_at 30000 (σ.2 97) ((v_cMac_frame σ) + (jI_at 1201 (σ.1 33) x1))) σ))]) (pc1 := 110) (st1 := []) hC rfl (by decide) (by omega) (x_cMac_finish (d - 1) (by omega) (jL_at 3000 (σ.2 95) (v_cHea_numberOf (jL_at 30000 (σ.2 97) ((v_cMac_frame σ) + (jI_at 1201 (σ.1 33) x1))) σ)) σ q2 (none, q2) hq rfl) ?_
        refine jE_blk (bs := [(.goto (47), 0, 0)]) (i := .return_) (a1 := 0) (a2 := 0) (pc1 := 157) (l1 := [(5, .int (v_cHea_numberOf (jL_at 30000 (σ.2 97) ((v_cMac_frame σ) + (jI_at 1201 (σ.1 33) x1))) σ)), (3, .long (jL_at 30000 (σ.2 97) ((v_cMac_frame σ) + (jI_at 1201 (σ.1 33) x1)))), (0, .ref 8), (1, .int x1), (2, .int x2)]) (st1 := []) (σ1 := q2) (by decide +kernel) rfl (fun hC => ?_)
        have h9 := Option.some.inj h
        subst h9
        have e9 : ((none, q2) : Option Value × jx_S) = res := hK
        subst e9
        exact jE_ret hC rfl
    · rw [if_neg hc] at h
      refine jE_icF 78 hC (by decide) hc ?_
      refine jE_blk (bs := [(.aload_n 0, 0, 0), (.lload_n 3, 0, 0)]) (i := .invokevirtual 187) (a1 := 111) (a2 := 0) (pc1 := 72) (l1 := [(5, .int (v_cHea_numberOf (jL_at 30000 (σ.2 97) ((v_cMac_frame σ) + (jI_at 1201 (σ.1 33) x1))) σ)), (3, .long (jL_at 30000 (σ.2 97) ((v_cMac_frame σ) + (jI_at 1201 (σ.1 33) x1)))), (0, .ref 8), (1, .int x1), (2, .int x2)]) (st1 := [.long (jL_at 30000 (σ.2 97) ((v_cMac_frame σ) + (jI_at 1201 (σ.1 33) x1))), .ref 8]) (σ1 := σ) (by decide +kernel) rfl (fun hC => ?_)
      obtain ⟨q3, hq, h⟩ := Option.bind_eq_some_iff.mp h
      refine jE_call (as := [.ref 8, .long (jL_at 30000 (σ.2 97) ((v_cMac_frame σ) + (jI_at 1201 (σ.1 33) x1)))]) (pc1 := 75) (st1 := []) hC rfl (by decide) (by omega) (x_cMac_finish (d - 1) (by omega) (jL_at 30000 (σ.2 97) ((v_cMac_frame σ) + (jI_at 1201 (σ.1 33) x1))) σ q3 (none, q3) hq rfl) ?_
      refine jE_blk (bs := [(.goto (82), 0, 0)]) (i := .return_) (a1 := 0) (a2 := 0) (pc1 := 157) (l1 := [(5, .int (v_cHea_numberOf (jL_at 30000 (σ.2 97) ((v_cMac_frame σ) + (jI_at 1201 (σ.1 33) x1))) σ)), (3, .long (jL_at 30000 (σ.2 97) ((v_cMac_frame σ) + (jI_at 1201 (σ.1 33) x1)))), (0, .ref 8), (1, .int x1), (2, .int x2)]) (st1 := []) (σ1 := q3) (by decide +kernel) rfl (fun hC => ?_)
      have h9 := Option.some.inj h
      subst h9
      have e9 : ((none, q3) : Option Value × jx_S) = res := hK
      subst e9
      exact jE_ret hC rfl
  · rw [if_neg hc] at h
    refine jE_icF 62 hC (by decide) hc ?_
    refine jE_blk (bs := [(.aload_n 0, 0, 0), (.getfield 26, 8, 5), (.iload 5, 0, 0), (.aload_n 0, 0, 0), (.getfield 113, 8, 15)]) (i := .invokevirtual 135) (a1 := 135) (a2 := 0) (pc1 := 48) (l1 := [(5, .int (v_cHea_numberOf (jL_at 30000 (σ.2 97) ((v_cMac_frame σ) + (jI_at 1201 (σ.1 33) x1))) σ)), (3, .long (jL_at 30000 (σ.2 97) ((v_cMac_frame σ) + (jI_at 1201 (σ.1 33) x1)))), (0, .ref 8), (1, .int x1), (2, .int x2)]) (st1 := [.long (σ.2 8 15), .int (v_cHea_numberOf (jL_at 30000 (σ.2 97) ((v_cMac_frame σ) + (jI_at 1201 (σ.1 33) x1))) σ), .ref 9]) (σ1 := σ) (by decide +kernel) rfl (fun hC => ?_)
    obtain ⟨q4, hq, h⟩ := Option.bind_eq_some_iff.mp h
    refine jE_call (as := [.ref 9, .int (v_cHea_numberOf (jL_at 30000 (σ.2 97) ((v_cMac_frame σ) + (jI_at 1201 (σ.1 33) x1))) σ), .long (σ.2 8 15)]) (pc1 := 51) (st1 := []) hC rfl (by decide) (by omega) (x_cHea_settle (d - 1) (by omega) (v_cHea_numberOf (jL_at 30000 (σ.2 97) ((v_cMac_frame σ) + (jI_at 1201 (σ.1 33) x1))) σ) (σ.2 8 15) σ q4 (none, q4) hq rfl) ?_
    refine jE_blk (bs := [(.aload_n 0, 0, 0), (.aload_n 0, 0, 0), (.getfield 113, 8, 15)]) (i := .invokevirtual 187) (a1 := 111) (a2 := 0) (pc1 := 56) (l1 := [(5, .int (v_cHea_numberOf (jL_at 30000 (σ.2 97) ((v_cMac_frame σ) + (jI_at 1201 (σ.1 33) x1))) σ)), (3, .long (jL_at 30000 (σ.2 97) ((v_cMac_frame σ) + (jI_at 1201 (σ.1 33) x1)))), (0, .ref 8), (1, .int x1), (2, .int x2)]) (st1 := [.long (q4.2 8 15), .ref 8]) (σ1 := q4) (by decide +kernel) rfl (fun hC => ?_)
    obtain ⟨q5, hq, h⟩ := Option.bind_eq_some_iff.mp h
    refine jE_call (as := [.ref 8, .long (q4.2 8 15)]) (pc1 := 59) (st1 := []) hC rfl (by decide) (by omega) (x_cMac_finish (d - 1) (by omega) (q4.2 8 15) q4 q5 (none, q5) hq rfl) ?_
    refine jE_blk (bs := [(.goto (98), 0, 0)]) (i := .return_) (a1 := 0) (a2 := 0) (pc1 := 157) (l1 := [(5, .int (v_cHea_numberOf (jL_at 30000 (σ.2 97) ((v_cMac_frame σ) + (jI_at 1201 (σ.1 33) x1))) σ)), (3, .long (jL_at 30000 (σ.2 97) ((v_cMac_frame σ) + (jI_at 1201 (σ.1 33) x1)))), (0, .ref 8), (1, .int x1), (2, .int x2)]) (st1 := []) (σ1 := q5) (by decide +kernel) rfl (fun hC => ?_)
    have h9 := Option.some.inj h
    subst h9
    have e9 : ((none, q5) : Option Value × jx_S) = res := hK
    subst e9
    exact jE_ret hC rfl
def p_cMac_beginPart (x1 : Int32) (x2 : Int32) (σ : jx_S) : Option jx_S := ((p_cMac_begin x1 (v_cMac_frame (jI_put 250 σ 79 ((σ.1 8 11) - (1 : Int32)) x2)) (jI_put 250 σ 79 ((σ.1 8 11) - (1 : Int32)) x2)).bind fun q1 => (some (q1)))
theorem x_cMac_beginPart (d : Nat) (hd : 2 ≤ d) (x1 : Int32) (x2 : Int32) (σ : jx_S) (t : jx_S) (res : Option Value × jx_S) (h : p_cMac_beginPart x1 x2 σ = some t) (hK : kkV t res) : jE d 109 0 [(0, .ref 8), (1, .int x1), (2, .int x2)] [] σ res := by
  unfold p_cMac_beginPart at h
  refine jE_blk (bs := [(.aload_n 0, 0, 0), (.getfield 36, 8, 8), (.aload_n 0, 0, 0), (.getfield 65, 8, 11), (.iconst (1), 1, 0), (.isub, 0, 0), (.iload_n 2, 0, 0)]) (i := .invokevirtual 121) (a1 := 137) (a2 := 0) (pc1 := 11) (l1 := [(0, .ref 8), (1, .int x1), (2, .int x2)]) (st1 := [.int x2, .int ((σ.1 8 11) - (1 : Int32)), .ref 78]) (σ1 := σ) (by decide +kernel) rfl (fun hC => ?_)
  refine jE_call (as := [.ref 78, .int ((σ.1 8 11) - (1 : Int32)), .int x2]) (pc1 := 14) (st1 := []) hC rfl (by decide) (by omega) (xI_put (d - 1) 78 250 ((σ.1 8 11) - (1 : Int32)) x2 σ (by decide) rfl rfl) ?_
  refine jE_blk (bs := [(.aload_n 0, 0, 0), (.iload_n 1, 0, 0), (.aload_n 0, 0, 0)]) (i := .invokevirtual 175) (a1 := 112) (a2 := 0) (pc1 := 17) (l1 := [(0, .ref 8), (1, .int x1), (2, .int x2)]) (st1 := [.ref 8, .int x1, .ref 8]) (σ1 := (jI_put 250 σ 79 ((σ.1 8 11) - (1 : Int32)) x2)) (by decide +kernel) rfl (fun hC => ?_)
  refine jE_call (as := [.ref 8]) (pc1 := 20) (st1 := [.int x1, .ref 8]) hC rfl (by decide) (by omega) (xv_cMac_frame (d - 1) (by omega) (jI_put 250 σ 79 ((σ.1 8 11) - (1 : Int32)) x2)) ?_
  refine jE_blk (bs := []) (i := .invokevirtual 179) (a1 := 108) (a2 := 0) (pc1 := 20) (l1 := [(0, .ref 8), (1, .int x1), (2, .int x2)]) (st1 := [.int (v_cMac_frame (jI_put 250 σ 79 ((σ.1 8 11) - (1 : Int32)) x2)), .int x1, .ref 8]) (σ1 := (jI_put 250 σ 79 ((σ.1 8 11) - (1 : Int32)) x2)) (by decide +kernel) rfl (fun hC => ?_)
  obtain ⟨q1, hq, h⟩ := Option.bind_eq_some_iff.mp h
  refine jE_call (as := [.ref 8, .int x1, .int (v_cMac_frame (jI_put 250 σ 79 ((σ.1 8 11) - (1 : Int32)) x2))]) (pc1 := 23) (st1 := []) hC rfl (by decide) (by omega) (x_cMac_begin (d - 1) (by omega) x1 (v_cMac_frame (jI_put 250 σ 79 ((σ.1 8 11) - (1 : Int32)) x2)) (jI_put 250 σ 79 ((σ.1 8 11) - (1 : Int32)) x2) q1 (none, q1) hq rfl) ?_
  refine jE_blk (bs := []) (i := .return_) (a1 := 0) (a2 := 0) (pc1 := 23) (l1 := [(0, .ref 8), (1, .int x1), (2, .int x2)]) (st1 := []) (σ1 := q1) (by decide +kernel) rfl (fun hC => ?_)
  have h9 := Option.some.inj h
  subst h9
  have e9 : ((none, q1) : Option Value × jx_S) = res := hK
  subst e9
  exact jE_ret hC rfl
def p_cMac_workCall_197 (x1 : Int32) (x2 : Int32) (x4 : Int32) (x5 : Int32) (σ : jx_S) : Option jx_S := ((p_cTre_part x1 x5 σ).bind fun q1 => ((p_cMac_putOff 33 q1.1 (0 : Int32) q1.2).bind fun q2 => (some ((jI_put 250 (jL_put 2000 q2.2 81 (x4 + x5) q2.1) 79 ((q2.2.1 8 11) - (1 : Int32)) (x2 + (2 : Int32)))))))
theorem x_cMac_workCall_197 (d : Nat) (hd : 133 ≤ d) (x1 : Int32) (x2 : Int32) (x4 : Int32) (x5 : Int32) (σ : jx_S) (t : jx_S) (res : Option Value × jx_S) (h : p_cMac_workCall_197 x1 x2 x4 x5 σ = some t) (hK : kkV t res) : jE d 123 197 [(0, .ref 8), (1, .int x1), (2, .int x2), (4, .int x4), (5, .int x5)] [] σ res := by
  unfold p_cMac_workCall_197 at h
  refine jE_blk (bs := [(.aload_n 0, 0, 0), (.getfield 42, 8, 9), (.iload 4, 0, 0), (.iload 5, 0, 0), (.iadd, 0, 0), (.aload_n 0, 0, 0), (.aload_n 0, 0, 0), (.getfield 53, 8, 3), (.iload_n 1, 0, 0), (.iload 5, 0, 0)]) (i := .invokevirtual 239) (a1 := 31) (a2 := 0) (pc1 := 214) (l1 := [(0, .ref 8), (1, .int x1), (2, .int x2), (4, .int x4), (5, .int x5)]) (st1 := [.int x5, .int x1, .ref 3, .ref 8, .int (x4 + x5), .ref 80]) (σ1 := σ) (by decide +kernel) rfl (fun hC => ?_)
  obtain ⟨q1, hq, h⟩ := Option.bind_eq_some_iff.mp h
  refine jE_call (as := [.ref 3, .int x1, .int x5]) (pc1 := 217) (st1 := [.ref 8, .int (x4 + x5), .ref 80]) hC rfl (by decide) (by omega) (x_cTre_part (d - 1) (by omega) x1 x5 σ q1 (some (.int q1.1), q1.2) hq rfl) ?_
  refine jE_blk (bs := [(.iconst (0), 0, 0)]) (i := .invokevirtual 245) (a1 := 127) (a2 := 0) (pc1 := 218) (l1 := [(0, .ref 8), (1, .int x1), (2, .int x2), (4, .int x4), (5, .int x5)]) (st1 := [.int (0 : Int32), .int q1.1, .ref 8, .int (x4 + x5), .ref 80]) (σ1 := q1.2) (by decide +kernel) rfl (fun hC => ?_)
  obtain ⟨q2, hq, h⟩ := Option.bind_eq_some_iff.mp h
  refine jE_call (as := [.ref 8, .int q1.1, .int (0 : Int32)]) (pc1 := 221) (st1 := [.int (x4 + x5), .ref 80]) hC rfl (by decide) (by omega) (x_cMac_putOff 33 (d - 1) (by omega) q1.1 (0 : Int32) q1.2 q2 (some (.long q2.1), q2.2) hq rfl) ?_
  refine jE_blk (bs := []) (i := .invokevirtual 98) (a1 := 141) (a2 := 0) (pc1 := 221) (l1 := [(0, .ref 8), (1, .int x1), (2, .int x2), (4, .int x4), (5, .int x5)]) (st1 := [.long q2.1, .int (x4 + x5), .ref 80]) (σ1 := q2.2) (by decide +kernel) rfl (fun hC => ?_)
  refine jE_call (as := [.ref 80, .int (x4 + x5), .long q2.1]) (pc1 := 224) (st1 := []) hC rfl (by decide) (by omega) (xL_put (d - 1) 80 2000 (x4 + x5) q2.1 q2.2 (by decide) rfl rfl) ?_
  refine jE_blk (bs := [(.aload_n 0, 0, 0), (.getfield 36, 8, 8), (.aload_n 0, 0, 0), (.getfield 65, 8, 11), (.iconst (1), 1, 0), (.isub, 0, 0), (.iload_n 2, 0, 0), (.iconst (2), 2, 0), (.iadd, 0, 0)]) (i := .invokevirtual 121) (a1 := 137) (a2 := 0) (pc1 := 237) (l1 := [(0, .ref 8), (1, .int x1), (2, .int x2), (4, .int x4), (5, .int x5)]) (st1 := [.int (x2 + (2 : Int32)), .int ((q2.2.1 8 11) - (1 : Int32)), .ref 78]) (σ1 := (jL_put 2000 q2.2 81 (x4 + x5) q2.1)) (by decide +kernel) rfl (fun hC => ?_)
  refine jE_call (as := [.ref 78, .int ((q2.2.1 8 11) - (1 : Int32)), .int (x2 + (2 : Int32))]) (pc1 := 240) (st1 := []) hC rfl (by decide) (by omega) (xI_put (d - 1) 78 250 ((q2.2.1 8 11) - (1 : Int32)) (x2 + (2 : Int32)) (jL_put 2000 q2.2 81 (x4 + x5) q2.1) (by decide) rfl rfl) ?_
  refine jE_blk (bs := []) (i := .return_) (a1 := 0) (a2 := 0) (pc1 := 240) (l1 := [(0, .ref 8), (1, .int x1), (2, .int x2), (4, .int x4), (5, .int x5)]) (st1 := []) (σ1 := (jI_put 250 (jL_put 2000 q2.2 81 (x4 + x5) q2.1) 79 ((q2.2.1 8 11) - (1 : Int32)) (x2 + (2 : Int32)))) (by decide +kernel) rfl (fun hC => ?_)
  have h9 := Option.some.inj h
  subst h9
  have e9 : ((none, (jI_put 250 (jL_put 2000 q2.2 81 (x4 + x5) q2.1) 79 ((q2.2.1 8 11) - (1 : Int32)) (x2 + (2 : Int32)))) : Option Value × jx_S) = res := hK
  subst e9
  exact jE_ret hC rfl
def kk_cMac_workCall_89 (d : Nat) (t : ((Int32 × Int32 × Int32 × Int32 × jx_S) ⊕ jx_S)) (res : Option Value × jx_S) : Prop := match t with
  | .inl s => jE d 123 89 [(0, .ref 8), (3, .int s.1), (4, .int s.2.1), (5, .int s.2.2.1), (6, .int s.2.2.2.1)] [] s.2.2.2.2 res
  | .inr t => kkV t res
def p_cMac_workCall_89_s (x3 : Int32) (x4 : Int32) (x5 : Int32) (x6 : Int32) (σ : jx_S) : Option ((Int32 × Int32 × Int32 × Int32 × jx_S) ⊕ jx_S) := (if x5 ≤ x6 then (Option.map Sum.inr ((p_cMac_enter x3 (jI_put 250 σ 79 ((σ.1 8 11) - (1 : Int32)) (100 : Int32))).bind fun q5 => (some (q5)))) else (some (.inl (x3, x4, x5, (x6 + 1), (jL_put 8 σ 83 x6 (jL_at 2000 (σ.2 81) (x4 + x6)))))))
theorem x_cMac_workCall_89_s (d : Nat) (hd : 133 ≤ d) (x3 : Int32) (x4 : Int32) (x5 : Int32) (x6 : Int32) (σ : jx_S) (t : ((Int32 × Int32 × Int32 × Int32 × jx_S) ⊕ jx_S)) (res : Option Value × jx_S) (h : p_cMac_workCall_89_s x3 x4 x5 x6 σ = some t) (hK : kk_cMac_workCall_89 d t res) : jE d 123 89 [(0, .ref 8), (3, .int x3), (4, .int x4), (5, .int x5), (6, .int x6)] [] σ res := by
  unfold p_cMac_workCall_89_s at h
  refine jE_blk (bs := [(.iload 6, 0, 0), (.iload 5, 0, 0)]) (i := .if_icmp .ge (30)) (a1 := 0) (a2 := 0) (pc1 := 93) (l1 := [(0, .ref 8), (3, .int x3), (4, .int x4), (5, .int x5), (6, .int x6)]) (st1 := [.int x5, .int x6]) (σ1 := σ) (by decide +kernel) rfl (fun hC => ?_)
  rcases Classical.em (x5 ≤ x6) with hc | hc
  · rw [if_pos hc] at h
    refine jE_icT 123 hC (by decide) hc ?_
    obtain ⟨t9_6, h9_6, h8_6⟩ := Option.map_eq_some_iff.mp h
    clear h
    subst h8_6
    have h := h9_6
    clear h9_6
    refine jE_blk (bs := [(.aload_n 0, 0, 0), (.getfield 36, 8, 8), (.aload_n 0, 0, 0), (.getfield 65, 8, 11), (.iconst (1), 1, 0), (.isub, 0, 0), (.bipush (100), 100, 0)]) (i := .invokevirtual 121) (a1 := 137) (a2 := 0) (pc1 := 135) (l1 := [(0, .ref 8), (3, .int x3), (4, .int x4), (5, .int x5), (6, .int x6)]) (st1 := [.int (100 : Int32), .int ((σ.1 8 11) - (1 : Int32)), .ref 78]) (σ1 := σ) (by decide +kernel) rfl (fun hC => ?_)
    refine jE_call (as := [.ref 78, .int ((σ.1 8 11) - (1 : Int32)), .int (100 : Int32)]) (pc1 := 138) (st1 := []) hC rfl (by decide) (by omega) (xI_put (d - 1) 78 250 ((σ.1 8 11) - (1 : Int32)) (100 : Int32) σ (by decide) rfl rfl) ?_
    refine jE_blk (bs := [(.aload_n 0, 0, 0), (.iload_n 3, 0, 0)]) (i := .invokevirtual 102) (a1 := 126) (a2 := 0) (pc1 := 140) (l1 := [(0, .ref 8), (3, .int x3), (4, .int x4), (5, .int x5), (6, .int x6)]) (st1 := [.int x3, .ref 8]) (σ1 := (jI_put 250 σ 79 ((σ.1 8 11) - (1 : Int32)) (100 : Int32))) (by decide +kernel) rfl (fun hC => ?_)
    obtain ⟨q5, hq, h⟩ := Option.bind_eq_some_iff.mp h
    refine jE_call (as := [.ref 8, .int x3]) (pc1 := 143) (st1 := []) hC rfl (by decide) (by omega) (x_cMac_enter (d - 1) (by omega) x3 (jI_put 250 σ 79 ((σ.1 8 11) - (1 : Int32)) (100 : Int32)) q5 (none, q5) hq rfl) ?_
    refine jE_blk (bs := [(.goto (97), 0, 0)]) (i := .return_) (a1 := 0) (a2 := 0) (pc1 := 240) (l1 := [(0, .ref 8), (3, .int x3), (4, .int x4), (5, .int x5), (6, .int x6)]) (st1 := []) (σ1 := q5) (by decide +kernel) rfl (fun hC => ?_)
    have h9 := Option.some.inj h
    subst h9
    have e9 : ((none, q5) : Option Value × jx_S) = res := hK
    subst e9
    exact jE_ret hC rfl
  · rw [if_neg hc] at h
    refine jE_icF 123 hC (by decide) hc ?_
    refine jE_blk (bs := [(.aload_n 0, 0, 0), (.getfield 46, 8, 10), (.iload 6, 0, 0), (.aload_n 0, 0, 0), (.getfield 42, 8, 9), (.iload 4, 0, 0), (.iload 6, 0, 0), (.iadd, 0, 0)]) (i := .invokevirtual 148) (a1 := 140) (a2 := 0) (pc1 := 111) (l1 := [(0, .ref 8), (3, .int x3), (4, .int x4), (5, .int x5), (6, .int x6)]) (st1 := [.int (x4 + x6), .ref 80, .int x6, .ref 82]) (σ1 := σ) (by decide +kernel) rfl (fun hC => ?_)
    refine jE_call (as := [.ref 80, .int (x4 + x6)]) (pc1 := 114) (st1 := [.int x6, .ref 82]) hC rfl (by decide) (by omega) (xL_at (d - 1) 80 2000 (x4 + x6) σ (by decide) rfl rfl) ?_
    refine jE_blk (bs := []) (i := .invokevirtual 98) (a1 := 141) (a2 := 0) (pc1 := 114) (l1 := [(0, .ref 8), (3, .int x3), (4, .int x4), (5, .int x5), (6, .int x6)]) (st1 := [.long (jL_at 2000 (σ.2 81) (x4 + x6)), .int x6, .ref 82]) (σ1 := σ) (by decide +kernel) rfl (fun hC => ?_)
    refine jE_call (as := [.ref 82, .int x6, .long (jL_at 2000 (σ.2 81) (x4 + x6))]) (pc1 := 117) (st1 := []) hC rfl (by decide) (by omega) (xL_put (d - 1) 82 8 x6 (jL_at 2000 (σ.2 81) (x4 + x6)) σ (by decide) rfl rfl) ?_
    refine jE_blk (bs := [(.iinc 6 (1), 7, 2), (.goto (-31), 0, 0)]) (i := .iload 6) (a1 := 0) (a2 := 0) (pc1 := 89) (l1 := [(6, .int (x6 + 1)), (0, .ref 8), (3, .int x3), (4, .int x4), (5, .int x5)]) (st1 := []) (σ1 := (jL_put 8 σ 83 x6 (jL_at 2000 (σ.2 81) (x4 + x6)))) (by decide +kernel) rfl (fun hC => ?_)
    have h9 := Option.some.inj h
    subst h9
    exact jE_loc (l := [(0, .ref 8), (3, .int x3), (4, .int x4), (5, .int x5), (6, .int (x6 + 1))]) (ks := [0, 3, 4, 5, 6]) rfl (by decide) ⟨rfl, rfl, rfl, rfl, rfl, trivial⟩ hK
def p_cMac_workCall_89 (x3 : Int32) (x4 : Int32) (x5 : Int32) (x6 : Int32) (σ : jx_S) : Option jx_S := jx_loop 100000000 (fun s => p_cMac_workCall_89_s s.1 s.2.1 s.2.2.1 s.2.2.2.1 (s.2.2.2.2)) (x3, x4, x5, x6, σ)
theorem x_cMac_workCall_89 (d : Nat) (hd : 133 ≤ d) (x3 : Int32) (x4 : Int32) (x5 : Int32) (x6 : Int32) (σ : jx_S) (t : jx_S) (res : Option Value × jx_S) (h : p_cMac_workCall_89 x3 x4 x5 x6 σ = some t) (hK : kkV t res) : jE d 123 89 [(0, .ref 8), (3, .int x3), (4, .int x4), (5, .int x5), (6, .int x6)] [] σ res := by
  refine jx_loop_ok (E := fun s t => ∀ res, kkV t res → jE d 123 89 [(0, .ref 8), (3, .int s.1), (4, .int s.2.1), (5, .int s.2.2.1), (6, .int s.2.2.2.1)] [] s.2.2.2.2 res) (fun s t hs => ?_) _ _ _ h res hK
  cases t with
  | inl s1 => exact fun b hb res hk => x_cMac_workCall_89_s d hd (s.1) (s.2.1) (s.2.2.1) (s.2.2.2.1) (s.2.2.2.2) _ res hs (hb res hk)
  | inr b => exact fun res hk => x_cMac_workCall_89_s d hd (s.1) (s.2.1) (s.2.2.1) (s.2.2.2.1) (s.2.2.2.2) _ res hs hk
def p_cMac_workCall (x1 : Int32) (x2 : Int32) (σ : jx_S) : Option jx_S := (if ¬ (x2 - x2 / (2 : Int32) * (2 : Int32)) = (1 : Int32) then (if ¬ (x2 / (2 : Int32)) = (jI_at 1201 (σ.1 35) x1) then (if (σ.1 8 13) = 0 then (p_cMac_workCall_197 x1 x2 (((σ.1 8 11) - (1 : Int32)) * (8 : Int32)) (x2 / (2 : Int32)) σ) else (if ¬ (v_cFun_strictOf (jI_at 1201 (σ.1 33) x1) (x2 / (2 : Int32)) σ) = (1 : Int32) then (p_cMac_workCall_197 x1 x2 (((σ.1 8 11) - (1 : Int32)) * (8 : Int32)) (x2 / (2 : Int32)) σ) else ((p_cTre_part x1 (x2 / (2 : Int32)) (jI_put 10 σ 71 (9 : Int32) (jI_at 10 (σ.1 71) (9 : Int32) + (1 : Int32)))).bind fun q3 => ((p_cMac_beginPart q3.1 (x2 + (1 : Int32)) q3.2).bind fun q4 => (some (q4)))))) else (p_cMac_workCall_89 (jI_at 1201 (σ.1 33) x1) (((σ.1 8 11) - (1 : Int32)) * (8 : Int32)) (x2 / (2 : Int32)) (0 : Int32) σ)) else (some ((jI_put 250 (jL_put 2000 σ 81 ((((σ.1 8 11) - (1 : Int32)) * (8 : Int32)) + (x2 / (2 : Int32))) (σ.2 8 15)) 79 ((σ.1 8 11) - (1 : Int32)) (x2 + (1 : Int32))))))
theorem x_cMac_workCall (d : Nat) (hd : 133 ≤ d) (x1 : Int32) (x2 : Int32) (σ : jx_S) (t : jx_S) (res : Option Value × jx_S) (h : p_cMac_workCall x1 x2 σ = some t) (hK : kkV t res) : jE d 123 0 [(0, .ref 8), (1, .int x1), (2, .int x2)] [] σ res := by
  unfold p_cMac_workCall at h
  refine jE_blk (bs := [(.aload_n 0, 0, 0), (.getfield 53, 8, 3), (.getfield 236, 3, 5), (.iload_n 1, 0, 0)]) (i := .invokevirtual 90) (a1 := 136) (a2 := 0) (pc1 := 8) (l1 := [(0, .ref 8), (1, .int x1), (2, .int x2)]) (st1 := [.int x1, .ref 32]) (σ1 := σ) (by decide +kernel) rfl (fun hC => ?_)
  refine jE_call (as := [.ref 32, .int x1]) (pc1 := 11) (st1 := []) hC rfl (by decide) (by omega) (xI_at (d - 1) 32 1201 x1 σ (by decide) rfl rfl) ?_
  refine jE_blk (bs := [(.istore_n 3, 7, 0), (.aload_n 0, 0, 0), (.getfield 65, 8, 11), (.iconst (1), 1, 0), (.isub, 0, 0), (.bipush (8), 8, 0), (.imul, 0, 0), (.istore 4, 7, 0), (.iload_n 2, 0, 0), (.iconst (2), 2, 0)]) (i := .idiv) (a1 := 0) (a2 := 0) (pc1 := 25) (l1 := [(4, .int (((σ.1 8 11) - (1 : Int32)) * (8 : Int32))), (3, .int (jI_at 1201 (σ.1 33) x1)), (0, .ref 8), (1, .int x1), (2, .int x2)]) (st1 := [.int (2 : Int32), .int x2]) (σ1 := σ) (by decide +kernel) rfl (fun hC => ?_)
  refine jE_idiv hC (by decide) ?_
  refine jE_blk (bs := [(.istore 5, 7, 0), (.iload_n 2, 0, 0), (.iconst (2), 2, 0)]) (i := .irem) (a1 := 0) (a2 := 0) (pc1 := 30) (l1 := [(5, .int (x2 / (2 : Int32))), (4, .int (((σ.1 8 11) - (1 : Int32)) * (8 : Int32))), (3, .int (jI_at 1201 (σ.1 33) x1)), (0, .ref 8), (1, .int x1), (2, .int x2)]) (st1 := [.int (2 : Int32), .int x2]) (σ1 := σ) (by decide +kernel) rfl (fun hC => ?_)
  refine jE_irem hC (by decide) ?_
  refine jE_blk (bs := [(.iconst (1), 1, 0)]) (i := .if_icmp .ne (38)) (a1 := 0) (a2 := 0) (pc1 := 32) (l1 := [(5, .int (x2 / (2 : Int32))), (4, .int (((σ.1 8 11) - (1 : Int32)) * (8 : Int32))), (3, .int (jI_at 1201 (σ.1 33) x1)), (0, .ref 8), (1, .int x1), (2, .int x2)]) (st1 := [.int (1 : Int32), .int (x2 - x2 / (2 : Int32) * (2 : Int32))]) (σ1 := σ) (by decide +kernel) rfl (fun hC => ?_)
  rcases Classical.em (¬ (x2 - x2 / (2 : Int32) * (2 : Int32)) = (1 : Int32)) with hc | hc
  · rw [if_pos hc] at h
    refine jE_icT 70 hC (by decide) hc ?_
    refine jE_blk (bs := [(.iload 5, 0, 0), (.aload_n 0, 0, 0), (.getfield 53, 8, 3), (.getfield 198, 3, 6), (.iload_n 1, 0, 0)]) (i := .invokevirtual 90) (a1 := 136) (a2 := 0) (pc1 := 80) (l1 := [(5, .int (x2 / (2 : Int32))), (4, .int (((σ.1 8 11) - (1 : Int32)) * (8 : Int32))), (3, .int (jI_at 1201 (σ.1 33) x1)), (0, .ref 8), (1, .int x1), (2, .int x2)]) (st1 := [.int x1, .ref 34, .int (x2 / (2 : Int32))]) (σ1 := σ) (by decide +kernel) rfl (fun hC => ?_)
    refine jE_call (as := [.ref 34, .int x1]) (pc1 := 83) (st1 := [.int (x2 / (2 : Int32))]) hC rfl (by decide) (by omega) (xI_at (d - 1) 34 1201 x1 σ (by decide) rfl rfl) ?_
    refine jE_blk (bs := []) (i := .if_icmp .ne (63)) (a1 := 0) (a2 := 0) (pc1 := 83) (l1 := [(5, .int (x2 / (2 : Int32))), (4, .int (((σ.1 8 11) - (1 : Int32)) * (8 : Int32))), (3, .int (jI_at 1201 (σ.1 33) x1)), (0, .ref 8), (1, .int x1), (2, .int x2)]) (st1 := [.int (jI_at 1201 (σ.1 35) x1), .int (x2 / (2 : Int32))]) (σ1 := σ) (by decide +kernel) rfl (fun hC => ?_)
    rcases Classical.em (¬ (x2 / (2 : Int32)) = (jI_at 1201 (σ.1 35) x1)) with hc | hc
    · rw [if_pos hc] at h
      refine jE_icT 146 hC (by decide) hc ?_
      refine jE_blk (bs := [(.aload_n 0, 0, 0), (.getfield 72, 8, 13)]) (i := .ifCond .eq (47)) (a1 := 0) (a2 := 0) (pc1 := 150) (l1 := [(5, .int (x2 / (2 : Int32))), (4, .int (((σ.1 8 11) - (1 : Int32)) * (8 : Int32))), (3, .int (jI_at 1201 (σ.1 33) x1)), (0, .ref 8), (1, .int x1), (2, .int x2)]) (st1 := [.int (σ.1 8 13)]) (σ1 := σ) (by decide +kernel) rfl (fun hC => ?_)
      rcases Classical.em ((σ.1 8 13) = 0) with hc | hc
      · rw [if_pos hc] at h
        refine jE_ifT 197 hC (by decide) hc ?_
        exact jE_loc (l := [(0, .ref 8), (1, .int x1), (2, .int x2), (4, .int (((σ.1 8 11) - (1 : Int32)) * (8 : Int32))), (5, .int (x2 / (2 : Int32)))]) (ks := [0, 1, 2, 4, 5]) rfl (by decide) ⟨rfl, rfl, rfl, rfl, rfl, trivial⟩ (x_cMac_workCall_197 d hd x1 x2 (((σ.1 8 11) - (1 : Int32)) * (8 : Int32)) (x2 / (2 : Int32)) σ _ res h hK)
      · rw [if_neg hc] at h
        refine jE_ifF 197 hC (by decide) hc ?_
        refine jE_blk (bs := [(.aload_n 0, 0, 0), (.getfield 57, 8, 4), (.iload_n 3, 0, 0), (.iload 5, 0, 0)]) (i := .invokevirtual 261) (a1 := 41) (a2 := 0) (pc1 := 160) (l1 := [(5, .int (x2 / (2 : Int32))), (4, .int (((σ.1 8 11) - (1 : Int32)) * (8 : Int32))), (3, .int (jI_at 1201 (σ.1 33) x1)), (0, .ref 8), (1, .int x1), (2, .int x2)]) (st1 := [.int (x2 / (2 : Int32)), .int (jI_at 1201 (σ.1 33) x1), .ref 4]) (σ1 := σ) (by decide +kernel) rfl (fun hC => ?_)
        refine jE_call (as := [.ref 4, .int (jI_at 1201 (σ.1 33) x1), .int (x2 / (2 : Int32))]) (pc1 := 163) (st1 := []) hC rfl (by decide) (by omega) (xv_cFun_strictOf (d - 1) (by omega) (jI_at 1201 (σ.1 33) x1) (x2 / (2 : Int32)) σ) ?_
        refine jE_blk (bs := [(.iconst (1), 1, 0)]) (i := .if_icmp .ne (33)) (a1 := 0) (a2 := 0) (pc1 := 164) (l1 := [(5, .int (x2 / (2 : Int32))), (4, .int (((σ.1 8 11) - (1 : Int32)) * (8 : Int32))), (3, .int (jI_at 1201 (σ.1 33) x1)), (0, .ref 8), (1, .int x1), (2, .int x2)]) (st1 := [.int (1 : Int32), .int (v_cFun_strictOf (jI_at 1201 (σ.1 33) x1) (x2 / (2 : Int32)) σ)]) (σ1 := σ) (by decide +kernel) rfl (fun hC => ?_)
        rcases Classical.em (¬ (v_cFun_strictOf (jI_at 1201 (σ.1 33) x1) (x2 / (2 : Int32)) σ) = (1 : Int32)) with hc | hc
        · rw [if_pos hc] at h
          refine jE_icT 197 hC (by decide) hc ?_
          exact jE_loc (l := [(0, .ref 8), (1, .int x1), (2, .int x2), (4, .int (((σ.1 8 11) - (1 : Int32)) * (8 : Int32))), (5, .int (x2 / (2 : Int32)))]) (ks := [0, 1, 2, 4, 5]) rfl (by decide) ⟨rfl, rfl, rfl, rfl, rfl, trivial⟩ (x_cMac_workCall_197 d hd x1 x2 (((σ.1 8 11) - (1 : Int32)) * (8 : Int32)) (x2 / (2 : Int32)) σ _ res h hK)
        · rw [if_neg hc] at h
          refine jE_icF 197 hC (by decide) hc ?_
          refine jE_blk (bs := [(.aload_n 0, 0, 0), (.getfield 14, 8, 0), (.bipush (9), 9, 0), (.iconst (1), 1, 0)]) (i := .invokevirtual 250) (a1 := 138) (a2 := 0) (pc1 := 174) (l1 := [(5, .int (x2 / (2 : Int32))), (4, .int (((σ.1 8 11) - (1 : Int32)) * (8 : Int32))), (3, .int (jI_at 1201 (σ.1 33) x1)), (0, .ref 8), (1, .int x1), (2, .int x2)]) (st1 := [.int (1 : Int32), .int (9 : Int32), .ref 70]) (σ1 := σ) (by decide +kernel) rfl (fun hC => ?_)
          refine jE_call (as := [.ref 70, .int (9 : Int32), .int (1 : Int32)]) (pc1 := 177) (st1 := []) hC rfl (by decide) (by omega) (xI_add (d - 1) 70 10 (9 : Int32) (1 : Int32) σ (by omega) (by decide) rfl rfl) ?_
          refine jE_blk (bs := [(.aload_n 0, 0, 0), (.aload_n 0, 0, 0), (.getfield 53, 8, 3), (.iload_n 1, 0, 0), (.iload 5, 0, 0)]) (i := .invokevirtual 239) (a1 := 31) (a2 := 0) (pc1 := 185) (l1 := [(5, .int (x2 / (2 : Int32))), (4, .int (((σ.1 8 11) - (1 : Int32)) * (8 : Int32))), (3, .int (jI_at 1201 (σ.1 33) x1)), (0, .ref 8), (1, .int x1), (2, .int x2)]) (st1 := [.int (x2 / (2 : Int32)), .int x1, .ref 3, .ref 8]) (σ1 := (jI_put 10 σ 71 (9 : Int32) (jI_at 10 (σ.1 71) (9 : Int32) + (1 : Int32)))) (by decide +kernel) rfl (fun hC => ?_)
          obtain ⟨q3, hq, h⟩ := Option.bind_eq_some_iff.mp h
          refine jE_call (as := [.ref 3, .int x1, .int (x2 / (2 : Int32))]) (pc1 := 188) (st1 := [.ref 8]) hC rfl (by decide) (by omega) (x_cTre_part (d - 1) (by omega) x1 (x2 / (2 : Int32)) (jI_put 10 σ 71 (9 : Int32) (jI_at 10 (σ.1 71) (9 : Int32) + (1 : Int32))) q3 (some (.int q3.1), q3.2) hq rfl) ?_
          refine jE_blk (bs := [(.iload_n 2, 0, 0), (.iconst (1), 1, 0), (.iadd, 0, 0)]) (i := .invokevirtual 242) (a1 := 109) (a2 := 0) (pc1 := 191) (l1 := [(5, .int (x2 / (2 : Int32))), (4, .int (((σ.1 8 11) - (1 : Int32)) * (8 : Int32))), (3, .int (jI_at 1201 (σ.1 33) x1)), (0, .ref 8), (1, .int x1), (2, .int x2)]) (st1 := [.int (x2 + (1 : Int32)), .int q3.1, .ref 8]) (σ1 := q3.2) (by decide +kernel) rfl (fun hC => ?_)
          obtain ⟨q4, hq, h⟩ := Option.bind_eq_some_iff.mp h
          refine jE_call (as := [.ref 8, .int q3.1, .int (x2 + (1 : Int32))]) (pc1 := 194) (st1 := []) hC rfl (by decide) (by omega) (x_cMac_beginPart (d - 1) (by omega) q3.1 (x2 + (1 : Int32)) q3.2 q4 (none, q4) hq rfl) ?_
          refine jE_blk (bs := [(.goto (46), 0, 0)]) (i := .return_) (a1 := 0) (a2 := 0) (pc1 := 240) (l1 := [(5, .int (x2 / (2 : Int32))), (4, .int (((σ.1 8 11) - (1 : Int32)) * (8 : Int32))), (3, .int (jI_at 1201 (σ.1 33) x1)), (0, .ref 8), (1, .int x1), (2, .int x2)]) (st1 := []) (σ1 := q4) (by decide +kernel) rfl (fun hC => ?_)
          have h9 := Option.some.inj h
          subst h9
          have e9 : ((none, q4) : Option Value × jx_S) = res := hK
          subst e9
          exact jE_ret hC rfl
    · rw [if_neg hc] at h
      refine jE_icF 146 hC (by decide) hc ?_
      refine jE_blk (bs := [(.iconst (0), 0, 0), (.istore 6, 7, 0)]) (i := .iload 6) (a1 := 0) (a2 := 0) (pc1 := 89) (l1 := [(6, .int (0 : Int32)), (5, .int (x2 / (2 : Int32))), (4, .int (((σ.1 8 11) - (1 : Int32)) * (8 : Int32))), (3, .int (jI_at 1201 (σ.1 33) x1)), (0, .ref 8), (1, .int x1), (2, .int x2)]) (st1 := []) (σ1 := σ) (by decide +kernel) rfl (fun hC => ?_)
      exact jE_loc (l := [(0, .ref 8), (3, .int (jI_at 1201 (σ.1 33) x1)), (4, .int (((σ.1 8 11) - (1 : Int32)) * (8 : Int32))), (5, .int (x2 / (2 : Int32))), (6, .int (0 : Int32))]) (ks := [0, 3, 4, 5, 6]) rfl (by decide) ⟨rfl, rfl, rfl, rfl, rfl, trivial⟩ (x_cMac_workCall_89 d hd (jI_at 1201 (σ.1 33) x1) (((σ.1 8 11) - (1 : Int32)) * (8 : Int32)) (x2 / (2 : Int32)) (0 : Int32) σ _ res h hK)
  · rw [if_neg hc] at h
    refine jE_icF 70 hC (by decide) hc ?_
    refine jE_blk (bs := [(.aload_n 0, 0, 0), (.getfield 42, 8, 9), (.iload 4, 0, 0), (.iload 5, 0, 0), (.iadd, 0, 0), (.aload_n 0, 0, 0), (.getfield 113, 8, 15)]) (i := .invokevirtual 98) (a1 := 141) (a2 := 0) (pc1 := 48) (l1 := [(5, .int (x2 / (2 : Int32))), (4, .int (((σ.1 8 11) - (1 : Int32)) * (8 : Int32))), (3, .int (jI_at 1201 (σ.1 33) x1)), (0, .ref 8), (1, .int x1), (2, .int x2)]) (st1 := [.long (σ.2 8 15), .int ((((σ.1 8 11) - (1 : Int32)) * (8 : Int32)) + (x2 / (2 : Int32))), .ref 80]) (σ1 := σ) (by decide +kernel) rfl (fun hC => ?_)
    refine jE_call (as := [.ref 80, .int ((((σ.1 8 11) - (1 : Int32)) * (8 : Int32)) + (x2 / (2 : Int32))), .long (σ.2 8 15)]) (pc1 := 51) (st1 := []) hC rfl (by decide) (by omega) (xL_put (d - 1) 80 2000 ((((σ.1 8 11) - (1 : Int32)) * (8 : Int32)) + (x2 / (2 : Int32))) (σ.2 8 15) σ (by decide) rfl rfl) ?_
    refine jE_blk (bs := [(.aload_n 0, 0, 0), (.getfield 36, 8, 8), (.aload_n 0, 0, 0), (.getfield 65, 8, 11), (.iconst (1), 1, 0), (.isub, 0, 0), (.iload_n 2, 0, 0), (.iconst (1), 1, 0), (.iadd, 0, 0)]) (i := .invokevirtual 121) (a1 := 137) (a2 := 0) (pc1 := 64) (l1 := [(5, .int (x2 / (2 : Int32))), (4, .int (((σ.1 8 11) - (1 : Int32)) * (8 : Int32))), (3, .int (jI_at 1201 (σ.1 33) x1)), (0, .ref 8), (1, .int x1), (2, .int x2)]) (st1 := [.int (x2 + (1 : Int32)), .int ((σ.1 8 11) - (1 : Int32)), .ref 78]) (σ1 := (jL_put 2000 σ 81 ((((σ.1 8 11) - (1 : Int32)) * (8 : Int32)) + (x2 / (2 : Int32))) (σ.2 8 15))) (by decide +kernel) rfl (fun hC => ?_)
    refine jE_call (as := [.ref 78, .int ((σ.1 8 11) - (1 : Int32)), .int (x2 + (1 : Int32))]) (pc1 := 67) (st1 := []) hC rfl (by decide) (by omega) (xI_put (d - 1) 78 250 ((σ.1 8 11) - (1 : Int32)) (x2 + (1 : Int32)) (jL_put 2000 σ 81 ((((σ.1 8 11) - (1 : Int32)) * (8 : Int32)) + (x2 / (2 : Int32))) (σ.2 8 15)) (by decide) rfl rfl) ?_
    refine jE_blk (bs := [(.goto (173), 0, 0)]) (i := .return_) (a1 := 0) (a2 := 0) (pc1 := 240) (l1 := [(5, .int (x2 / (2 : Int32))), (4, .int (((σ.1 8 11) - (1 : Int32)) * (8 : Int32))), (3, .int (jI_at 1201 (σ.1 33) x1)), (0, .ref 8), (1, .int x1), (2, .int x2)]) (st1 := []) (σ1 := (jI_put 250 (jL_put 2000 σ 81 ((((σ.1 8 11) - (1 : Int32)) * (8 : Int32)) + (x2 / (2 : Int32))) (σ.2 8 15)) 79 ((σ.1 8 11) - (1 : Int32)) (x2 + (1 : Int32)))) (by decide +kernel) rfl (fun hC => ?_)
    have h9 := Option.some.inj h
    subst h9
    have e9 : ((none, (jI_put 250 (jL_put 2000 σ 81 ((((σ.1 8 11) - (1 : Int32)) * (8 : Int32)) + (x2 / (2 : Int32))) (σ.2 8 15)) 79 ((σ.1 8 11) - (1 : Int32)) (x2 + (1 : Int32)))) : Option Value × jx_S) = res := hK
    subst e9
    exact jE_ret hC rfl
def p_cMac_workLet_101 (x1 : Int32) (y0 : Int64) (y1 : Int32) (σ : jx_S) : Option jx_S := (if ¬ (σ.1 8 14) = 0 then (some ((jL_put 30000 σ 97 y1 y0))) else ((p_cTre_part x1 (1 : Int32) (jL_put 30000 σ 97 y1 y0)).bind fun q1 => ((p_cMac_beginPart q1.1 (100 : Int32) q1.2).bind fun q2 => (some (q2)))))
theorem x_cMac_workLet_101 (d : Nat) (hd : 133 ≤ d) (x1 : Int32) (y0 : Int64) (y1 : Int32) (σ : jx_S) (t : jx_S) (res : Option Value × jx_S) (h : p_cMac_workLet_101 x1 y0 y1 σ = some t) (hK : kkV t res) : jE d 119 101 [(0, .ref 8), (1, .int x1)] [.long y0, .int y1, .ref 96] σ res := by
  unfold p_cMac_workLet_101 at h
  refine jE_blk (bs := []) (i := .invokevirtual 98) (a1 := 141) (a2 := 0) (pc1 := 101) (l1 := [(0, .ref 8), (1, .int x1)]) (st1 := [.long y0, .int y1, .ref 96]) (σ1 := σ) (by decide +kernel) rfl (fun hC => ?_)
  refine jE_call (as := [.ref 96, .int y1, .long y0]) (pc1 := 104) (st1 := []) hC rfl (by decide) (by omega) (xL_put (d - 1) 96 30000 y1 y0 σ (by decide) rfl rfl) ?_
  refine jE_blk (bs := [(.aload_n 0, 0, 0), (.getfield 76, 8, 14)]) (i := .ifCond .ne (18)) (a1 := 0) (a2 := 0) (pc1 := 108) (l1 := [(0, .ref 8), (1, .int x1)]) (st1 := [.int (σ.1 8 14)]) (σ1 := (jL_put 30000 σ 97 y1 y0)) (by decide +kernel) rfl (fun hC => ?_)
  rcases Classical.em (¬ (σ.1 8 14) = 0) with hc | hc
  · rw [if_pos hc] at h
    refine jE_ifT 126 hC (by decide) hc ?_
    refine jE_blk (bs := []) (i := .return_) (a1 := 0) (a2 := 0) (pc1 := 126) (l1 := [(0, .ref 8), (1, .int x1)]) (st1 := []) (σ1 := (jL_put 30000 σ 97 y1 y0)) (by decide +kernel) rfl (fun hC => ?_)
    have h9 := Option.some.inj h
    subst h9
    have e9 : ((none, (jL_put 30000 σ 97 y1 y0)) : Option Value × jx_S) = res := hK
    subst e9
    exact jE_ret hC rfl
  · rw [if_neg hc] at h
    refine jE_ifF 126 hC (by decide) hc ?_
    refine jE_blk (bs := [(.aload_n 0, 0, 0), (.aload_n 0, 0, 0), (.getfield 53, 8, 3), (.iload_n 1, 0, 0), (.iconst (1), 1, 0)]) (i := .invokevirtual 239) (a1 := 31) (a2 := 0) (pc1 := 118) (l1 := [(0, .ref 8), (1, .int x1)]) (st1 := [.int (1 : Int32), .int x1, .ref 3, .ref 8]) (σ1 := (jL_put 30000 σ 97 y1 y0)) (by decide +kernel) rfl (fun hC => ?_)
    obtain ⟨q1, hq, h⟩ := Option.bind_eq_some_iff.mp h
    refine jE_call (as := [.ref 3, .int x1, .int (1 : Int32)]) (pc1 := 121) (st1 := [.ref 8]) hC rfl (by decide) (by omega) (x_cTre_part (d - 1) (by omega) x1 (1 : Int32) (jL_put 30000 σ 97 y1 y0) q1 (some (.int q1.1), q1.2) hq rfl) ?_
    refine jE_blk (bs := [(.bipush (100), 100, 0)]) (i := .invokevirtual 242) (a1 := 109) (a2 := 0) (pc1 := 123) (l1 := [(0, .ref 8), (1, .int x1)]) (st1 := [.int (100 : Int32), .int q1.1, .ref 8]) (σ1 := q1.2) (by decide +kernel) rfl (fun hC => ?_)
    obtain ⟨q2, hq, h⟩ := Option.bind_eq_some_iff.mp h
    refine jE_call (as := [.ref 8, .int q1.1, .int (100 : Int32)]) (pc1 := 126) (st1 := []) hC rfl (by decide) (by omega) (x_cMac_beginPart (d - 1) (by omega) q1.1 (100 : Int32) q1.2 q2 (none, q2) hq rfl) ?_
    refine jE_blk (bs := []) (i := .return_) (a1 := 0) (a2 := 0) (pc1 := 126) (l1 := [(0, .ref 8), (1, .int x1)]) (st1 := []) (σ1 := q2) (by decide +kernel) rfl (fun hC => ?_)
    have h9 := Option.some.inj h
    subst h9
    have e9 : ((none, q2) : Option Value × jx_S) = res := hK
    subst e9
    exact jE_ret hC rfl
def p_cMac_workLet_68 (x1 : Int32) (x2 : Int32) (x3 : Int32) (σ : jx_S) : Option jx_S := (if ¬ x2 = 0 then (p_cMac_workLet_101 x1 (σ.2 8 15) x3 σ) else ((p_cTre_part x1 (0 : Int32) σ).bind fun q3 => ((p_cMac_putOff 33 q3.1 (0 : Int32) q3.2).bind fun q4 => (p_cMac_workLet_101 x1 q4.1 x3 q4.2))))
theorem x_cMac_workLet_68 (d : Nat) (hd : 133 ≤ d) (x1 : Int32) (x2 : Int32) (x3 : Int32) (σ : jx_S) (t : jx_S) (res : Option Value × jx_S) (h : p_cMac_workLet_68 x1 x2 x3 σ = some t) (hK : kkV t res) : jE d 119 68 [(0, .ref 8), (1, .int x1), (2, .int x2), (3, .int x3)] [] σ res := by
  unfold p_cMac_workLet_68 at h
  refine jE_blk (bs := [(.aload_n 0, 0, 0), (.getfield 26, 8, 5), (.getfield 233, 9, 6), (.iload_n 3, 0, 0), (.iload_n 2, 0, 0)]) (i := .ifCond .ne (20)) (a1 := 0) (a2 := 0) (pc1 := 77) (l1 := [(0, .ref 8), (1, .int x1), (2, .int x2), (3, .int x3)]) (st1 := [.int x2, .int x3, .ref 96]) (σ1 := σ) (by decide +kernel) rfl (fun hC => ?_)
  rcases Classical.em (¬ x2 = 0) with hc | hc
  · rw [if_pos hc] at h
    refine jE_ifT 97 hC (by decide) hc ?_
    refine jE_blk (bs := [(.aload_n 0, 0, 0), (.getfield 113, 8, 15)]) (i := .invokevirtual 98) (a1 := 141) (a2 := 0) (pc1 := 101) (l1 := [(0, .ref 8), (1, .int x1), (2, .int x2), (3, .int x3)]) (st1 := [.long (σ.2 8 15), .int x3, .ref 96]) (σ1 := σ) (by decide +kernel) rfl (fun hC => ?_)
    exact jE_loc (l := [(0, .ref 8), (1, .int x1)]) (ks := [0, 1]) rfl (by decide) ⟨rfl, rfl, trivial⟩ (x_cMac_workLet_101 d hd x1 (σ.2 8 15) x3 σ _ res h hK)
  · rw [if_neg hc] at h
    refine jE_ifF 97 hC (by decide) hc ?_
    refine jE_blk (bs := [(.aload_n 0, 0, 0), (.aload_n 0, 0, 0), (.getfield 53, 8, 3), (.iload_n 1, 0, 0), (.iconst (0), 0, 0)]) (i := .invokevirtual 239) (a1 := 31) (a2 := 0) (pc1 := 87) (l1 := [(0, .ref 8), (1, .int x1), (2, .int x2), (3, .int x3)]) (st1 := [.int (0 : Int32), .int x1, .ref 3, .ref 8, .int x3, .ref 96]) (σ1 := σ) (by decide +kernel) rfl (fun hC => ?_)
    obtain ⟨q3, hq, h⟩ := Option.bind_eq_some_iff.mp h
    refine jE_call (as := [.ref 3, .int x1, .int (0 : Int32)]) (pc1 := 90) (st1 := [.ref 8, .int x3, .ref 96]) hC rfl (by decide) (by omega) (x_cTre_part (d - 1) (by omega) x1 (0 : Int32) σ q3 (some (.int q3.1), q3.2) hq rfl) ?_
    refine jE_blk (bs := [(.iconst (0), 0, 0)]) (i := .invokevirtual 245) (a1 := 127) (a2 := 0) (pc1 := 91) (l1 := [(0, .ref 8), (1, .int x1), (2, .int x2), (3, .int x3)]) (st1 := [.int (0 : Int32), .int q3.1, .ref 8, .int x3, .ref 96]) (σ1 := q3.2) (by decide +kernel) rfl (fun hC => ?_)
    obtain ⟨q4, hq, h⟩ := Option.bind_eq_some_iff.mp h
    refine jE_call (as := [.ref 8, .int q3.1, .int (0 : Int32)]) (pc1 := 94) (st1 := [.int x3, .ref 96]) hC rfl (by decide) (by omega) (x_cMac_putOff 33 (d - 1) (by omega) q3.1 (0 : Int32) q3.2 q4 (some (.long q4.1), q4.2) hq rfl) ?_
    refine jE_blk (bs := [(.goto (7), 0, 0)]) (i := .invokevirtual 98) (a1 := 141) (a2 := 0) (pc1 := 101) (l1 := [(0, .ref 8), (1, .int x1), (2, .int x2), (3, .int x3)]) (st1 := [.long q4.1, .int x3, .ref 96]) (σ1 := q4.2) (by decide +kernel) rfl (fun hC => ?_)
    exact jE_loc (l := [(0, .ref 8), (1, .int x1)]) (ks := [0, 1]) rfl (by decide) ⟨rfl, rfl, trivial⟩ (x_cMac_workLet_101 d hd x1 q4.1 x3 q4.2 _ res h hK)
def p_cMac_workLet (x1 : Int32) (x2 : Int32) (σ : jx_S) : Option jx_S := (if ¬ x2 = 0 then (p_cMac_workLet_68 x1 x2 ((v_cMac_frame σ) + (jI_at 1201 (σ.1 33) x1)) σ) else (if (σ.1 8 13) = 0 then (p_cMac_workLet_68 x1 x2 ((v_cMac_frame σ) + (jI_at 1201 (σ.1 33) x1)) σ) else (if ¬ (jI_at 1201 (σ.1 39) x1) = (1 : Int32) then (p_cMac_workLet_68 x1 x2 ((v_cMac_frame σ) + (jI_at 1201 (σ.1 33) x1)) σ) else ((p_cTre_part x1 (0 : Int32) (jI_put 10 σ 71 (9 : Int32) (jI_at 10 (σ.1 71) (9 : Int32) + (1 : Int32)))).bind fun q5 => ((p_cMac_beginPart q5.1 (1 : Int32) q5.2).bind fun q6 => (some (q6)))))))
theorem x_cMac_workLet (d : Nat) (hd : 133 ≤ d) (x1 : Int32) (x2 : Int32) (σ : jx_S) (t : jx_S) (res : Option Value × jx_S) (h : p_cMac_workLet x1 x2 σ = some t) (hK : kkV t res) : jE d 119 0 [(0, .ref 8), (1, .int x1), (2, .int x2)] [] σ res := by
  unfold p_cMac_workLet at h
  refine jE_blk (bs := [(.aload_n 0, 0, 0)]) (i := .invokevirtual 175) (a1 := 112) (a2 := 0) (pc1 := 1) (l1 := [(0, .ref 8), (1, .int x1), (2, .int x2)]) (st1 := [.ref 8]) (σ1 := σ) (by decide +kernel) rfl (fun hC => ?_)
  refine jE_call (as := [.ref 8]) (pc1 := 4) (st1 := []) hC rfl (by decide) (by omega) (xv_cMac_frame (d - 1) (by omega) σ) ?_
  refine jE_blk (bs := [(.aload_n 0, 0, 0), (.getfield 53, 8, 3), (.getfield 236, 3, 5), (.iload_n 1, 0, 0)]) (i := .invokevirtual 90) (a1 := 136) (a2 := 0) (pc1 := 12) (l1 := [(0, .ref 8), (1, .int x1), (2, .int x2)]) (st1 := [.int x1, .ref 32, .int (v_cMac_frame σ)]) (σ1 := σ) (by decide +kernel) rfl (fun hC => ?_)
  refine jE_call (as := [.ref 32, .int x1]) (pc1 := 15) (st1 := [.int (v_cMac_frame σ)]) hC rfl (by decide) (by omega) (xI_at (d - 1) 32 1201 x1 σ (by decide) rfl rfl) ?_
  refine jE_blk (bs := [(.iadd, 0, 0), (.istore_n 3, 4, 0), (.iload_n 2, 0, 0)]) (i := .ifCond .ne (50)) (a1 := 0) (a2 := 0) (pc1 := 18) (l1 := [(3, .int ((v_cMac_frame σ) + (jI_at 1201 (σ.1 33) x1))), (0, .ref 8), (1, .int x1), (2, .int x2)]) (st1 := [.int x2]) (σ1 := σ) (by decide +kernel) rfl (fun hC => ?_)
  rcases Classical.em (¬ x2 = 0) with hc | hc
  · rw [if_pos hc] at h
    refine jE_ifT 68 hC (by decide) hc ?_
    exact jE_loc (l := [(0, .ref 8), (1, .int x1), (2, .int x2), (3, .int ((v_cMac_frame σ) + (jI_at 1201 (σ.1 33) x1)))]) (ks := [0, 1, 2, 3]) rfl (by decide) ⟨rfl, rfl, rfl, rfl, trivial⟩ (x_cMac_workLet_68 d hd x1 x2 ((v_cMac_frame σ) + (jI_at 1201 (σ.1 33) x1)) σ _ res h hK)
  · rw [if_neg hc] at h
    refine jE_ifF 68 hC (by decide) hc ?_
    refine jE_blk (bs := [(.aload_n 0, 0, 0), (.getfield 72, 8, 13)]) (i := .ifCond .eq (43)) (a1 := 0) (a2 := 0) (pc1 := 25) (l1 := [(3, .int ((v_cMac_frame σ) + (jI_at 1201 (σ.1 33) x1))), (0, .ref 8), (1, .int x1), (2, .int x2)]) (st1 := [.int (σ.1 8 13)]) (σ1 := σ) (by decide +kernel) rfl (fun hC => ?_)
    rcases Classical.em ((σ.1 8 13) = 0) with hc | hc
    · rw [if_pos hc] at h
      refine jE_ifT 68 hC (by decide) hc ?_
      exact jE_loc (l := [(0, .ref 8), (1, .int x1), (2, .int x2), (3, .int ((v_cMac_frame σ) + (jI_at 1201 (σ.1 33) x1)))]) (ks := [0, 1, 2, 3]) rfl (by decide) ⟨rfl, rfl, rfl, rfl, trivial⟩ (x_cMac_workLet_68 d hd x1 x2 ((v_cMac_frame σ) + (jI_at 1201 (σ.1 33) x1)) σ _ res h hK)
    · rw [if_neg hc] at h
      refine jE_ifF 68 hC (by decide) hc ?_
      refine jE_blk (bs := [(.aload_n 0, 0, 0), (.getfield 53, 8, 3), (.getfield 247, 3, 8), (.iload_n 1, 0, 0)]) (i := .invokevirtual 90) (a1 := 136) (a2 := 0) (pc1 := 36) (l1 := [(3, .int ((v_cMac_frame σ) + (jI_at 1201 (σ.1 33) x1))), (0, .ref 8), (1, .int x1), (2, .int x2)]) (st1 := [.int x1, .ref 38]) (σ1 := σ) (by decide +kernel) rfl (fun hC => ?_)
      refine jE_call (as := [.ref 38, .int x1]) (pc1 := 39) (st1 := []) hC rfl (by decide) (by omega) (xI_at (d - 1) 38 1201 x1 σ (by decide) rfl rfl) ?_
      refine jE_blk (bs := [(.iconst (1), 1, 0)]) (i := .if_icmp .ne (28)) (a1 := 0) (a2 := 0) (pc1 := 40) (l1 := [(3, .int ((v_cMac_frame σ) + (jI_at 1201 (σ.1 33) x1))), (0, .ref 8), (1, .int x1), (2, .int x2)]) (st1 := [.int (1 : Int32), .int (jI_at 1201 (σ.1 39) x1)]) (σ1 := σ) (by decide +kernel) rfl (fun hC => ?_)
      rcases Classical.em (¬ (jI_at 1201 (σ.1 39) x1) = (1 : Int32)) with hc | hc
      · rw [if_pos hc] at h
        refine jE_icT 68 hC (by decide) hc ?_
        exact jE_loc (l := [(0, .ref 8), (1, .int x1), (2, .int x2), (3, .int ((v_cMac_frame σ) + (jI_at 1201 (σ.1 33) x1)))]) (ks := [0, 1, 2, 3]) rfl (by decide) ⟨rfl, rfl, rfl, rfl, trivial⟩ (x_cMac_workLet_68 d hd x1 x2 ((v_cMac_frame σ) + (jI_at 1201 (σ.1 33) x1)) σ _ res h hK)
      · rw [if_neg hc] at h
        refine jE_icF 68 hC (by decide) hc ?_
        refine jE_blk (bs := [(.aload_n 0, 0, 0), (.getfield 14, 8, 0), (.bipush (9), 9, 0), (.iconst (1), 1, 0)]) (i := .invokevirtual 250) (a1 := 138) (a2 := 0) (pc1 := 50) (l1 := [(3, .int ((v_cMac_frame σ) + (jI_at 1201 (σ.1 33) x1))), (0, .ref 8), (1, .int x1), (2, .int x2)]) (st1 := [.int (1 : Int32), .int (9 : Int32), .ref 70]) (σ1 := σ) (by decide +kernel) rfl (fun hC => ?_)
        refine jE_call (as := [.ref 70, .int (9 : Int32), .int (1 : Int32)]) (pc1 := 53) (st1 := []) hC rfl (by decide) (by omega) (xI_add (d - 1) 70 10 (9 : Int32) (1 : Int32) σ (by omega) (by decide) rfl rfl) ?_
        refine jE_blk (bs := [(.aload_n 0, 0, 0), (.aload_n 0, 0, 0), (.getfield 53, 8, 3), (.iload_n 1, 0, 0), (.iconst (0), 0, 0)]) (i := .invokevirtual 239) (a1 := 31) (a2 := 0) (pc1 := 60) (l1 := [(3, .int ((v_cMac_frame σ) + (jI_at 1201 (σ.1 33) x1))), (0, .ref 8), (1, .int x1), (2, .int x2)]) (st1 := [.int (0 : Int32), .int x1, .ref 3, .ref 8]) (σ1 := (jI_put 10 σ 71 (9 : Int32) (jI_at 10 (σ.1 71) (9 : Int32) + (1 : Int32)))) (by decide +kernel) rfl (fun hC => ?_)
        obtain ⟨q5, hq, h⟩ := Option.bind_eq_some_iff.mp h
        refine jE_call (as := [.ref 3, .int x1, .int (0 : Int32)]) (pc1 := 63) (st1 := [.ref 8]) hC rfl (by decide) (by omega) (x_cTre_part (d - 1) (by omega) x1 (0 : Int32) (jI_put 10 σ 71 (9 : Int32) (jI_at 10 (σ.1 71) (9 : Int32) + (1 : Int32))) q5 (some (.int q5.1), q5.2) hq rfl) ?_
        refine jE_blk (bs := [(.iconst (1), 1, 0)]) (i := .invokevirtual 242) (a1 := 109) (a2 := 0) (pc1 := 64) (l1 := [(3, .int ((v_cMac_frame σ) + (jI_at 1201 (σ.1 33) x1))), (0, .ref 8), (1, .int x1), (2, .int x2)]) (st1 := [.int (1 : Int32), .int q5.1, .ref 8]) (σ1 := q5.2) (by decide +kernel) rfl (fun hC => ?_)
        obtain ⟨q6, hq, h⟩ := Option.bind_eq_some_iff.mp h
        refine jE_call (as := [.ref 8, .int q5.1, .int (1 : Int32)]) (pc1 := 67) (st1 := []) hC rfl (by decide) (by omega) (x_cMac_beginPart (d - 1) (by omega) q5.1 (1 : Int32) q5.2 q6 (none, q6) hq rfl) ?_
        refine jE_blk (bs := []) (i := .return_) (a1 := 0) (a2 := 0) (pc1 := 67) (l1 := [(3, .int ((v_cMac_frame σ) + (jI_at 1201 (σ.1 33) x1))), (0, .ref 8), (1, .int x1), (2, .int x2)]) (st1 := []) (σ1 := q6) (by decide +kernel) rfl (fun hC => ?_)
        have h9 := Option.some.inj h
        subst h9
        have e9 : ((none, q6) : Option Value × jx_S) = res := hK
        subst e9
        exact jE_ret hC rfl
def p_cMac_workIf_42 (y0 : Int32) (y1 : Int32) (σ : jx_S) : Option jx_S := ((p_cTre_part y1 y0 σ).bind fun q1 => ((p_cMac_beginPart q1.1 (100 : Int32) q1.2).bind fun q2 => (some (q2))))
theorem x_cMac_workIf_42 (d : Nat) (hd : 3 ≤ d) (y0 : Int32) (y1 : Int32) (σ : jx_S) (t : jx_S) (res : Option Value × jx_S) (h : p_cMac_workIf_42 y0 y1 σ = some t) (hK : kkV t res) : jE d 116 42 [] [.int y0, .int y1, .ref 3, .ref 8] σ res := by
  unfold p_cMac_workIf_42 at h
  refine jE_blk (bs := []) (i := .invokevirtual 239) (a1 := 31) (a2 := 0) (pc1 := 42) (l1 := []) (st1 := [.int y0, .int y1, .ref 3, .ref 8]) (σ1 := σ) (by decide +kernel) rfl (fun hC => ?_)
  obtain ⟨q1, hq, h⟩ := Option.bind_eq_some_iff.mp h
  refine jE_call (as := [.ref 3, .int y1, .int y0]) (pc1 := 45) (st1 := [.ref 8]) hC rfl (by decide) (by omega) (x_cTre_part (d - 1) (by omega) y1 y0 σ q1 (some (.int q1.1), q1.2) hq rfl) ?_
  refine jE_blk (bs := [(.bipush (100), 100, 0)]) (i := .invokevirtual 242) (a1 := 109) (a2 := 0) (pc1 := 47) (l1 := []) (st1 := [.int (100 : Int32), .int q1.1, .ref 8]) (σ1 := q1.2) (by decide +kernel) rfl (fun hC => ?_)
  obtain ⟨q2, hq, h⟩ := Option.bind_eq_some_iff.mp h
  refine jE_call (as := [.ref 8, .int q1.1, .int (100 : Int32)]) (pc1 := 50) (st1 := []) hC rfl (by decide) (by omega) (x_cMac_beginPart (d - 1) (by omega) q1.1 (100 : Int32) q1.2 q2 (none, q2) hq rfl) ?_
  refine jE_blk (bs := []) (i := .return_) (a1 := 0) (a2 := 0) (pc1 := 50) (l1 := []) (st1 := []) (σ1 := q2) (by decide +kernel) rfl (fun hC => ?_)
  have h9 := Option.some.inj h
  subst h9
  have e9 : ((none, q2) : Option Value × jx_S) = res := hK
  subst e9
  exact jE_ret hC rfl
def p_cMac_workIf (x1 : Int32) (x2 : Int32) (σ : jx_S) : Option jx_S := (if ¬ x2 = 0 then (if (v_cHea_numberOf (σ.2 8 15) σ) = 0 then (p_cMac_workIf_42 (2 : Int32) x1 σ) else (p_cMac_workIf_42 (1 : Int32) x1 σ)) else ((p_cTre_part x1 (0 : Int32) σ).bind fun q3 => ((p_cMac_beginPart q3.1 (1 : Int32) q3.2).bind fun q4 => (some (q4)))))
theorem x_cMac_workIf (d : Nat) (hd : 3 ≤ d) (x1 : Int32) (x2 : Int32) (σ : jx_S) (t : jx_S) (res : Option Value × jx_S) (h : p_cMac_workIf x1 x2 σ = some t) (hK : kkV t res) : jE d 116 0 [(0, .ref 8), (1, .int x1), (2, .int x2)] [] σ res := by
  unfold p_cMac_workIf at h
  refine jE_blk (bs := [(.iload_n 2, 0, 0)]) (i := .ifCond .ne (20)) (a1 := 0) (a2 := 0) (pc1 := 1) (l1 := [(0, .ref 8), (1, .int x1), (2, .int x2)]) (st1 := [.int x2]) (σ1 := σ) (by decide +kernel) rfl (fun hC => ?_)
  rcases Classical.em (¬ x2 = 0) with hc | hc
  · rw [if_pos hc] at h
    refine jE_ifT 21 hC (by decide) hc ?_
    refine jE_blk (bs := [(.aload_n 0, 0, 0), (.aload_n 0, 0, 0), (.getfield 53, 8, 3), (.iload_n 1, 0, 0), (.aload_n 0, 0, 0), (.getfield 113, 8, 15)]) (i := .invokestatic 117) (a1 := 131) (a2 := 0) (pc1 := 31) (l1 := [(0, .ref 8), (1, .int x1), (2, .int x2)]) (st1 := [.long (σ.2 8 15), .int x1, .ref 3, .ref 8]) (σ1 := σ) (by decide +kernel) rfl (fun hC => ?_)
    refine jE_call (as := [.long (σ.2 8 15)]) (pc1 := 34) (st1 := [.int x1, .ref 3, .ref 8]) hC rfl (by decide) (by omega) (xv_cHea_numberOf (d - 1) (by omega) (σ.2 8 15) σ) ?_
    refine jE_blk (bs := []) (i := .ifCond .eq (7)) (a1 := 0) (a2 := 0) (pc1 := 34) (l1 := [(0, .ref 8), (1, .int x1), (2, .int x2)]) (st1 := [.int (v_cHea_numberOf (σ.2 8 15) σ), .int x1, .ref 3, .ref 8]) (σ1 := σ) (by decide +kernel) rfl (fun hC => ?_)
    rcases Classical.em ((v_cHea_numberOf (σ.2 8 15) σ) = 0) with hc | hc
    · rw [if_pos hc] at h
      refine jE_ifT 41 hC (by decide) hc ?_
      refine jE_blk (bs := [(.iconst (2), 2, 0)]) (i := .invokevirtual 239) (a1 := 31) (a2 := 0) (pc1 := 42) (l1 := [(0, .ref 8), (1, .int x1), (2, .int x2)]) (st1 := [.int (2 : Int32), .int x1, .ref 3, .ref 8]) (σ1 := σ) (by decide +kernel) rfl (fun hC => ?_)
      exact jE_loc (l := []) (ks := []) rfl (by decide) trivial (x_cMac_workIf_42 d hd (2 : Int32) x1 σ _ res h hK)
    · rw [if_neg hc] at h
      refine jE_ifF 41 hC (by decide) hc ?_
      refine jE_blk (bs := [(.iconst (1), 1, 0), (.goto (4), 0, 0)]) (i := .invokevirtual 239) (a1 := 31) (a2 := 0) (pc1 := 42) (l1 := [(0, .ref 8), (1, .int x1), (2, .int x2)]) (st1 := [.int (1 : Int32), .int x1, .ref 3, .ref 8]) (σ1 := σ) (by decide +kernel) rfl (fun hC => ?_)
      exact jE_loc (l := []) (ks := []) rfl (by decide) trivial (x_cMac_workIf_42 d hd (1 : Int32) x1 σ _ res h hK)
  · rw [if_neg hc] at h
    refine jE_ifF 21 hC (by decide) hc ?_
    refine jE_blk (bs := [(.aload_n 0, 0, 0), (.aload_n 0, 0, 0), (.getfield 53, 8, 3), (.iload_n 1, 0, 0), (.iconst (0), 0, 0)]) (i := .invokevirtual 239) (a1 := 31) (a2 := 0) (pc1 := 11) (l1 := [(0, .ref 8), (1, .int x1), (2, .int x2)]) (st1 := [.int (0 : Int32), .int x1, .ref 3, .ref 8]) (σ1 := σ) (by decide +kernel) rfl (fun hC => ?_)
    obtain ⟨q3, hq, h⟩ := Option.bind_eq_some_iff.mp h
    refine jE_call (as := [.ref 3, .int x1, .int (0 : Int32)]) (pc1 := 14) (st1 := [.ref 8]) hC rfl (by decide) (by omega) (x_cTre_part (d - 1) (by omega) x1 (0 : Int32) σ q3 (some (.int q3.1), q3.2) hq rfl) ?_
    refine jE_blk (bs := [(.iconst (1), 1, 0)]) (i := .invokevirtual 242) (a1 := 109) (a2 := 0) (pc1 := 15) (l1 := [(0, .ref 8), (1, .int x1), (2, .int x2)]) (st1 := [.int (1 : Int32), .int q3.1, .ref 8]) (σ1 := q3.2) (by decide +kernel) rfl (fun hC => ?_)
    obtain ⟨q4, hq, h⟩ := Option.bind_eq_some_iff.mp h
    refine jE_call (as := [.ref 8, .int q3.1, .int (1 : Int32)]) (pc1 := 18) (st1 := []) hC rfl (by decide) (by omega) (x_cMac_beginPart (d - 1) (by omega) q3.1 (1 : Int32) q3.2 q4 (none, q4) hq rfl) ?_
    refine jE_blk (bs := [(.goto (32), 0, 0)]) (i := .return_) (a1 := 0) (a2 := 0) (pc1 := 50) (l1 := [(0, .ref 8), (1, .int x1), (2, .int x2)]) (st1 := []) (σ1 := q4) (by decide +kernel) rfl (fun hC => ?_)
    have h9 := Option.some.inj h
    subst h9
    have e9 : ((none, q4) : Option Value × jx_S) = res := hK
    subst e9
    exact jE_ret hC rfl
