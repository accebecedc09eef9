def p_cMac_workCase_132 (y0 : Int32) (y1 : Int32) (σ : jx_S) : Option jx_S := ((p_cTre_part y1 y0 σ).bind fun q1 => ((p_cMac_beginPart q1.1 (100 : Int32) q1.2).bind fun q2 => (some (q2))))
theorem x_cMac_workCase_132 (d : Nat) (hd : 3 ≤ d) (y0 : Int32) (y1 : Int32) (σ : jx_S) (t : jx_S) (res : Option Value × jx_S) (h : p_cMac_workCase_132 y0 y1 σ = some t) (hK : kkV t res) : jE d 117 132 [] [.int y0, .int y1, .ref 3, .ref 8] σ res := by
  unfold p_cMac_workCase_132 at h
  refine jE_blk (bs := []) (i := .invokevirtual 239) (a1 := 31) (a2 := 0) (pc1 := 132) (l1 := []) (st1 := [.int y0, .int y1, .ref 3, .ref 8]) (σ1 := σ) (by decide +kernel) rfl (fun hC => ?_)
  obtain ⟨q1, hq, h⟩ := Option.bind_eq_some_iff.mp h
  refine jE_call (as := [.ref 3, .int y1, .int y0]) (pc1 := 135) (st1 := [.ref 8]) hC rfl (by decide) (by omega) (x_cTre_part (d - 1) (by omega) y1 y0 σ q1 (some (.int q1.1), q1.2) hq rfl) ?_
  refine jE_blk (bs := [(.bipush (100), 100, 0)]) (i := .invokevirtual 242) (a1 := 109) (a2 := 0) (pc1 := 137) (l1 := []) (st1 := [.int (100 : Int32), .int q1.1, .ref 8]) (σ1 := q1.2) (by decide +kernel) rfl (fun hC => ?_)
  obtain ⟨q2, hq, h⟩ := Option.bind_eq_some_iff.mp h
  refine jE_call (as := [.ref 8, .int q1.1, .int (100 : Int32)]) (pc1 := 140) (st1 := []) hC rfl (by decide) (by omega) (x_cMac_beginPart (d - 1) (by omega) q1.1 (100 : Int32) q1.2 q2 (none, q2) hq rfl) ?_
  refine jE_blk (bs := []) (i := .return_) (a1 := 0) (a2 := 0) (pc1 := 140) (l1 := []) (st1 := []) (σ1 := q2) (by decide +kernel) rfl (fun hC => ?_)
  have h9 := Option.some.inj h
  subst h9
  have e9 : ((none, q2) : Option Value × jx_S) = res := hK
  subst e9
  exact jE_ret hC rfl
def p_cMac_workCase (x1 : Int32) (x2 : Int32) (σ : jx_S) : Option jx_S := (if ¬ x2 = 0 then (if (v_cHea_tagOf (σ.2 8 15) σ) = (3 : Int32) then (p_cMac_workCase_132 (2 : Int32) x1 (jL_put 30000 (jL_put 30000 σ 97 ((v_cMac_frame σ) + (jI_at 1201 (σ.1 33) x1)) (jL_at 3000 (σ.2 85) (v_cHea_numberOf (σ.2 8 15) σ))) 97 (((v_cMac_frame σ) + (jI_at 1201 (σ.1 33) x1)) + (1 : Int32)) (jL_at 3000 (σ.2 87) (v_cHea_numberOf (σ.2 8 15) (jL_put 30000 σ 97 ((v_cMac_frame σ) + (jI_at 1201 (σ.1 33) x1)) (jL_at 3000 (σ.2 85) (v_cHea_numberOf (σ.2 8 15) σ))))))) else ((p_cTre_part x1 (1 : Int32) σ).bind fun q3 => ((p_cMac_beginPart q3.1 (100 : Int32) q3.2).bind fun q4 => (some (q4))))) else ((p_cTre_part x1 (0 : Int32) σ).bind fun q5 => ((p_cMac_beginPart q5.1 (1 : Int32) q5.2).bind fun q6 => (some (q6)))))
theorem x_cMac_workCase (d : Nat) (hd : 3 ≤ d) (x1 : Int32) (x2 : Int32) (σ : jx_S) (t : jx_S) (res : Option Value × jx_S) (h : p_cMac_workCase x1 x2 σ = some t) (hK : kkV t res) : jE d 117 0 [(0, .ref 8), (1, .int x1), (2, .int x2)] [] σ res := by
  unfold p_cMac_workCase at h
  refine jE_blk (bs := [(.iload_n 2, 0, 0)]) (i := .ifCond .ne (20)) (a1 := 0) (a2 := 0) (pc1 := 1) (l1 := [(0, .ref 8), (1, .int x1), (2, .int x2)]) (st1 := [.int x2]) (σ1 := σ) (by decide +kernel) rfl (fun hC => ?_)
  rcases Classical.em (¬ x2 = 0) with hc | hc
  · rw [if_pos hc] at h
    refine jE_ifT 21 hC (by decide) hc ?_
    refine jE_blk (bs := [(.aload_n 0, 0, 0), (.getfield 113, 8, 15)]) (i := .invokestatic 154) (a1 := 130) (a2 := 0) (pc1 := 25) (l1 := [(0, .ref 8), (1, .int x1), (2, .int x2)]) (st1 := [.long (σ.2 8 15)]) (σ1 := σ) (by decide +kernel) rfl (fun hC => ?_)
    refine jE_call (as := [.long (σ.2 8 15)]) (pc1 := 28) (st1 := []) hC rfl (by decide) (by omega) (xv_cHea_tagOf (d - 1) (by omega) (σ.2 8 15) σ) ?_
    refine jE_blk (bs := [(.iconst (3), 3, 0)]) (i := .if_icmp .eq (21)) (a1 := 0) (a2 := 0) (pc1 := 29) (l1 := [(0, .ref 8), (1, .int x1), (2, .int x2)]) (st1 := [.int (3 : Int32), .int (v_cHea_tagOf (σ.2 8 15) σ)]) (σ1 := σ) (by decide +kernel) rfl (fun hC => ?_)
    rcases Classical.em ((v_cHea_tagOf (σ.2 8 15) σ) = (3 : Int32)) with hc | hc
    · rw [if_pos hc] at h
      refine jE_icT 50 hC (by decide) hc ?_
      refine jE_blk (bs := [(.aload_n 0, 0, 0)]) (i := .invokevirtual 175) (a1 := 112) (a2 := 0) (pc1 := 51) (l1 := [(0, .ref 8), (1, .int x1), (2, .int x2)]) (st1 := [.ref 8]) (σ1 := σ) (by decide +kernel) rfl (fun hC => ?_)
      refine jE_call (as := [.ref 8]) (pc1 := 54) (st1 := []) hC rfl (by decide) (by omega) (xv_cMac_frame (d - 1) (by omega) σ) ?_
      refine jE_blk (bs := [(.aload_n 0, 0, 0), (.getfield 53, 8, 3), (.getfield 236, 3, 5), (.iload_n 1, 0, 0)]) (i := .invokevirtual 90) (a1 := 136) (a2 := 0) (pc1 := 62) (l1 := [(0, .ref 8), (1, .int x1), (2, .int x2)]) (st1 := [.int x1, .ref 32, .int (v_cMac_frame σ)]) (σ1 := σ) (by decide +kernel) rfl (fun hC => ?_)
      refine jE_call (as := [.ref 32, .int x1]) (pc1 := 65) (st1 := [.int (v_cMac_frame σ)]) hC rfl (by decide) (by omega) (xI_at (d - 1) 32 1201 x1 σ (by decide) rfl rfl) ?_
      refine jE_blk (bs := [(.iadd, 0, 0), (.istore_n 3, 4, 0), (.aload_n 0, 0, 0), (.getfield 26, 8, 5), (.getfield 233, 9, 6), (.iload_n 3, 0, 0), (.aload_n 0, 0, 0), (.getfield 26, 8, 5), (.getfield 157, 9, 0), (.aload_n 0, 0, 0), (.getfield 113, 8, 15)]) (i := .invokestatic 117) (a1 := 131) (a2 := 0) (pc1 := 86) (l1 := [(3, .int ((v_cMac_frame σ) + (jI_at 1201 (σ.1 33) x1))), (0, .ref 8), (1, .int x1), (2, .int x2)]) (st1 := [.long (σ.2 8 15), .ref 84, .int ((v_cMac_frame σ) + (jI_at 1201 (σ.1 33) x1)), .ref 96]) (σ1 := σ) (by decide +kernel) rfl (fun hC => ?_)
      refine jE_call (as := [.long (σ.2 8 15)]) (pc1 := 89) (st1 := [.ref 84, .int ((v_cMac_frame σ) + (jI_at 1201 (σ.1 33) x1)), .ref 96]) hC rfl (by decide) (by omega) (xv_cHea_numberOf (d - 1) (by omega) (σ.2 8 15) σ) ?_
      refine jE_blk (bs := []) (i := .invokevirtual 148) (a1 := 140) (a2 := 0) (pc1 := 89) (l1 := [(3, .int ((v_cMac_frame σ) + (jI_at 1201 (σ.1 33) x1))), (0, .ref 8), (1, .int x1), (2, .int x2)]) (st1 := [.int (v_cHea_numberOf (σ.2 8 15) σ), .ref 84, .int ((v_cMac_frame σ) + (jI_at 1201 (σ.1 33) x1)), .ref 96]) (σ1 := σ) (by decide +kernel) rfl (fun hC => ?_)
      refine jE_call (as := [.ref 84, .int (v_cHea_numberOf (σ.2 8 15) σ)]) (pc1 := 92) (st1 := [.int ((v_cMac_frame σ) + (jI_at 1201 (σ.1 33) x1)), .ref 96]) hC rfl (by decide) (by omega) (xL_at (d - 1) 84 3000 (v_cHea_numberOf (σ.2 8 15) σ) σ (by decide) rfl rfl) ?_
      refine jE_blk (bs := []) (i := .invokevirtual 98) (a1 := 141) (a2 := 0) (pc1 := 92) (l1 := [(3, .int ((v_cMac_frame σ) + (jI_at 1201 (σ.1 33) x1))), (0, .ref 8), (1, .int x1), (2, .int x2)]) (st1 := [.long (jL_at 3000 (σ.2 85) (v_cHea_numberOf (σ.2 8 15) σ)), .int ((v_cMac_frame σ) + (jI_at 1201 (σ.1 33) x1)), .ref 96]) (σ1 := σ) (by decide +kernel) rfl (fun hC => ?_)
      refine jE_call (as := [.ref 96, .int ((v_cMac_frame σ) + (jI_at 1201 (σ.1 33) x1)), .long (jL_at 3000 (σ.2 85) (v_cHea_numberOf (σ.2 8 15) σ))]) (pc1 := 95) (st1 := []) hC rfl (by decide) (by omega) (xL_put (d - 1) 96 30000 ((v_cMac_frame σ) + (jI_at 1201 (σ.1 33) x1)) (jL_at 3000 (σ.2 85) (v_cHea_numberOf (σ.2 8 15) σ)) σ (by decide) rfl rfl) ?_
      refine jE_blk (bs := [(.aload_n 0, 0, 0), (.getfield 26, 8, 5), (.getfield 233, 9, 6), (.iload_n 3, 0, 0), (.iconst (1), 1, 0), (.iadd, 0, 0), (.aload_n 0, 0, 0), (.getfield 26, 8, 5), (.getfield 142, 9, 1), (.aload_n 0, 0, 0), (.getfield 113, 8, 15)]) (i := .invokestatic 117) (a1 := 131) (a2 := 0) (pc1 := 116) (l1 := [(3, .int ((v_cMac_frame σ) + (jI_at 1201 (σ.1 33) x1))), (0, .ref 8), (1, .int x1), (2, .int x2)]) (st1 := [.long (σ.2 8 15), .ref 86, .int (((v_cMac_frame σ) + (jI_at 1201 (σ.1 33) x1)) + (1 : Int32)), .ref 96]) (σ1 := (jL_put 30000 σ 97 ((v_cMac_frame σ) + (jI_at 1201 (σ.1 33) x1)) (jL_at 3000 (σ.2 85) (v_cHea_numberOf (σ.2 8 15) σ)))) (by decide +kernel) rfl (fun hC => ?_)
      refine jE_call (as := [.long (σ.2 8 15)]) (pc1 := 119) (st1 := [.ref 86, .int (((v_cMac_frame σ) + (jI_at 1201 (σ.1 33) x1)) + (1 : Int32)), .ref 96]) hC rfl (by decide) (by omega) (xv_cHea_numberOf (d - 1) (by omega) (σ.2 8 15) (jL_put 30000 σ 97 ((v_cMac_frame σ) + (jI_at 1201 (σ.1 33) x1)) (jL_at 3000 (σ.2 85) (v_cHea_numberOf (σ.2 8 15) σ)))) ?_
      refine jE_blk (bs := []) (i := .invokevirtual 148) (a1 := 140) (a2 := 0) (pc1 := 119) (l1 := [(3, .int ((v_cMac_frame σ) + (jI_at 1201 (σ.1 33) x1))), (0, .ref 8), (1, .int x1), (2, .int x2)]) (st1 := [.int (v_cHea_numberOf (σ.2 8 15) (jL_put 30000 σ 97 ((v_cMac_frame σ) + (jI_at 1201 (σ.1 33) x1)) (jL_at 3000 (σ.2 85) (v_cHea_numberOf (σ.2 8 15) σ)))), .ref 86, .int (((v_cMac_frame σ) + (jI_at 1201 (σ.1 33) x1)) + (1 : Int32)), .ref 96]) (σ1 := (jL_put 30000 σ 97 ((v_cMac_frame σ) + (jI_at 1201 (σ.1 33) x1)) (jL_at 3000 (σ.2 85) (v_cHea_numberOf (σ.2 8 15) σ)))) (by decide +kernel) rfl (fun hC => ?_)
      refine jE_call (as := [.ref 86, .int (v_cHea_numberOf (σ.2 8 15) (jL_put 30000 σ 97 ((v_cMac_frame σ) + (jI_at 1201 (σ.1 33) x1)) (jL_at 3000 (σ.2 85) (v_cHea_numberOf (σ.2 8 15) σ))))]) (pc1 := 122) (st1 := [.int (((v_cMac_frame σ) + (jI_at 1201 (σ.1 33) x1)) + (1 : Int32)), .ref 96]) hC rfl (by decide) (by omega) (xL_at (d - 1) 86 3000 (v_cHea_numberOf (σ.2 8 15) (jL_put 30000 σ 97 ((v_cMac_frame σ) + (jI_at 1201 (σ.1 33) x1)) (jL_at 3000 (σ.2 85) (v_cHea_numberOf (σ.2 8 15) σ)))) (jL_put 30000 σ 97 ((v_cMac_frame σ) + (jI_at 1201 (σ.1 33) x1)) (jL_at 3000 (σ.2 85) (v_cHea_numberOf (σ.2 8 15) σ))) (by decide) rfl rfl) ?_
      refine jE_blk (bs := []) (i := .invokevirtual 98) (a1 := 141) (a2 := 0) (pc1 := 122) (l1 := [(3, .int ((v_cMac_frame σ) + (jI_at 1201 (σ.1 33) x1))), (0, .ref 8), (1, .int x1), (2, .int x2)]) (st1 := [.long (jL_at 3000 (σ.2 87) (v_cHea_numberOf (σ.2 8 15) (jL_put 30000 σ 97 ((v_cMac_frame σ) + (jI_at 1201 (σ.1 33) x1)) (jL_at 3000 (σ.2 85) (v_cHea_numberOf (σ.2 8 15) σ))))), .int (((v_cMac_frame σ) + (jI_at 1201 (σ.1 33) x1)) + (1 : Int32)), .ref 96]) (σ1 := (jL_put 30000 σ 97 ((v_cMac_frame σ) + (jI_at 1201 (σ.1 33) x1)) (jL_at 3000 (σ.2 85) (v_cHea_numberOf (σ.2 8 15) σ)))) (by decide +kernel) rfl (fun hC => ?_)
      refine jE_call (as := [.ref 96, .int (((v_cMac_frame σ) + (jI_at 1201 (σ.1 33) x1)) + (1 : Int32)), .long (jL_at 3000 (σ.2 87) (v_cHea_numberOf (σ.2 8 15) (jL_put 30000 σ 97 ((v_cMac_frame σ) + (jI_at 1201 (σ.1 33) x1)) (jL_at 3000 (σ.2 85) (v_cHea_numberOf (σ.2 8 15) σ)))))]) (pc1 := 125) (st1 := []) hC rfl (by decide) (by omega) (xL_put (d - 1) 96 30000 (((v_cMac_frame σ) + (jI_at 1201 (σ.1 33) x1)) + (1 : Int32)) (jL_at 3000 (σ.2 87) (v_cHea_numberOf (σ.2 8 15) (jL_put 30000 σ 97 ((v_cMac_frame σ) + (jI_at 1201 (σ.1 33) x1)) (jL_at 3000 (σ.2 85) (v_cHea_numberOf (σ.2 8 15) σ))))) (jL_put 30000 σ 97 ((v_cMac_frame σ) + (jI_at 1201 (σ.1 33) x1)) (jL_at 3000 (σ.2 85) (v_cHea_numberOf (σ.2 8 15) σ))) (by decide) rfl rfl) ?_
      refine jE_blk (bs := [(.aload_n 0, 0, 0), (.aload_n 0, 0, 0), (.getfield 53, 8, 3), (.iload_n 1, 0, 0), (.iconst (2), 2, 0)]) (i := .invokevirtual 239) (a1 := 31) (a2 := 0) (pc1 := 132) (l1 := [(3, .int ((v_cMac_frame σ) + (jI_at 1201 (σ.1 33) x1))), (0, .ref 8), (1, .int x1), (2, .int x2)]) (st1 := [.int (2 : Int32), .int x1, .ref 3, .ref 8]) (σ1 := (jL_put 30000 (jL_put 30000 σ 97 ((v_cMac_frame σ) + (jI_at 1201 (σ.1 33) x1)) (jL_at 3000 (σ.2 85) (v_cHea_numberOf (σ.2 8 15) σ))) 97 (((v_cMac_frame σ) + (jI_at 1201 (σ.1 33) x1)) + (1 : Int32)) (jL_at 3000 (σ.2 87) (v_cHea_numberOf (σ.2 8 15) (jL_put 30000 σ 97 ((v_cMac_frame σ) + (jI_at 1201 (σ.1 33) x1)) (jL_at 3000 (σ.2 85) (v_cHea_numberOf (σ.2 8 15) σ))))))) (by decide +kernel) rfl (fun hC => ?_)
      exact jE_loc (l := []) (ks := []) rfl (by decide) trivial (x_cMac_workCase_132 d hd (2 : Int32) x1 (jL_put 30000 (jL_put 30000 σ 97 ((v_cMac_frame σ) + (jI_at 1201 (σ.1 33) x1)) (jL_at 3000 (σ.2 85) (v_cHea_numberOf (σ.2 8 15) σ))) 97 (((v_cMac_frame σ) + (jI_at 1201 (σ.1 33) x1)) + (1 : Int32)) (jL_at 3000 (σ.2 87) (v_cHea_numberOf (σ.2 8 15) (jL_put 30000 σ 97 ((v_cMac_frame σ) + (jI_at 1201 (σ.1 33) x1)) (jL_at 3000 (σ.2 85) (v_cHea_numberOf (σ.2 8 15) σ)))))) _ res h hK)
    · rw [if_neg hc] at h
      refine jE_icF 50 hC (by decide) hc ?_
      refine jE_blk (bs := [(.aload_n 0, 0, 0), (.aload_n 0, 0, 0), (.getfield 53, 8, 3), (.iload_n 1, 0, 0), (.iconst (1), 1, 0)]) (i := .invokevirtual 239) (a1 := 31) (a2 := 0) (pc1 := 39) (l1 := [(0, .ref 8), (1, .int x1), (2, .int x2)]) (st1 := [.int (1 : Int32), .int x1, .ref 3, .ref 8]) (σ1 := σ) (by decide +kernel) rfl (fun hC => ?_)
      obtain ⟨q3, hq, h⟩ := Option.bind_eq_some_iff.mp h
      refine jE_call (as := [.ref 3, .int x1, .int (1 : Int32)]) (pc1 := 42) (st1 := [.ref 8]) hC rfl (by decide) (by omega) (x_cTre_part (d - 1) (by omega) x1 (1 : Int32) σ q3 (some (.int q3.1), q3.2) hq rfl) ?_
      refine jE_blk (bs := [(.bipush (100), 100, 0)]) (i := .invokevirtual 242) (a1 := 109) (a2 := 0) (pc1 := 44) (l1 := [(0, .ref 8), (1, .int x1), (2, .int x2)]) (st1 := [.int (100 : Int32), .int q3.1, .ref 8]) (σ1 := q3.2) (by decide +kernel) rfl (fun hC => ?_)
      obtain ⟨q4, hq, h⟩ := Option.bind_eq_some_iff.mp h
      refine jE_call (as := [.ref 8, .int q3.1, .int (100 : Int32)]) (pc1 := 47) (st1 := []) hC rfl (by decide) (by omega) (x_cMac_beginPart (d - 1) (by omega) q3.1 (100 : Int32) q3.2 q4 (none, q4) hq rfl) ?_
      refine jE_blk (bs := [(.goto (93), 0, 0)]) (i := .return_) (a1 := 0) (a2 := 0) (pc1 := 140) (l1 := [(0, .ref 8), (1, .int x1), (2, .int x2)]) (st1 := []) (σ1 := q4) (by decide +kernel) rfl (fun hC => ?_)
      have h9 := Option.some.inj h
      subst h9
      have e9 : ((none, q4) : Option Value × jx_S) = res := hK
      subst e9
      exact jE_ret hC rfl
  · rw [if_neg hc] at h
    refine jE_ifF 21 hC (by decide) hc ?_
    refine jE_blk (bs := [(.aload_n 0, 0, 0), (.aload_n 0, 0, 0), (.getfield 53, 8, 3), (.iload_n 1, 0, 0), (.iconst (0), 0, 0)]) (i := .invokevirtual 239) (a1 := 31) (a2 := 0) (pc1 := 11) (l1 := [(0, .ref 8), (1, .int x1), (2, .int x2)]) (st1 := [.int (0 : Int32), .int x1, .ref 3, .ref 8]) (σ1 := σ) (by decide +kernel) rfl (fun hC => ?_)
    obtain ⟨q5, hq, h⟩ := Option.bind_eq_some_iff.mp h
    refine jE_call (as := [.ref 3, .int x1, .int (0 : Int32)]) (pc1 := 14) (st1 := [.ref 8]) hC rfl (by decide) (by omega) (x_cTre_part (d - 1) (by omega) x1 (0 : Int32) σ q5 (some (.int q5.1), q5.2) hq rfl) ?_
    refine jE_blk (bs := [(.iconst (1), 1, 0)]) (i := .invokevirtual 242) (a1 := 109) (a2 := 0) (pc1 := 15) (l1 := [(0, .ref 8), (1, .int x1), (2, .int x2)]) (st1 := [.int (1 : Int32), .int q5.1, .ref 8]) (σ1 := q5.2) (by decide +kernel) rfl (fun hC => ?_)
    obtain ⟨q6, hq, h⟩ := Option.bind_eq_some_iff.mp h
    refine jE_call (as := [.ref 8, .int q5.1, .int (1 : Int32)]) (pc1 := 18) (st1 := []) hC rfl (by decide) (by omega) (x_cMac_beginPart (d - 1) (by omega) q5.1 (1 : Int32) q5.2 q6 (none, q6) hq rfl) ?_
    refine jE_blk (bs := [(.goto (122), 0, 0)]) (i := .return_) (a1 := 0) (a2 := 0) (pc1 := 140) (l1 := [(0, .ref 8), (1, .int x1), (2, .int x2)]) (st1 := []) (σ1 := q6) (by decide +kernel) rfl (fun hC => ?_)
    have h9 := Option.some.inj h
    subst h9
    have e9 : ((none, q6) : Option Value × jx_S) = res := hK
    subst e9
    exact jE_ret hC rfl
def p_cMac_workCons (x1 : Int32) (σ : jx_S) : Option jx_S := (if ¬ (σ.1 9 11) = (3000 : Int32) then ((p_cTre_part x1 (0 : Int32) (jx_i σ 9 11 ((σ.1 9 11) + (1 : Int32)))).bind fun q1 => ((p_cMac_putOff 33 q1.1 (0 : Int32) q1.2).bind fun q2 => ((p_cTre_part x1 (1 : Int32) (jL_put 3000 q2.2 85 (σ.1 9 11) q2.1)).bind fun q3 => ((p_cMac_putOff 33 q3.1 (0 : Int32) q3.2).bind fun q4 => ((p_cMac_finish (v_cHea_hold (3 : Int32) (σ.1 9 11) (jL_put 3000 q4.2 87 (σ.1 9 11) q4.1)) (jL_put 3000 q4.2 87 (σ.1 9 11) q4.1)).bind fun q5 => (some (q5))))))) else (some ((jx_i σ 8 14 (5 : Int32)))))
theorem x_cMac_workCons (d : Nat) (hd : 133 ≤ d) (x1 : Int32) (σ : jx_S) (t : jx_S) (res : Option Value × jx_S) (h : p_cMac_workCons x1 σ = some t) (hK : kkV t res) : jE d 118 0 [(0, .ref 8), (1, .int x1)] [] σ res := by
  unfold p_cMac_workCons at h
  refine jE_blk (bs := [(.aload_n 0, 0, 0), (.getfield 26, 8, 5), (.getfield 132, 9, 11), (.sipush (3000), 3000, 0)]) (i := .if_icmp .ne (9)) (a1 := 0) (a2 := 0) (pc1 := 10) (l1 := [(0, .ref 8), (1, .int x1)]) (st1 := [.int (3000 : Int32), .int (σ.1 9 11)]) (σ1 := σ) (by decide +kernel) rfl (fun hC => ?_)
  rcases Classical.em (¬ (σ.1 9 11) = (3000 : Int32)) with hc | hc
  · rw [if_pos hc] at h
    refine jE_icT 19 hC (by decide) hc ?_
    refine jE_blk (bs := [(.aload_n 0, 0, 0), (.getfield 26, 8, 5), (.getfield 132, 9, 11), (.istore_n 2, 3, 0), (.aload_n 0, 0, 0), (.getfield 26, 8, 5), (.dup, 0, 0), (.getfield 132, 9, 11), (.iconst (1), 1, 0), (.iadd, 0, 0), (.putfield 132, 9, 11), (.aload_n 0, 0, 0), (.getfield 26, 8, 5), (.getfield 157, 9, 0), (.iload_n 2, 0, 0), (.aload_n 0, 0, 0), (.aload_n 0, 0, 0), (.getfield 53, 8, 3), (.iload_n 1, 0, 0), (.iconst (0), 0, 0)]) (i := .invokevirtual 239) (a1 := 31) (a2 := 0) (pc1 := 55) (l1 := [(2, .int (σ.1 9 11)), (0, .ref 8), (1, .int x1)]) (st1 := [.int (0 : Int32), .int x1, .ref 3, .ref 8, .int (σ.1 9 11), .ref 84]) (σ1 := (jx_i σ 9 11 ((σ.1 9 11) + (1 : Int32)))) (by decide +kernel) rfl (fun hC => ?_)
    obtain ⟨q1, hq, h⟩ := Option.bind_eq_some_iff.mp h
    refine jE_call (as := [.ref 3, .int x1, .int (0 : Int32)]) (pc1 := 58) (st1 := [.ref 8, .int (σ.1 9 11), .ref 84]) hC rfl (by decide) (by omega) (x_cTre_part (d - 1) (by omega) x1 (0 : Int32) (jx_i σ 9 11 ((σ.1 9 11) + (1 : Int32))) q1 (some (.int q1.1), q1.2) hq rfl) ?_
    refine jE_blk (bs := [(.iconst (0), 0, 0)]) (i := .invokevirtual 245) (a1 := 127) (a2 := 0) (pc1 := 59) (l1 := [(2, .int (σ.1 9 11)), (0, .ref 8), (1, .int x1)]) (st1 := [.int (0 : Int32), .int q1.1, .ref 8, .int (σ.1 9 11), .ref 84]) (σ1 := q1.2) (by decide +kernel) rfl (fun hC => ?_)
    obtain ⟨q2, hq, h⟩ := Option.bind_eq_some_iff.mp h
    refine jE_call (as := [.ref 8, .int q1.1, .int (0 : Int32)]) (pc1 := 62) (st1 := [.int (σ.1 9 11), .ref 84]) hC rfl (by decide) (by omega) (x_cMac_putOff 33 (d - 1) (by omega) q1.1 (0 : Int32) q1.2 q2 (some (.long q2.1), q2.2) hq rfl) ?_
    refine jE_blk (bs := []) (i := .invokevirtual 98) (a1 := 141) (a2 := 0) (pc1 := 62) (l1 := [(2, .int (σ.1 9 11)), (0, .ref 8), (1, .int x1)]) (st1 := [.long q2.1, .int (σ.1 9 11), .ref 84]) (σ1 := q2.2) (by decide +kernel) rfl (fun hC => ?_)
    refine jE_call (as := [.ref 84, .int (σ.1 9 11), .long q2.1]) (pc1 := 65) (st1 := []) hC rfl (by decide) (by omega) (xL_put (d - 1) 84 3000 (σ.1 9 11) q2.1 q2.2 (by decide) rfl rfl) ?_
    refine jE_blk (bs := [(.aload_n 0, 0, 0), (.getfield 26, 8, 5), (.getfield 142, 9, 1), (.iload_n 2, 0, 0), (.aload_n 0, 0, 0), (.aload_n 0, 0, 0), (.getfield 53, 8, 3), (.iload_n 1, 0, 0), (.iconst (1), 1, 0)]) (i := .invokevirtual 239) (a1 := 31) (a2 := 0) (pc1 := 80) (l1 := [(2, .int (σ.1 9 11)), (0, .ref 8), (1, .int x1)]) (st1 := [.int (1 : Int32), .int x1, .ref 3, .ref 8, .int (σ.1 9 11), .ref 86]) (σ1 := (jL_put 3000 q2.2 85 (σ.1 9 11) q2.1)) (by decide +kernel) rfl (fun hC => ?_)
    obtain ⟨q3, hq, h⟩ := Option.bind_eq_some_iff.mp h
    refine jE_call (as := [.ref 3, .int x1, .int (1 : Int32)]) (pc1 := 83) (st1 := [.ref 8, .int (σ.1 9 11), .ref 86]) hC rfl (by decide) (by omega) (x_cTre_part (d - 1) (by omega) x1 (1 : Int32) (jL_put 3000 q2.2 85 (σ.1 9 11) q2.1) q3 (some (.int q3.1), q3.2) hq rfl) ?_
    refine jE_blk (bs := [(.iconst (0), 0, 0)]) (i := .invokevirtual 245) (a1 := 127) (a2 := 0) (pc1 := 84) (l1 := [(2, .int (σ.1 9 11)), (0, .ref 8), (1, .int x1)]) (st1 := [.int (0 : Int32), .int q3.1, .ref 8, .int (σ.1 9 11), .ref 86]) (σ1 := q3.2) (by decide +kernel) rfl (fun hC => ?_)
    obtain ⟨q4, hq, h⟩ := Option.bind_eq_some_iff.mp h
    refine jE_call (as := [.ref 8, .int q3.1, .int (0 : Int32)]) (pc1 := 87) (st1 := [.int (σ.1 9 11), .ref 86]) hC rfl (by decide) (by omega) (x_cMac_putOff 33 (d - 1) (by omega) q3.1 (0 : Int32) q3.2 q4 (some (.long q4.1), q4.2) hq rfl) ?_
    refine jE_blk (bs := []) (i := .invokevirtual 98) (a1 := 141) (a2 := 0) (pc1 := 87) (l1 := [(2, .int (σ.1 9 11)), (0, .ref 8), (1, .int x1)]) (st1 := [.long q4.1, .int (σ.1 9 11), .ref 86]) (σ1 := q4.2) (by decide +kernel) rfl (fun hC => ?_)
    refine jE_call (as := [.ref 86, .int (σ.1 9 11), .long q4.1]) (pc1 := 90) (st1 := []) hC rfl (by decide) (by omega) (xL_put (d - 1) 86 3000 (σ.1 9 11) q4.1 q4.2 (by decide) rfl rfl) ?_
    refine jE_blk (bs := [(.aload_n 0, 0, 0), (.iconst (3), 3, 0), (.iload_n 2, 0, 0)]) (i := .invokestatic 94) (a1 := 129) (a2 := 0) (pc1 := 93) (l1 := [(2, .int (σ.1 9 11)), (0, .ref 8), (1, .int x1)]) (st1 := [.int (σ.1 9 11), .int (3 : Int32), .ref 8]) (σ1 := (jL_put 3000 q4.2 87 (σ.1 9 11) q4.1)) (by decide +kernel) rfl (fun hC => ?_)
    refine jE_call (as := [.int (3 : Int32), .int (σ.1 9 11)]) (pc1 := 96) (st1 := [.ref 8]) hC rfl (by decide) (by omega) (xv_cHea_hold (d - 1) (by omega) (3 : Int32) (σ.1 9 11) (jL_put 3000 q4.2 87 (σ.1 9 11) q4.1)) ?_
    refine jE_blk (bs := []) (i := .invokevirtual 187) (a1 := 111) (a2 := 0) (pc1 := 96) (l1 := [(2, .int (σ.1 9 11)), (0, .ref 8), (1, .int x1)]) (st1 := [.long (v_cHea_hold (3 : Int32) (σ.1 9 11) (jL_put 3000 q4.2 87 (σ.1 9 11) q4.1)), .ref 8]) (σ1 := (jL_put 3000 q4.2 87 (σ.1 9 11) q4.1)) (by decide +kernel) rfl (fun hC => ?_)
    obtain ⟨q5, hq, h⟩ := Option.bind_eq_some_iff.mp h
    refine jE_call (as := [.ref 8, .long (v_cHea_hold (3 : Int32) (σ.1 9 11) (jL_put 3000 q4.2 87 (σ.1 9 11) q4.1))]) (pc1 := 99) (st1 := []) hC rfl (by decide) (by omega) (x_cMac_finish (d - 1) (by omega) (v_cHea_hold (3 : Int32) (σ.1 9 11) (jL_put 3000 q4.2 87 (σ.1 9 11) q4.1)) (jL_put 3000 q4.2 87 (σ.1 9 11) q4.1) q5 (none, q5) hq rfl) ?_
    refine jE_blk (bs := []) (i := .return_) (a1 := 0) (a2 := 0) (pc1 := 99) (l1 := [(2, .int (σ.1 9 11)), (0, .ref 8), (1, .int x1)]) (st1 := []) (σ1 := q5) (by decide +kernel) rfl (fun hC => ?_)
    have h9 := Option.some.inj h
    subst h9
    have e9 : ((none, q5) : Option Value × jx_S) = res := hK
    subst e9
    exact jE_ret hC rfl
  · rw [if_neg hc] at h
    refine jE_icF 19 hC (by decide) hc ?_
    refine jE_blk (bs := [(.aload_n 0, 0, 0), (.iconst (5), 5, 0), (.putfield 76, 8, 14)]) (i := .return_) (a1 := 0) (a2 := 0) (pc1 := 18) (l1 := [(0, .ref 8), (1, .int x1)]) (st1 := []) (σ1 := (jx_i σ 8 14 (5 : Int32))) (by decide +kernel) rfl (fun hC => ?_)
    have h9 := Option.some.inj h
    subst h9
    have e9 : ((none, (jx_i σ 8 14 (5 : Int32))) : Option Value × jx_S) = res := hK
    subst e9
    exact jE_ret hC rfl
def p_cMac_join_83 (x1 : Int32) (x2 : Int32) (σ : jx_S) : Option (Int32 × jx_S) := (if x2 ≤ x1 then (some (((0 : Int32), σ))) else (some (((1 : Int32), σ))))
theorem x_cMac_join_83 (d : Nat) (hd : 0 ≤ d) (x1 : Int32) (x2 : Int32) (σ : jx_S) (t : (Int32 × jx_S)) (res : Option Value × jx_S) (h : p_cMac_join_83 x1 x2 σ = some t) (hK : kkI t res) : jE d 122 83 [(1, .int x1), (2, .int x2)] [] σ res := by
  unfold p_cMac_join_83 at h
  refine jE_blk (bs := [(.iload_n 1, 0, 0), (.iload_n 2, 0, 0)]) (i := .if_icmp .ge (7)) (a1 := 0) (a2 := 0) (pc1 := 85) (l1 := [(1, .int x1), (2, .int x2)]) (st1 := [.int x2, .int x1]) (σ1 := σ) (by decide +kernel) rfl (fun hC => ?_)
  rcases Classical.em (x2 ≤ x1) with hc | hc
  · rw [if_pos hc] at h
    refine jE_icT 92 hC (by decide) hc ?_
    refine jE_blk (bs := [(.iconst (0), 0, 0)]) (i := .ireturn) (a1 := 0) (a2 := 0) (pc1 := 93) (l1 := [(1, .int x1), (2, .int x2)]) (st1 := [.int (0 : Int32)]) (σ1 := σ) (by decide +kernel) rfl (fun hC => ?_)
    have h9 := Option.some.inj h
    subst h9
    have e9 : ((some (.int (0 : Int32)), σ) : Option Value × jx_S) = res := hK
    subst e9
    exact jE_ret hC rfl
  · rw [if_neg hc] at h
    refine jE_icF 92 hC (by decide) hc ?_
    refine jE_blk (bs := [(.iconst (1), 1, 0), (.goto (4), 0, 0)]) (i := .ireturn) (a1 := 0) (a2 := 0) (pc1 := 93) (l1 := [(1, .int x1), (2, .int x2)]) (st1 := [.int (1 : Int32)]) (σ1 := σ) (by decide +kernel) rfl (fun hC => ?_)
    have h9 := Option.some.inj h
    subst h9
    have e9 : ((some (.int (1 : Int32)), σ) : Option Value × jx_S) = res := hK
    subst e9
    exact jE_ret hC rfl
def p_cMac_join (x0 : Int32) (x1 : Int32) (x2 : Int32) (σ : jx_S) : Option (Int32 × jx_S) := (if x0 = 19 then (if ¬ x1 = x2 then (some (((0 : Int32), σ))) else (some (((1 : Int32), σ)))) else (if x0 = 23 then (some (((x1 + x2), σ))) else (if x0 = 24 then (some (((x1 - x2), σ))) else (if x0 = 25 then (some (((x1 * x2), σ))) else (if x0 = 26 then (if ¬ x2 = 0 then (if x2 = 0 then none else (some (((x1 / x2), σ)))) else (some (((0 : Int32), σ)))) else (p_cMac_join_83 x1 x2 σ))))))
theorem x_cMac_join (d : Nat) (hd : 0 ≤ d) (x0 : Int32) (x1 : Int32) (x2 : Int32) (σ : jx_S) (t : (Int32 × jx_S)) (res : Option Value × jx_S) (h : p_cMac_join x0 x1 x2 σ = some t) (hK : kkI t res) : jE d 122 0 [(0, .int x0), (1, .int x1), (2, .int x2)] [] σ res := by
  unfold p_cMac_join at h
  refine jE_blk (bs := [(.iload_n 0, 0, 0)]) (i := .tableswitch (82) (19) (26) #[71, 82, 82, 82, 47, 51, 55, 59]) (a1 := 0) (a2 := 0) (pc1 := 1) (l1 := [(0, .int x0), (1, .int x1), (2, .int x2)]) (st1 := [.int x0]) (σ1 := σ) (by decide +kernel) rfl (fun hC => ?_)
  rcases Classical.em (x0 = 19) with hc0 | hc0
  · rw [if_pos hc0] at h
    refine jE_tsw 72 19 hC hc0 (by decide +kernel) ?_
    refine jE_blk (bs := [(.iload_n 1, 0, 0), (.iload_n 2, 0, 0)]) (i := .if_icmp .ne (7)) (a1 := 0) (a2 := 0) (pc1 := 74) (l1 := [(0, .int x0), (1, .int x1), (2, .int x2)]) (st1 := [.int x2, .int x1]) (σ1 := σ) (by decide +kernel) rfl (fun hC => ?_)
    rcases Classical.em (¬ x1 = x2) with hc | hc
    · rw [if_pos hc] at h
      refine jE_icT 81 hC (by decide) hc ?_
      refine jE_blk (bs := [(.iconst (0), 0, 0)]) (i := .ireturn) (a1 := 0) (a2 := 0) (pc1 := 82) (l1 := [(0, .int x0), (1, .int x1), (2, .int x2)]) (st1 := [.int (0 : Int32)]) (σ1 := σ) (by decide +kernel) rfl (fun hC => ?_)
      have h9 := Option.some.inj h
      subst h9
      have e9 : ((some (.int (0 : Int32)), σ) : Option Value × jx_S) = res := hK
      subst e9
      exact jE_ret hC rfl
    · rw [if_neg hc] at h
      refine jE_icF 81 hC (by decide) hc ?_
      refine jE_blk (bs := [(.iconst (1), 1, 0), (.goto (4), 0, 0)]) (i := .ireturn) (a1 := 0) (a2 := 0) (pc1 := 82) (l1 := [(0, .int x0), (1, .int x1), (2, .int x2)]) (st1 := [.int (1 : Int32)]) (σ1 := σ) (by decide +kernel) rfl (fun hC => ?_)
      have h9 := Option.some.inj h
      subst h9
      have e9 : ((some (.int (1 : Int32)), σ) : Option Value × jx_S) = res := hK
      subst e9
      exact jE_ret hC rfl
  · rw [if_neg hc0] at h
    rcases Classical.em (x0 = 23) with hc1 | hc1
    · rw [if_pos hc1] at h
      refine jE_tsw 48 23 hC hc1 (by decide +kernel) ?_
      refine jE_blk (bs := [(.iload_n 1, 0, 0), (.iload_n 2, 0, 0), (.iadd, 0, 0)]) (i := .ireturn) (a1 := 0) (a2 := 0) (pc1 := 51) (l1 := [(0, .int x0), (1, .int x1), (2, .int x2)]) (st1 := [.int (x1 + x2)]) (σ1 := σ) (by decide +kernel) rfl (fun hC => ?_)
      have h9 := Option.some.inj h
      subst h9
      have e9 : ((some (.int (x1 + x2)), σ) : Option Value × jx_S) = res := hK
      subst e9
      exact jE_ret hC rfl
    · rw [if_neg hc1] at h
      rcases Classical.em (x0 = 24) with hc2 | hc2
      · rw [if_pos hc2] at h
        refine jE_tsw 52 24 hC hc2 (by decide +kernel) ?_
        refine jE_blk (bs := [(.iload_n 1, 0, 0), (.iload_n 2, 0, 0), (.isub, 0, 0)]) (i := .ireturn) (a1 := 0) (a2 := 0) (pc1 := 55) (l1 := [(0, .int x0), (1, .int x1), (2, .int x2)]) (st1 := [.int (x1 - x2)]) (σ1 := σ) (by decide +kernel) rfl (fun hC => ?_)
        have h9 := Option.some.inj h
        subst h9
        have e9 : ((some (.int (x1 - x2)), σ) : Option Value × jx_S) = res := hK
        subst e9
        exact jE_ret hC rfl
      · rw [if_neg hc2] at h
        rcases Classical.em (x0 = 25) with hc3 | hc3
        · rw [if_pos hc3] at h
          refine jE_tsw 56 25 hC hc3 (by decide +kernel) ?_
          refine jE_blk (bs := [(.iload_n 1, 0, 0), (.iload_n 2, 0, 0), (.imul, 0, 0)]) (i := .ireturn) (a1 := 0) (a2 := 0) (pc1 := 59) (l1 := [(0, .int x0), (1, .int x1), (2, .int x2)]) (st1 := [.int (x1 * x2)]) (σ1 := σ) (by decide +kernel) rfl (fun hC => ?_)
          have h9 := Option.some.inj h
          subst h9
          have e9 : ((some (.int (x1 * x2)), σ) : Option Value × jx_S) = res := hK
          subst e9
          exact jE_ret hC rfl
        · rw [if_neg hc3] at h
          rcases Classical.em (x0 = 26) with hc4 | hc4
          · rw [if_pos hc4] at h
            refine jE_tsw 60 26 hC hc4 (by decide +kernel) ?_
            refine jE_blk (bs := [(.iload_n 2, 0, 0)]) (i := .ifCond .ne (7)) (a1 := 0) (a2 := 0) (pc1 := 61) (l1 := [(0, .int x0), (1, .int x1), (2, .int x2)]) (st1 := [.int x2]) (σ1 := σ) (by decide +kernel) rfl (fun hC => ?_)
            rcases Classical.em (¬ x2 = 0) with hc | hc
            · rw [if_pos hc] at h
              refine jE_ifT 68 hC (by decide) hc ?_
              refine jE_blk (bs := [(.iload_n 1, 0, 0), (.iload_n 2, 0, 0)]) (i := .idiv) (a1 := 0) (a2 := 0) (pc1 := 70) (l1 := [(0, .int x0), (1, .int x1), (2, .int x2)]) (st1 := [.int x2, .int x1]) (σ1 := σ) (by decide +kernel) rfl (fun hC => ?_)
              obtain ⟨hi, h⟩ := jx_ite0_inv h
              refine jE_idiv hC hi ?_
              refine jE_blk (bs := []) (i := .ireturn) (a1 := 0) (a2 := 0) (pc1 := 71) (l1 := [(0, .int x0), (1, .int x1), (2, .int x2)]) (st1 := [.int (x1 / x2)]) (σ1 := σ) (by decide +kernel) rfl (fun hC => ?_)
              have h9 := Option.some.inj h
              subst h9
              have e9 : ((some (.int (x1 / x2)), σ) : Option Value × jx_S) = res := hK
              subst e9
              exact jE_ret hC rfl
            · rw [if_neg hc] at h
              refine jE_ifF 68 hC (by decide) hc ?_
              refine jE_blk (bs := [(.iconst (0), 0, 0), (.goto (6), 0, 0)]) (i := .ireturn) (a1 := 0) (a2 := 0) (pc1 := 71) (l1 := [(0, .int x0), (1, .int x1), (2, .int x2)]) (st1 := [.int (0 : Int32)]) (σ1 := σ) (by decide +kernel) rfl (fun hC => ?_)
              have h9 := Option.some.inj h
              subst h9
              have e9 : ((some (.int (0 : Int32)), σ) : Option Value × jx_S) = res := hK
              subst e9
              exact jE_ret hC rfl
          · rw [if_neg hc4] at h
            refine jE_tswD 83 [19, 23, 24, 25, 26] hC (by decide +kernel) ⟨hc0, hc1, hc2, hc3, hc4, trivial⟩ ?_
            exact jE_loc (l := [(1, .int x1), (2, .int x2)]) (ks := [1, 2]) rfl (by decide) ⟨rfl, rfl, trivial⟩ (x_cMac_join_83 d hd x1 x2 σ _ res h hK)
def p_cMac_compute_16 (x1 : Int32) (x2 : Int32) (x3 : Int32) (σ : jx_S) : Option jx_S := ((p_cMac_join x1 x2 x3 σ).bind fun q1 => ((p_cMac_finish (v_cHea_hold (1 : Int32) q1.1 q1.2) q1.2).bind fun q2 => (some (q2))))
theorem x_cMac_compute_16 (d : Nat) (hd : 1 ≤ d) (x1 : Int32) (x2 : Int32) (x3 : Int32) (σ : jx_S) (t : jx_S) (res : Option Value × jx_S) (h : p_cMac_compute_16 x1 x2 x3 σ = some t) (hK : kkV t res) : jE d 121 16 [(0, .ref 8), (1, .int x1), (2, .int x2), (3, .int x3)] [] σ res := by
  unfold p_cMac_compute_16 at h
  refine jE_blk (bs := [(.aload_n 0, 0, 0), (.iconst (1), 1, 0), (.iload_n 1, 0, 0), (.iload_n 2, 0, 0), (.iload_n 3, 0, 0)]) (i := .invokestatic 257) (a1 := 122) (a2 := 0) (pc1 := 21) (l1 := [(0, .ref 8), (1, .int x1), (2, .int x2), (3, .int x3)]) (st1 := [.int x3, .int x2, .int x1, .int (1 : Int32), .ref 8]) (σ1 := σ) (by decide +kernel) rfl (fun hC => ?_)
  obtain ⟨q1, hq, h⟩ := Option.bind_eq_some_iff.mp h
  refine jE_call (as := [.int x1, .int x2, .int x3]) (pc1 := 24) (st1 := [.int (1 : Int32), .ref 8]) hC rfl (by decide) (by omega) (x_cMac_join (d - 1) (by omega) x1 x2 x3 σ q1 (some (.int q1.1), q1.2) hq rfl) ?_
  refine jE_blk (bs := []) (i := .invokestatic 94) (a1 := 129) (a2 := 0) (pc1 := 24) (l1 := [(0, .ref 8), (1, .int x1), (2, .int x2), (3, .int x3)]) (st1 := [.int q1.1, .int (1 : Int32), .ref 8]) (σ1 := q1.2) (by decide +kernel) rfl (fun hC => ?_)
  refine jE_call (as := [.int (1 : Int32), .int q1.1]) (pc1 := 27) (st1 := [.ref 8]) hC rfl (by decide) (by omega) (xv_cHea_hold (d - 1) (by omega) (1 : Int32) q1.1 q1.2) ?_
  refine jE_blk (bs := []) (i := .invokevirtual 187) (a1 := 111) (a2 := 0) (pc1 := 27) (l1 := [(0, .ref 8), (1, .int x1), (2, .int x2), (3, .int x3)]) (st1 := [.long (v_cHea_hold (1 : Int32) q1.1 q1.2), .ref 8]) (σ1 := q1.2) (by decide +kernel) rfl (fun hC => ?_)
  obtain ⟨q2, hq, h⟩ := Option.bind_eq_some_iff.mp h
  refine jE_call (as := [.ref 8, .long (v_cHea_hold (1 : Int32) q1.1 q1.2)]) (pc1 := 30) (st1 := []) hC rfl (by decide) (by omega) (x_cMac_finish (d - 1) (by omega) (v_cHea_hold (1 : Int32) q1.1 q1.2) q1.2 q2 (none, q2) hq rfl) ?_
  refine jE_blk (bs := []) (i := .return_) (a1 := 0) (a2 := 0) (pc1 := 30) (l1 := [(0, .ref 8), (1, .int x1), (2, .int x2), (3, .int x3)]) (st1 := []) (σ1 := q2) (by decide +kernel) rfl (fun hC => ?_)
  have h9 := Option.some.inj h
  subst h9
  have e9 : ((none, q2) : Option Value × jx_S) = res := hK
  subst e9
  exact jE_ret hC rfl
def p_cMac_compute (x1 : Int32) (x2 : Int32) (x3 : Int32) (σ : jx_S) : Option jx_S := (if ¬ x1 = (26 : Int32) then (p_cMac_compute_16 x1 x2 x3 σ) else (if ¬ x3 = 0 then (p_cMac_compute_16 x1 x2 x3 σ) else (some ((jx_i σ 8 14 (2 : Int32))))))
theorem x_cMac_compute (d : Nat) (hd : 1 ≤ d) (x1 : Int32) (x2 : Int32) (x3 : Int32) (σ : jx_S) (t : jx_S) (res : Option Value × jx_S) (h : p_cMac_compute x1 x2 x3 σ = some t) (hK : kkV t res) : jE d 121 0 [(0, .ref 8), (1, .int x1), (2, .int x2), (3, .int x3)] [] σ res := by
  unfold p_cMac_compute at h
  refine jE_blk (bs := [(.iload_n 1, 0, 0), (.bipush (26), 26, 0)]) (i := .if_icmp .ne (13)) (a1 := 0) (a2 := 0) (pc1 := 3) (l1 := [(0, .ref 8), (1, .int x1), (2, .int x2), (3, .int x3)]) (st1 := [.int (26 : Int32), .int x1]) (σ1 := σ) (by decide +kernel) rfl (fun hC => ?_)
  rcases Classical.em (¬ x1 = (26 : Int32)) with hc | hc
  · rw [if_pos hc] at h
    refine jE_icT 16 hC (by decide) hc ?_
    exact jE_loc (l := [(0, .ref 8), (1, .int x1), (2, .int x2), (3, .int x3)]) (ks := [0, 1, 2, 3]) rfl (by decide) ⟨rfl, rfl, rfl, rfl, trivial⟩ (x_cMac_compute_16 d hd x1 x2 x3 σ _ res h hK)
  · rw [if_neg hc] at h
    refine jE_icF 16 hC (by decide) hc ?_
    refine jE_blk (bs := [(.iload_n 3, 0, 0)]) (i := .ifCond .ne (9)) (a1 := 0) (a2 := 0) (pc1 := 7) (l1 := [(0, .ref 8), (1, .int x1), (2, .int x2), (3, .int x3)]) (st1 := [.int x3]) (σ1 := σ) (by decide +kernel) rfl (fun hC => ?_)
    rcases Classical.em (¬ x3 = 0) with hc | hc
    · rw [if_pos hc] at h
      refine jE_ifT 16 hC (by decide) hc ?_
      exact jE_loc (l := [(0, .ref 8), (1, .int x1), (2, .int x2), (3, .int x3)]) (ks := [0, 1, 2, 3]) rfl (by decide) ⟨rfl, rfl, rfl, rfl, trivial⟩ (x_cMac_compute_16 d hd x1 x2 x3 σ _ res h hK)
    · rw [if_neg hc] at h
      refine jE_ifF 16 hC (by decide) hc ?_
      refine jE_blk (bs := [(.aload_n 0, 0, 0), (.iconst (2), 2, 0), (.putfield 76, 8, 14)]) (i := .return_) (a1 := 0) (a2 := 0) (pc1 := 15) (l1 := [(0, .ref 8), (1, .int x1), (2, .int x2), (3, .int x3)]) (st1 := []) (σ1 := (jx_i σ 8 14 (2 : Int32))) (by decide +kernel) rfl (fun hC => ?_)
      have h9 := Option.some.inj h
      subst h9
      have e9 : ((none, (jx_i σ 8 14 (2 : Int32))) : Option Value × jx_S) = res := hK
      subst e9
      exact jE_ret hC rfl
def p_cMac_workSign (x1 : Int32) (x2 : Int32) (σ : jx_S) : Option jx_S := (if ¬ x2 = 0 then (if ¬ x2 = (1 : Int32) then ((p_cMac_compute (jI_at 1201 (σ.1 23) x1) (v_cHea_numberOf (jL_at 2000 (σ.2 81) (((σ.1 8 11) - (1 : Int32)) * (8 : Int32))) σ) (v_cHea_numberOf (σ.2 8 15) σ) σ).bind fun q1 => (some (q1))) else ((p_cTre_part x1 (1 : Int32) (jL_put 2000 σ 81 (((σ.1 8 11) - (1 : Int32)) * (8 : Int32)) (σ.2 8 15))).bind fun q2 => ((p_cMac_beginPart q2.1 (2 : Int32) q2.2).bind fun q3 => (some (q3))))) else ((p_cTre_part x1 (0 : Int32) σ).bind fun q4 => ((p_cMac_beginPart q4.1 (1 : Int32) q4.2).bind fun q5 => (some (q5)))))
theorem x_cMac_workSign (d : Nat) (hd : 3 ≤ d) (x1 : Int32) (x2 : Int32) (σ : jx_S) (t : jx_S) (res : Option Value × jx_S) (h : p_cMac_workSign x1 x2 σ = some t) (hK : kkV t res) : jE d 120 0 [(0, .ref 8), (1, .int x1), (2, .int x2)] [] σ res := by
  unfold p_cMac_workSign at h
  refine jE_blk (bs := [(.aload_n 0, 0, 0), (.getfield 65, 8, 11), (.iconst (1), 1, 0), (.isub, 0, 0), (.bipush (8), 8, 0), (.imul, 0, 0), (.istore_n 3, 4, 0), (.iload_n 2, 0, 0)]) (i := .ifCond .ne (20)) (a1 := 0) (a2 := 0) (pc1 := 11) (l1 := [(3, .int (((σ.1 8 11) - (1 : Int32)) * (8 : Int32))), (0, .ref 8), (1, .int x1), (2, .int x2)]) (st1 := [.int x2]) (σ1 := σ) (by decide +kernel) rfl (fun hC => ?_)
  rcases Classical.em (¬ x2 = 0) with hc | hc
  · rw [if_pos hc] at h
    refine jE_ifT 31 hC (by decide) hc ?_
    refine jE_blk (bs := [(.iload_n 2, 0, 0), (.iconst (1), 1, 0)]) (i := .if_icmp .ne (32)) (a1 := 0) (a2 := 0) (pc1 := 33) (l1 := [(3, .int (((σ.1 8 11) - (1 : Int32)) * (8 : Int32))), (0, .ref 8), (1, .int x1), (2, .int x2)]) (st1 := [.int (1 : Int32), .int x2]) (σ1 := σ) (by decide +kernel) rfl (fun hC => ?_)
    rcases Classical.em (¬ x2 = (1 : Int32)) with hc | hc
    · rw [if_pos hc] at h
      refine jE_icT 65 hC (by decide) hc ?_
      refine jE_blk (bs := [(.aload_n 0, 0, 0), (.aload_n 0, 0, 0), (.getfield 53, 8, 3), (.getfield 190, 3, 0), (.iload_n 1, 0, 0)]) (i := .invokevirtual 90) (a1 := 136) (a2 := 0) (pc1 := 74) (l1 := [(3, .int (((σ.1 8 11) - (1 : Int32)) * (8 : Int32))), (0, .ref 8), (1, .int x1), (2, .int x2)]) (st1 := [.int x1, .ref 22, .ref 8]) (σ1 := σ) (by decide +kernel) rfl (fun hC => ?_)
      refine jE_call (as := [.ref 22, .int x1]) (pc1 := 77) (st1 := [.ref 8]) hC rfl (by decide) (by omega) (xI_at (d - 1) 22 1201 x1 σ (by decide) rfl rfl) ?_
      refine jE_blk (bs := [(.aload_n 0, 0, 0), (.getfield 42, 8, 9), (.iload_n 3, 0, 0)]) (i := .invokevirtual 148) (a1 := 140) (a2 := 0) (pc1 := 82) (l1 := [(3, .int (((σ.1 8 11) - (1 : Int32)) * (8 : Int32))), (0, .ref 8), (1, .int x1), (2, .int x2)]) (st1 := [.int (((σ.1 8 11) - (1 : Int32)) * (8 : Int32)), .ref 80, .int (jI_at 1201 (σ.1 23) x1), .ref 8]) (σ1 := σ) (by decide +kernel) rfl (fun hC => ?_)
      refine jE_call (as := [.ref 80, .int (((σ.1 8 11) - (1 : Int32)) * (8 : Int32))]) (pc1 := 85) (st1 := [.int (jI_at 1201 (σ.1 23) x1), .ref 8]) hC rfl (by decide) (by omega) (xL_at (d - 1) 80 2000 (((σ.1 8 11) - (1 : Int32)) * (8 : Int32)) σ (by decide) rfl rfl) ?_
      refine jE_blk (bs := []) (i := .invokestatic 117) (a1 := 131) (a2 := 0) (pc1 := 85) (l1 := [(3, .int (((σ.1 8 11) - (1 : Int32)) * (8 : Int32))), (0, .ref 8), (1, .int x1), (2, .int x2)]) (st1 := [.long (jL_at 2000 (σ.2 81) (((σ.1 8 11) - (1 : Int32)) * (8 : Int32))), .int (jI_at 1201 (σ.1 23) x1), .ref 8]) (σ1 := σ) (by decide +kernel) rfl (fun hC => ?_)
      refine jE_call (as := [.long (jL_at 2000 (σ.2 81) (((σ.1 8 11) - (1 : Int32)) * (8 : Int32)))]) (pc1 := 88) (st1 := [.int (jI_at 1201 (σ.1 23) x1), .ref 8]) hC rfl (by decide) (by omega) (xv_cHea_numberOf (d - 1) (by omega) (jL_at 2000 (σ.2 81) (((σ.1 8 11) - (1 : Int32)) * (8 : Int32))) σ) ?_
      refine jE_blk (bs := [(.aload_n 0, 0, 0), (.getfield 113, 8, 15)]) (i := .invokestatic 117) (a1 := 131) (a2 := 0) (pc1 := 92) (l1 := [(3, .int (((σ.1 8 11) - (1 : Int32)) * (8 : Int32))), (0, .ref 8), (1, .int x1), (2, .int x2)]) (st1 := [.long (σ.2 8 15), .int (v_cHea_numberOf (jL_at 2000 (σ.2 81) (((σ.1 8 11) - (1 : Int32)) * (8 : Int32))) σ), .int (jI_at 1201 (σ.1 23) x1), .ref 8]) (σ1 := σ) (by decide +kernel) rfl (fun hC => ?_)
      refine jE_call (as := [.long (σ.2 8 15)]) (pc1 := 95) (st1 := [.int (v_cHea_numberOf (jL_at 2000 (σ.2 81) (((σ.1 8 11) - (1 : Int32)) * (8 : Int32))) σ), .int (jI_at 1201 (σ.1 23) x1), .ref 8]) hC rfl (by decide) (by omega) (xv_cHea_numberOf (d - 1) (by omega) (σ.2 8 15) σ) ?_
      refine jE_blk (bs := []) (i := .invokevirtual 253) (a1 := 121) (a2 := 0) (pc1 := 95) (l1 := [(3, .int (((σ.1 8 11) - (1 : Int32)) * (8 : Int32))), (0, .ref 8), (1, .int x1), (2, .int x2)]) (st1 := [.int (v_cHea_numberOf (σ.2 8 15) σ), .int (v_cHea_numberOf (jL_at 2000 (σ.2 81) (((σ.1 8 11) - (1 : Int32)) * (8 : Int32))) σ), .int (jI_at 1201 (σ.1 23) x1), .ref 8]) (σ1 := σ) (by decide +kernel) rfl (fun hC => ?_)
      obtain ⟨q1, hq, h⟩ := Option.bind_eq_some_iff.mp h
      refine jE_call (as := [.ref 8, .int (jI_at 1201 (σ.1 23) x1), .int (v_cHea_numberOf (jL_at 2000 (σ.2 81) (((σ.1 8 11) - (1 : Int32)) * (8 : Int32))) σ), .int (v_cHea_numberOf (σ.2 8 15) σ)]) (pc1 := 98) (st1 := []) hC rfl (by decide) (by omega) (x_cMac_compute (d - 1) (by omega) (jI_at 1201 (σ.1 23) x1) (v_cHea_numberOf (jL_at 2000 (σ.2 81) (((σ.1 8 11) - (1 : Int32)) * (8 : Int32))) σ) (v_cHea_numberOf (σ.2 8 15) σ) σ q1 (none, q1) hq rfl) ?_
      refine jE_blk (bs := []) (i := .return_) (a1 := 0) (a2 := 0) (pc1 := 98) (l1 := [(3, .int (((σ.1 8 11) - (1 : Int32)) * (8 : Int32))), (0, .ref 8), (1, .int x1), (2, .int x2)]) (st1 := []) (σ1 := q1) (by decide +kernel) rfl (fun hC => ?_)
      have h9 := Option.some.inj h
      subst h9
      have e9 : ((none, q1) : Option Value × jx_S) = res := hK
      subst e9
      exact jE_ret hC rfl
    · rw [if_neg hc] at h
      refine jE_icF 65 hC (by decide) hc ?_
      refine jE_blk (bs := [(.aload_n 0, 0, 0), (.getfield 42, 8, 9), (.iload_n 3, 0, 0), (.aload_n 0, 0, 0), (.getfield 113, 8, 15)]) (i := .invokevirtual 98) (a1 := 141) (a2 := 0) (pc1 := 45) (l1 := [(3, .int (((σ.1 8 11) - (1 : Int32)) * (8 : Int32))), (0, .ref 8), (1, .int x1), (2, .int x2)]) (st1 := [.long (σ.2 8 15), .int (((σ.1 8 11) - (1 : Int32)) * (8 : Int32)), .ref 80]) (σ1 := σ) (by decide +kernel) rfl (fun hC => ?_)
      refine jE_call (as := [.ref 80, .int (((σ.1 8 11) - (1 : Int32)) * (8 : Int32)), .long (σ.2 8 15)]) (pc1 := 48) (st1 := []) hC rfl (by decide) (by omega) (xL_put (d - 1) 80 2000 (((σ.1 8 11) - (1 : Int32)) * (8 : Int32)) (σ.2 8 15) σ (by decide) rfl rfl) ?_
      refine jE_blk (bs := [(.aload_n 0, 0, 0), (.aload_n 0, 0, 0), (.getfield 53, 8, 3), (.iload_n 1, 0, 0), (.iconst (1), 1, 0)]) (i := .invokevirtual 239) (a1 := 31) (a2 := 0) (pc1 := 55) (l1 := [(3, .int (((σ.1 8 11) - (1 : Int32)) * (8 : Int32))), (0, .ref 8), (1, .int x1), (2, .int x2)]) (st1 := [.int (1 : Int32), .int x1, .ref 3, .ref 8]) (σ1 := (jL_put 2000 σ 81 (((σ.1 8 11) - (1 : Int32)) * (8 : Int32)) (σ.2 8 15))) (by decide +kernel) rfl (fun hC => ?_)
      obtain ⟨q2, hq, h⟩ := Option.bind_eq_some_iff.mp h
      refine jE_call (as := [.ref 3, .int x1, .int (1 : Int32)]) (pc1 := 58) (st1 := [.ref 8]) hC rfl (by decide) (by omega) (x_cTre_part (d - 1) (by omega) x1 (1 : Int32) (jL_put 2000 σ 81 (((σ.1 8 11) - (1 : Int32)) * (8 : Int32)) (σ.2 8 15)) q2 (some (.int q2.1), q2.2) hq rfl) ?_
      refine jE_blk (bs := [(.iconst (2), 2, 0)]) (i := .invokevirtual 242) (a1 := 109) (a2 := 0) (pc1 := 59) (l1 := [(3, .int (((σ.1 8 11) - (1 : Int32)) * (8 : Int32))), (0, .ref 8), (1, .int x1), (2, .int x2)]) (st1 := [.int (2 : Int32), .int q2.1, .ref 8]) (σ1 := q2.2) (by decide +kernel) rfl (fun hC => ?_)
      obtain ⟨q3, hq, h⟩ := Option.bind_eq_some_iff.mp h
      refine jE_call (as := [.ref 8, .int q2.1, .int (2 : Int32)]) (pc1 := 62) (st1 := []) hC rfl (by decide) (by omega) (x_cMac_beginPart (d - 1) (by omega) q2.1 (2 : Int32) q2.2 q3 (none, q3) hq rfl) ?_
      refine jE_blk (bs := [(.goto (36), 0, 0)]) (i := .return_) (a1 := 0) (a2 := 0) (pc1 := 98) (l1 := [(3, .int (((σ.1 8 11) - (1 : Int32)) * (8 : Int32))), (0, .ref 8), (1, .int x1), (2, .int x2)]) (st1 := []) (σ1 := q3) (by decide +kernel) rfl (fun hC => ?_)
      have h9 := Option.some.inj h
      subst h9
      have e9 : ((none, q3) : Option Value × jx_S) = res := hK
      subst e9
      exact jE_ret hC rfl
  · rw [if_neg hc] at h
    refine jE_ifF 31 hC (by decide) hc ?_
    refine jE_blk (bs := [(.aload_n 0, 0, 0), (.aload_n 0, 0, 0), (.getfield 53, 8, 3), (.iload_n 1, 0, 0), (.iconst (0), 0, 0)]) (i := .invokevirtual 239) (a1 := 31) (a2 := 0) (pc1 := 21) (l1 := [(3, .int (((σ.1 8 11) - (1 : Int32)) * (8 : Int32))), (0, .ref 8), (1, .int x1), (2, .int x2)]) (st1 := [.int (0 : Int32), .int x1, .ref 3, .ref 8]) (σ1 := σ) (by decide +kernel) rfl (fun hC => ?_)
    obtain ⟨q4, hq, h⟩ := Option.bind_eq_some_iff.mp h
    refine jE_call (as := [.ref 3, .int x1, .int (0 : Int32)]) (pc1 := 24) (st1 := [.ref 8]) hC rfl (by decide) (by omega) (x_cTre_part (d - 1) (by omega) x1 (0 : Int32) σ q4 (some (.int q4.1), q4.2) hq rfl) ?_
    refine jE_blk (bs := [(.iconst (1), 1, 0)]) (i := .invokevirtual 242) (a1 := 109) (a2 := 0) (pc1 := 25) (l1 := [(3, .int (((σ.1 8 11) - (1 : Int32)) * (8 : Int32))), (0, .ref 8), (1, .int x1), (2, .int x2)]) (st1 := [.int (1 : Int32), .int q4.1, .ref 8]) (σ1 := q4.2) (by decide +kernel) rfl (fun hC => ?_)
    obtain ⟨q5, hq, h⟩ := Option.bind_eq_some_iff.mp h
    refine jE_call (as := [.ref 8, .int q4.1, .int (1 : Int32)]) (pc1 := 28) (st1 := []) hC rfl (by decide) (by omega) (x_cMac_beginPart (d - 1) (by omega) q4.1 (1 : Int32) q4.2 q5 (none, q5) hq rfl) ?_
    refine jE_blk (bs := [(.goto (70), 0, 0)]) (i := .return_) (a1 := 0) (a2 := 0) (pc1 := 98) (l1 := [(3, .int (((σ.1 8 11) - (1 : Int32)) * (8 : Int32))), (0, .ref 8), (1, .int x1), (2, .int x2)]) (st1 := []) (σ1 := q5) (by decide +kernel) rfl (fun hC => ?_)
    have h9 := Option.some.inj h
    subst h9
    have e9 : ((none, q5) : Option Value × jx_S) = res := hK
    subst e9
    exact jE_ret hC rfl
def p_cMac_workOn_152 (x1 : Int32) (σ : jx_S) : Option jx_S := ((p_cMac_finish (v_cMac_literal x1 σ) σ).bind fun q1 => (some (q1)))
theorem x_cMac_workOn_152 (d : Nat) (hd : 134 ≤ d) (x1 : Int32) (σ : jx_S) (t : jx_S) (res : Option Value × jx_S) (h : p_cMac_workOn_152 x1 σ = some t) (hK : kkV t res) : jE d 113 152 [(0, .ref 8), (1, .int x1)] [] σ res := by
  unfold p_cMac_workOn_152 at h
  refine jE_blk (bs := [(.aload_n 0, 0, 0), (.aload_n 0, 0, 0), (.iload_n 1, 0, 0)]) (i := .invokevirtual 195) (a1 := 114) (a2 := 0) (pc1 := 155) (l1 := [(0, .ref 8), (1, .int x1)]) (st1 := [.int x1, .ref 8, .ref 8]) (σ1 := σ) (by decide +kernel) rfl (fun hC => ?_)
  refine jE_call (as := [.ref 8, .int x1]) (pc1 := 158) (st1 := [.ref 8]) hC rfl (by decide) (by omega) (xv_cMac_literal (d - 1) (by omega) x1 σ) ?_
  refine jE_blk (bs := []) (i := .invokevirtual 187) (a1 := 111) (a2 := 0) (pc1 := 158) (l1 := [(0, .ref 8), (1, .int x1)]) (st1 := [.long (v_cMac_literal x1 σ), .ref 8]) (σ1 := σ) (by decide +kernel) rfl (fun hC => ?_)
  obtain ⟨q1, hq, h⟩ := Option.bind_eq_some_iff.mp h
  refine jE_call (as := [.ref 8, .long (v_cMac_literal x1 σ)]) (pc1 := 161) (st1 := []) hC rfl (by decide) (by omega) (x_cMac_finish (d - 1) (by omega) (v_cMac_literal x1 σ) σ q1 (none, q1) hq rfl) ?_
  refine jE_blk (bs := [(.goto (92), 0, 0)]) (i := .return_) (a1 := 0) (a2 := 0) (pc1 := 253) (l1 := [(0, .ref 8), (1, .int x1)]) (st1 := []) (σ1 := q1) (by decide +kernel) rfl (fun hC => ?_)
  have h9 := Option.some.inj h
  subst h9
  have e9 : ((none, q1) : Option Value × jx_S) = res := hK
  subst e9
  exact jE_ret hC rfl
def p_cMac_workOn_247 (x1 : Int32) (x2 : Int32) (σ : jx_S) : Option jx_S := ((p_cMac_workSign x1 x2 σ).bind fun q9 => (some (q9)))
theorem x_cMac_workOn_247 (d : Nat) (hd : 134 ≤ d) (x1 : Int32) (x2 : Int32) (σ : jx_S) (t : jx_S) (res : Option Value × jx_S) (h : p_cMac_workOn_247 x1 x2 σ = some t) (hK : kkV t res) : jE d 113 247 [(0, .ref 8), (1, .int x1), (2, .int x2)] [] σ res := by
  unfold p_cMac_workOn_247 at h
  refine jE_blk (bs := [(.aload_n 0, 0, 0), (.iload_n 1, 0, 0), (.iload_n 2, 0, 0)]) (i := .invokevirtual 222) (a1 := 120) (a2 := 0) (pc1 := 250) (l1 := [(0, .ref 8), (1, .int x1), (2, .int x2)]) (st1 := [.int x2, .int x1, .ref 8]) (σ1 := σ) (by decide +kernel) rfl (fun hC => ?_)
  obtain ⟨q9, hq, h⟩ := Option.bind_eq_some_iff.mp h
  refine jE_call (as := [.ref 8, .int x1, .int x2]) (pc1 := 253) (st1 := []) hC rfl (by decide) (by omega) (x_cMac_workSign (d - 1) (by omega) x1 x2 σ q9 (none, q9) hq rfl) ?_
  refine jE_blk (bs := []) (i := .return_) (a1 := 0) (a2 := 0) (pc1 := 253) (l1 := [(0, .ref 8), (1, .int x1), (2, .int x2)]) (st1 := []) (σ1 := q9) (by decide +kernel) rfl (fun hC => ?_)
  have h9 := Option.some.inj h
  subst h9
  have e9 : ((none, q9) : Option Value × jx_S) = res := hK
  subst e9
  exact jE_ret hC rfl
def p_cMac_workOn (x1 : Int32) (x2 : Int32) (σ : jx_S) : Option jx_S := (if ¬ x2 = (100 : Int32) then (if (jI_at 1201 (σ.1 23) x1) = 2 then (p_cMac_workOn_152 x1 σ) else (if (jI_at 1201 (σ.1 23) x1) = 5 then ((p_cMac_workLet x1 x2 σ).bind fun q2 => (some (q2))) else (if (jI_at 1201 (σ.1 23) x1) = 7 then ((p_cMac_workIf x1 x2 σ).bind fun q3 => (some (q3))) else (if (jI_at 1201 (σ.1 23) x1) = 10 then ((p_cMac_workCase x1 x2 σ).bind fun q4 => (some (q4))) else (if (jI_at 1201 (σ.1 23) x1) = 13 then (p_cMac_workOn_152 x1 σ) else (if (jI_at 1201 (σ.1 23) x1) = 14 then ((p_cMac_workCons x1 σ).bind fun q5 => (some (q5))) else (if (jI_at 1201 (σ.1 23) x1) = 15 then (some ((jx_i σ 8 14 (2 : Int32)))) else (if (jI_at 1201 (σ.1 23) x1) = 28 then (if (jI_at 1201 (σ.1 35) x1) ≤ 0 then ((p_cMac_workLocal x1 x2 σ).bind fun q6 => (some (q6))) else ((p_cMac_callHeld x1 σ).bind fun q7 => (some (q7)))) else (if (jI_at 1201 (σ.1 23) x1) = 29 then ((p_cMac_workCall x1 x2 σ).bind fun q8 => (some (q8))) else (p_cMac_workOn_247 x1 x2 σ)))))))))) else ((p_cMac_finish (σ.2 8 15) σ).bind fun q10 => (some (q10))))
theorem x_cMac_workOn (d : Nat) (hd : 134 ≤ d) (x1 : Int32) (x2 : Int32) (σ : jx_S) (t : jx_S) (res : Option Value × jx_S) (h : p_cMac_workOn x1 x2 σ = some t) (hK : kkV t res) : jE d 113 0 [(0, .ref 8), (1, .int x1), (2, .int x2)] [] σ res := by
  unfold p_cMac_workOn at h
  refine jE_blk (bs := [(.iload_n 2, 0, 0), (.bipush (100), 100, 0)]) (i := .if_icmp .ne (12)) (a1 := 0) (a2 := 0) (pc1 := 3) (l1 := [(0, .ref 8), (1, .int x1), (2, .int x2)]) (st1 := [.int (100 : Int32), .int x2]) (σ1 := σ) (by decide +kernel) rfl (fun hC => ?_)
  rcases Classical.em (¬ x2 = (100 : Int32)) with hc | hc
  · rw [if_pos hc] at h
    refine jE_icT 15 hC (by decide) hc ?_
    refine jE_blk (bs := [(.aload_n 0, 0, 0), (.getfield 53, 8, 3), (.getfield 190, 3, 0), (.iload_n 1, 0, 0)]) (i := .invokevirtual 90) (a1 := 136) (a2 := 0) (pc1 := 23) (l1 := [(0, .ref 8), (1, .int x1), (2, .int x2)]) (st1 := [.int x1, .ref 22]) (σ1 := σ) (by decide +kernel) rfl (fun hC => ?_)
    refine jE_call (as := [.ref 22, .int x1]) (pc1 := 26) (st1 := []) hC rfl (by decide) (by omega) (xI_at (d - 1) 22 1201 x1 σ (by decide) rfl rfl) ?_
    refine jE_blk (bs := []) (i := .tableswitch (221) (2) (29) #[126, 221, 221, 186, 221, 195, 221, 221, 204, 221, 221, 126, 213, 138, 221, 221, 221, 221, 221, 221, 221, 221, 221, 221, 221, 221, 146, 177]) (a1 := 0) (a2 := 0) (pc1 := 26) (l1 := [(0, .ref 8), (1, .int x1), (2, .int x2)]) (st1 := [.int (jI_at 1201 (σ.1 23) x1)]) (σ1 := σ) (by decide +kernel) rfl (fun hC => ?_)
    rcases Classical.em ((jI_at 1201 (σ.1 23) x1) = 2) with hc0 | hc0
    · rw [if_pos hc0] at h
      refine jE_tsw 152 2 hC hc0 (by decide +kernel) ?_
      exact jE_loc (l := [(0, .ref 8), (1, .int x1)]) (ks := [0, 1]) rfl (by decide) ⟨rfl, rfl, trivial⟩ (x_cMac_workOn_152 d hd x1 σ _ res h hK)
    · rw [if_neg hc0] at h
      rcases Classical.em ((jI_at 1201 (σ.1 23) x1) = 5) with hc1 | hc1
      · rw [if_pos hc1] at h
        refine jE_tsw 212 5 hC hc1 (by decide +kernel) ?_
        refine jE_blk (bs := [(.aload_n 0, 0, 0), (.iload_n 1, 0, 0), (.iload_n 2, 0, 0)]) (i := .invokevirtual 210) (a1 := 119) (a2 := 0) (pc1 := 215) (l1 := [(0, .ref 8), (1, .int x1), (2, .int x2)]) (st1 := [.int x2, .int x1, .ref 8]) (σ1 := σ) (by decide +kernel) rfl (fun hC => ?_)
        obtain ⟨q2, hq, h⟩ := Option.bind_eq_some_iff.mp h
        refine jE_call (as := [.ref 8, .int x1, .int x2]) (pc1 := 218) (st1 := []) hC rfl (by decide) (by omega) (x_cMac_workLet (d - 1) (by omega) x1 x2 σ q2 (none, q2) hq rfl) ?_
        refine jE_blk (bs := [(.goto (35), 0, 0)]) (i := .return_) (a1 := 0) (a2 := 0) (pc1 := 253) (l1 := [(0, .ref 8), (1, .int x1), (2, .int x2)]) (st1 := []) (σ1 := q2) (by decide +kernel) rfl (fun hC => ?_)
        have h9 := Option.some.inj h
        subst h9
        have e9 : ((none, q2) : Option Value × jx_S) = res := hK
        subst e9
        exact jE_ret hC rfl
      · rw [if_neg hc1] at h
        rcases Classical.em ((jI_at 1201 (σ.1 23) x1) = 7) with hc2 | hc2
        · rw [if_pos hc2] at h
          refine jE_tsw 221 7 hC hc2 (by decide +kernel) ?_
          refine jE_blk (bs := [(.aload_n 0, 0, 0), (.iload_n 1, 0, 0), (.iload_n 2, 0, 0)]) (i := .invokevirtual 213) (a1 := 116) (a2 := 0) (pc1 := 224) (l1 := [(0, .ref 8), (1, .int x1), (2, .int x2)]) (st1 := [.int x2, .int x1, .ref 8]) (σ1 := σ) (by decide +kernel) rfl (fun hC => ?_)
          obtain ⟨q3, hq, h⟩ := Option.bind_eq_some_iff.mp h
          refine jE_call (as := [.ref 8, .int x1, .int x2]) (pc1 := 227) (st1 := []) hC rfl (by decide) (by omega) (x_cMac_workIf (d - 1) (by omega) x1 x2 σ q3 (none, q3) hq rfl) ?_
          refine jE_blk (bs := [(.goto (26), 0, 0)]) (i := .return_) (a1 := 0) (a2 := 0) (pc1 := 253) (l1 := [(0, .ref 8), (1, .int x1), (2, .int x2)]) (st1 := []) (σ1 := q3) (by decide +kernel) rfl (fun hC => ?_)
          have h9 := Option.some.inj h
          subst h9
          have e9 : ((none, q3) : Option Value × jx_S) = res := hK
          subst e9
          exact jE_ret hC rfl
        · rw [if_neg hc2] at h
          rcases Classical.em ((jI_at 1201 (σ.1 23) x1) = 10) with hc3 | hc3
          · rw [if_pos hc3] at h
            refine jE_tsw 230 10 hC hc3 (by decide +kernel) ?_
            refine jE_blk (bs := [(.aload_n 0, 0, 0), (.iload_n 1, 0, 0), (.iload_n 2, 0, 0)]) (i := .invokevirtual 216) (a1 := 117) (a2 := 0) (pc1 := 233) (l1 := [(0, .ref 8), (1, .int x1), (2, .int x2)]) (st1 := [.int x2, .int x1, .ref 8]) (σ1 := σ) (by decide +kernel) rfl (fun hC => ?_)
            obtain ⟨q4, hq, h⟩ := Option.bind_eq_some_iff.mp h
            refine jE_call (as := [.ref 8, .int x1, .int x2]) (pc1 := 236) (st1 := []) hC rfl (by decide) (by omega) (x_cMac_workCase (d - 1) (by omega) x1 x2 σ q4 (none, q4) hq rfl) ?_
            refine jE_blk (bs := [(.goto (17), 0, 0)]) (i := .return_) (a1 := 0) (a2 := 0) (pc1 := 253) (l1 := [(0, .ref 8), (1, .int x1), (2, .int x2)]) (st1 := []) (σ1 := q4) (by decide +kernel) rfl (fun hC => ?_)
            have h9 := Option.some.inj h
            subst h9
            have e9 : ((none, q4) : Option Value × jx_S) = res := hK
            subst e9
            exact jE_ret hC rfl
          · rw [if_neg hc3] at h
            rcases Classical.em ((jI_at 1201 (σ.1 23) x1) = 13) with hc4 | hc4
            · rw [if_pos hc4] at h
              refine jE_tsw 152 13 hC hc4 (by decide +kernel) ?_
              exact jE_loc (l := [(0, .ref 8), (1, .int x1)]) (ks := [0, 1]) rfl (by decide) ⟨rfl, rfl, trivial⟩ (x_cMac_workOn_152 d hd x1 σ _ res h hK)
            · rw [if_neg hc4] at h
              rcases Classical.em ((jI_at 1201 (σ.1 23) x1) = 14) with hc5 | hc5
              · rw [if_pos hc5] at h
                refine jE_tsw 239 14 hC hc5 (by decide +kernel) ?_
                refine jE_blk (bs := [(.aload_n 0, 0, 0), (.iload_n 1, 0, 0)]) (i := .invokevirtual 219) (a1 := 118) (a2 := 0) (pc1 := 241) (l1 := [(0, .ref 8), (1, .int x1), (2, .int x2)]) (st1 := [.int x1, .ref 8]) (σ1 := σ) (by decide +kernel) rfl (fun hC => ?_)
                obtain ⟨q5, hq, h⟩ := Option.bind_eq_some_iff.mp h
                refine jE_call (as := [.ref 8, .int x1]) (pc1 := 244) (st1 := []) hC rfl (by decide) (by omega) (x_cMac_workCons (d - 1) (by omega) x1 σ q5 (none, q5) hq rfl) ?_
                refine jE_blk (bs := [(.goto (9), 0, 0)]) (i := .return_) (a1 := 0) (a2 := 0) (pc1 := 253) (l1 := [(0, .ref 8), (1, .int x1), (2, .int x2)]) (st1 := []) (σ1 := q5) (by decide +kernel) rfl (fun hC => ?_)
                have h9 := Option.some.inj h
                subst h9
                have e9 : ((none, q5) : Option Value × jx_S) = res := hK
                subst e9
                exact jE_ret hC rfl
              · rw [if_neg hc5] at h
                rcases Classical.em ((jI_at 1201 (σ.1 23) x1) = 15) with hc6 | hc6
                · rw [if_pos hc6] at h
                  refine jE_tsw 164 15 hC hc6 (by decide +kernel) ?_
                  refine jE_blk (bs := [(.aload_n 0, 0, 0), (.iconst (2), 2, 0), (.putfield 76, 8, 14), (.goto (84), 0, 0)]) (i := .return_) (a1 := 0) (a2 := 0) (pc1 := 253) (l1 := [(0, .ref 8), (1, .int x1), (2, .int x2)]) (st1 := []) (σ1 := (jx_i σ 8 14 (2 : Int32))) (by decide +kernel) rfl (fun hC => ?_)
                  have h9 := Option.some.inj h
                  subst h9
                  have e9 : ((none, (jx_i σ 8 14 (2 : Int32))) : Option Value × jx_S) = res := hK
                  subst e9
                  exact jE_ret hC rfl
                · rw [if_neg hc6] at h
                  rcases Classical.em ((jI_at 1201 (σ.1 23) x1) = 28) with hc7 | hc7
                  · rw [if_pos hc7] at h
                    refine jE_tsw 172 28 hC hc7 (by decide +kernel) ?_
                    refine jE_blk (bs := [(.aload_n 0, 0, 0), (.getfield 53, 8, 3), (.getfield 198, 3, 6), (.iload_n 1, 0, 0)]) (i := .invokevirtual 90) (a1 := 136) (a2 := 0) (pc1 := 180) (l1 := [(0, .ref 8), (1, .int x1), (2, .int x2)]) (st1 := [.int x1, .ref 34]) (σ1 := σ) (by decide +kernel) rfl (fun hC => ?_)
                    refine jE_call (as := [.ref 34, .int x1]) (pc1 := 183) (st1 := []) hC rfl (by decide) (by omega) (xI_at (d - 1) 34 1201 x1 σ (by decide) rfl rfl) ?_
                    refine jE_blk (bs := []) (i := .ifCond .le (11)) (a1 := 0) (a2 := 0) (pc1 := 183) (l1 := [(0, .ref 8), (1, .int x1), (2, .int x2)]) (st1 := [.int (jI_at 1201 (σ.1 35) x1)]) (σ1 := σ) (by decide +kernel) rfl (fun hC => ?_)
                    rcases Classical.em ((jI_at 1201 (σ.1 35) x1) ≤ 0) with hc | hc
                    · rw [if_pos hc] at h
                      refine jE_ifT 194 hC (by decide) hc ?_
                      refine jE_blk (bs := [(.aload_n 0, 0, 0), (.iload_n 1, 0, 0), (.iload_n 2, 0, 0)]) (i := .invokevirtual 204) (a1 := 115) (a2 := 0) (pc1 := 197) (l1 := [(0, .ref 8), (1, .int x1), (2, .int x2)]) (st1 := [.int x2, .int x1, .ref 8]) (σ1 := σ) (by decide +kernel) rfl (fun hC => ?_)
                      obtain ⟨q6, hq, h⟩ := Option.bind_eq_some_iff.mp h
                      refine jE_call (as := [.ref 8, .int x1, .int x2]) (pc1 := 200) (st1 := []) hC rfl (by decide) (by omega) (x_cMac_workLocal (d - 1) (by omega) x1 x2 σ q6 (none, q6) hq rfl) ?_
                      refine jE_blk (bs := [(.goto (53), 0, 0)]) (i := .return_) (a1 := 0) (a2 := 0) (pc1 := 253) (l1 := [(0, .ref 8), (1, .int x1), (2, .int x2)]) (st1 := []) (σ1 := q6) (by decide +kernel) rfl (fun hC => ?_)
                      have h9 := Option.some.inj h
                      subst h9
                      have e9 : ((none, q6) : Option Value × jx_S) = res := hK
                      subst e9
                      exact jE_ret hC rfl
                    · rw [if_neg hc] at h
                      refine jE_ifF 194 hC (by decide) hc ?_
                      refine jE_blk (bs := [(.aload_n 0, 0, 0), (.iload_n 1, 0, 0)]) (i := .invokevirtual 201) (a1 := 124) (a2 := 0) (pc1 := 188) (l1 := [(0, .ref 8), (1, .int x1), (2, .int x2)]) (st1 := [.int x1, .ref 8]) (σ1 := σ) (by decide +kernel) rfl (fun hC => ?_)
                      obtain ⟨q7, hq, h⟩ := Option.bind_eq_some_iff.mp h
                      refine jE_call (as := [.ref 8, .int x1]) (pc1 := 191) (st1 := []) hC rfl (by decide) (by omega) (x_cMac_callHeld (d - 1) (by omega) x1 σ q7 (none, q7) hq rfl) ?_
                      refine jE_blk (bs := [(.goto (62), 0, 0)]) (i := .return_) (a1 := 0) (a2 := 0) (pc1 := 253) (l1 := [(0, .ref 8), (1, .int x1), (2, .int x2)]) (st1 := []) (σ1 := q7) (by decide +kernel) rfl (fun hC => ?_)
                      have h9 := Option.some.inj h
                      subst h9
                      have e9 : ((none, q7) : Option Value × jx_S) = res := hK
                      subst e9
                      exact jE_ret hC rfl
                  · rw [if_neg hc7] at h
                    rcases Classical.em ((jI_at 1201 (σ.1 23) x1) = 29) with hc8 | hc8
                    · rw [if_pos hc8] at h
                      refine jE_tsw 203 29 hC hc8 (by decide +kernel) ?_
                      refine jE_blk (bs := [(.aload_n 0, 0, 0), (.iload_n 1, 0, 0), (.iload_n 2, 0, 0)]) (i := .invokevirtual 207) (a1 := 123) (a2 := 0) (pc1 := 206) (l1 := [(0, .ref 8), (1, .int x1), (2, .int x2)]) (st1 := [.int x2, .int x1, .ref 8]) (σ1 := σ) (by decide +kernel) rfl (fun hC => ?_)
                      obtain ⟨q8, hq, h⟩ := Option.bind_eq_some_iff.mp h
                      refine jE_call (as := [.ref 8, .int x1, .int x2]) (pc1 := 209) (st1 := []) hC rfl (by decide) (by omega) (x_cMac_workCall (d - 1) (by omega) x1 x2 σ q8 (none, q8) hq rfl) ?_
                      refine jE_blk (bs := [(.goto (44), 0, 0)]) (i := .return_) (a1 := 0) (a2 := 0) (pc1 := 253) (l1 := [(0, .ref 8), (1, .int x1), (2, .int x2)]) (st1 := []) (σ1 := q8) (by decide +kernel) rfl (fun hC => ?_)
                      have h9 := Option.some.inj h
                      subst h9
                      have e9 : ((none, q8) : Option Value × jx_S) = res := hK
                      subst e9
                      exact jE_ret hC rfl
                    · rw [if_neg hc8] at h
                      refine jE_tswD 247 [2, 5, 7, 10, 13, 14, 15, 28, 29] hC (by decide +kernel) ⟨hc0, hc1, hc2, hc3, hc4, hc5, hc6, hc7, hc8, trivial⟩ ?_
                      exact jE_loc (l := [(0, .ref 8), (1, .int x1), (2, .int x2)]) (ks := [0, 1, 2]) rfl (by decide) ⟨rfl, rfl, rfl, trivial⟩ (x_cMac_workOn_247 d hd x1 x2 σ _ res h hK)
  · rw [if_neg hc] at h
    refine jE_icF 15 hC (by decide) hc ?_
    refine jE_blk (bs := [(.aload_n 0, 0, 0), (.aload_n 0, 0, 0), (.getfield 113, 8, 15)]) (i := .invokevirtual 187) (a1 := 111) (a2 := 0) (pc1 := 11) (l1 := [(0, .ref 8), (1, .int x1), (2, .int x2)]) (st1 := [.long (σ.2 8 15), .ref 8]) (σ1 := σ) (by decide +kernel) rfl (fun hC => ?_)
    obtain ⟨q10, hq, h⟩ := Option.bind_eq_some_iff.mp h
    refine jE_call (as := [.ref 8, .long (σ.2 8 15)]) (pc1 := 14) (st1 := []) hC rfl (by decide) (by omega) (x_cMac_finish (d - 1) (by omega) (σ.2 8 15) σ q10 (none, q10) hq rfl) ?_
    refine jE_blk (bs := []) (i := .return_) (a1 := 0) (a2 := 0) (pc1 := 14) (l1 := [(0, .ref 8), (1, .int x1), (2, .int x2)]) (st1 := []) (σ1 := q10) (by decide +kernel) rfl (fun hC => ?_)
    have h9 := Option.some.inj h
    subst h9
    have e9 : ((none, q10) : Option Value × jx_S) = res := hK
    subst e9
    exact jE_ret hC rfl
def p_cMac_force (x1 : Int64) (σ : jx_S) : Option jx_S := (if (v_cHea_tagOf x1 σ) = (4 : Int32) then (if ¬ (jI_at 3000 (σ.1 93) (v_cHea_numberOf x1 σ)) = (2 : Int32) then ((p_cMac_beginPutOff (v_cHea_numberOf x1 σ) (jx_i σ 8 18 (v_cHea_numberOf x1 σ))).bind fun q1 => (some (q1))) else (some ((jx_l σ 8 15 (jL_at 3000 (σ.2 95) (v_cHea_numberOf x1 σ)))))) else (some ((jx_l σ 8 15 x1))))
theorem x_cMac_force (d : Nat) (hd : 3 ≤ d) (x1 : Int64) (σ : jx_S) (t : jx_S) (res : Option Value × jx_S) (h : p_cMac_force x1 σ = some t) (hK : kkV t res) : jE d 107 0 [(0, .ref 8), (1, .long x1)] [] σ res := by
  unfold p_cMac_force at h
  refine jE_blk (bs := [(.lload_n 1, 0, 0)]) (i := .invokestatic 117) (a1 := 131) (a2 := 0) (pc1 := 1) (l1 := [(0, .ref 8), (1, .long x1)]) (st1 := [.long x1]) (σ1 := σ) (by decide +kernel) rfl (fun hC => ?_)
  refine jE_call (as := [.long x1]) (pc1 := 4) (st1 := []) hC rfl (by decide) (by omega) (xv_cHea_numberOf (d - 1) (by omega) x1 σ) ?_
  refine jE_blk (bs := [(.istore_n 3, 4, 0), (.lload_n 1, 0, 0)]) (i := .invokestatic 154) (a1 := 130) (a2 := 0) (pc1 := 6) (l1 := [(3, .int (v_cHea_numberOf x1 σ)), (0, .ref 8), (1, .long x1)]) (st1 := [.long x1]) (σ1 := σ) (by decide +kernel) rfl (fun hC => ?_)
  refine jE_call (as := [.long x1]) (pc1 := 9) (st1 := []) hC rfl (by decide) (by omega) (xv_cHea_tagOf (d - 1) (by omega) x1 σ) ?_
  refine jE_blk (bs := [(.iconst (4), 4, 0)]) (i := .if_icmp .eq (11)) (a1 := 0) (a2 := 0) (pc1 := 10) (l1 := [(3, .int (v_cHea_numberOf x1 σ)), (0, .ref 8), (1, .long x1)]) (st1 := [.int (4 : Int32), .int (v_cHea_tagOf x1 σ)]) (σ1 := σ) (by decide +kernel) rfl (fun hC => ?_)
  rcases Classical.em ((v_cHea_tagOf x1 σ) = (4 : Int32)) with hc | hc
  · rw [if_pos hc] at h
    refine jE_icT 21 hC (by decide) hc ?_
    refine jE_blk (bs := [(.aload_n 0, 0, 0), (.getfield 26, 8, 5), (.getfield 160, 9, 4), (.iload_n 3, 0, 0)]) (i := .invokevirtual 90) (a1 := 136) (a2 := 0) (pc1 := 29) (l1 := [(3, .int (v_cHea_numberOf x1 σ)), (0, .ref 8), (1, .long x1)]) (st1 := [.int (v_cHea_numberOf x1 σ), .ref 92]) (σ1 := σ) (by decide +kernel) rfl (fun hC => ?_)
    refine jE_call (as := [.ref 92, .int (v_cHea_numberOf x1 σ)]) (pc1 := 32) (st1 := []) hC rfl (by decide) (by omega) (xI_at (d - 1) 92 3000 (v_cHea_numberOf x1 σ) σ (by decide) rfl rfl) ?_
    refine jE_blk (bs := [(.iconst (2), 2, 0)]) (i := .if_icmp .ne (21)) (a1 := 0) (a2 := 0) (pc1 := 33) (l1 := [(3, .int (v_cHea_numberOf x1 σ)), (0, .ref 8), (1, .long x1)]) (st1 := [.int (2 : Int32), .int (jI_at 3000 (σ.1 93) (v_cHea_numberOf x1 σ))]) (σ1 := σ) (by decide +kernel) rfl (fun hC => ?_)
    rcases Classical.em (¬ (jI_at 3000 (σ.1 93) (v_cHea_numberOf x1 σ)) = (2 : Int32)) with hc | hc
    · rw [if_pos hc] at h
      refine jE_icT 54 hC (by decide) hc ?_
      refine jE_blk (bs := [(.aload_n 0, 0, 0), (.iload_n 3, 0, 0), (.putfield 79, 8, 18), (.aload_n 0, 0, 0), (.iload_n 3, 0, 0)]) (i := .invokevirtual 166) (a1 := 110) (a2 := 0) (pc1 := 61) (l1 := [(3, .int (v_cHea_numberOf x1 σ)), (0, .ref 8), (1, .long x1)]) (st1 := [.int (v_cHea_numberOf x1 σ), .ref 8]) (σ1 := (jx_i σ 8 18 (v_cHea_numberOf x1 σ))) (by decide +kernel) rfl (fun hC => ?_)
      obtain ⟨q1, hq, h⟩ := Option.bind_eq_some_iff.mp h
      refine jE_call (as := [.ref 8, .int (v_cHea_numberOf x1 σ)]) (pc1 := 64) (st1 := []) hC rfl (by decide) (by omega) (x_cMac_beginPutOff (d - 1) (by omega) (v_cHea_numberOf x1 σ) (jx_i σ 8 18 (v_cHea_numberOf x1 σ)) q1 (none, q1) hq rfl) ?_
      refine jE_blk (bs := []) (i := .return_) (a1 := 0) (a2 := 0) (pc1 := 64) (l1 := [(3, .int (v_cHea_numberOf x1 σ)), (0, .ref 8), (1, .long x1)]) (st1 := []) (σ1 := q1) (by decide +kernel) rfl (fun hC => ?_)
      have h9 := Option.some.inj h
      subst h9
      have e9 : ((none, q1) : Option Value × jx_S) = res := hK
      subst e9
      exact jE_ret hC rfl
    · rw [if_neg hc] at h
      refine jE_icF 54 hC (by decide) hc ?_
      refine jE_blk (bs := [(.aload_n 0, 0, 0), (.aload_n 0, 0, 0), (.getfield 26, 8, 5), (.getfield 163, 9, 5), (.iload_n 3, 0, 0)]) (i := .invokevirtual 148) (a1 := 140) (a2 := 0) (pc1 := 45) (l1 := [(3, .int (v_cHea_numberOf x1 σ)), (0, .ref 8), (1, .long x1)]) (st1 := [.int (v_cHea_numberOf x1 σ), .ref 94, .ref 8]) (σ1 := σ) (by decide +kernel) rfl (fun hC => ?_)
      refine jE_call (as := [.ref 94, .int (v_cHea_numberOf x1 σ)]) (pc1 := 48) (st1 := [.ref 8]) hC rfl (by decide) (by omega) (xL_at (d - 1) 94 3000 (v_cHea_numberOf x1 σ) σ (by decide) rfl rfl) ?_
      refine jE_blk (bs := [(.putfield 113, 8, 15), (.goto (13), 0, 0)]) (i := .return_) (a1 := 0) (a2 := 0) (pc1 := 64) (l1 := [(3, .int (v_cHea_numberOf x1 σ)), (0, .ref 8), (1, .long x1)]) (st1 := []) (σ1 := (jx_l σ 8 15 (jL_at 3000 (σ.2 95) (v_cHea_numberOf x1 σ)))) (by decide +kernel) rfl (fun hC => ?_)
      have h9 := Option.some.inj h
      subst h9
      have e9 : ((none, (jx_l σ 8 15 (jL_at 3000 (σ.2 95) (v_cHea_numberOf x1 σ)))) : Option Value × jx_S) = res := hK
      subst e9
      exact jE_ret hC rfl
  · rw [if_neg hc] at h
    refine jE_icF 21 hC (by decide) hc ?_
    refine jE_blk (bs := [(.aload_n 0, 0, 0), (.lload_n 1, 0, 0), (.putfield 113, 8, 15), (.goto (46), 0, 0)]) (i := .return_) (a1 := 0) (a2 := 0) (pc1 := 64) (l1 := [(3, .int (v_cHea_numberOf x1 σ)), (0, .ref 8), (1, .long x1)]) (st1 := []) (σ1 := (jx_l σ 8 15 x1)) (by decide +kernel) rfl (fun hC => ?_)
    have h9 := Option.some.inj h
    subst h9
    have e9 : ((none, (jx_l σ 8 15 x1)) : Option Value × jx_S) = res := hK
    subst e9
    exact jE_ret hC rfl
def p_cMac_stepInto (x1 : Int64) (σ : jx_S) : Option jx_S := (if (v_cHea_tagOf x1 σ) = (3 : Int32) then ((p_cMac_force (jL_at 3000 (σ.2 85) (v_cHea_numberOf x1 (jx_i σ 8 17 (1 : Int32)))) (jx_i (jx_i σ 8 17 (1 : Int32)) 8 16 (v_cHea_numberOf x1 (jx_i σ 8 17 (1 : Int32))))).bind fun q1 => (some (q1))) else (some ((jx_i (jI_put 10 σ 71 (7 : Int32) (1 : Int32)) 8 14 (1 : Int32)))))
theorem x_cMac_stepInto (d : Nat) (hd : 4 ≤ d) (x1 : Int64) (σ : jx_S) (t : jx_S) (res : Option Value × jx_S) (h : p_cMac_stepInto x1 σ = some t) (hK : kkV t res) : jE d 106 0 [(0, .ref 8), (1, .long x1)] [] σ res := by
  unfold p_cMac_stepInto at h
  refine jE_blk (bs := [(.lload_n 1, 0, 0)]) (i := .invokestatic 154) (a1 := 130) (a2 := 0) (pc1 := 1) (l1 := [(0, .ref 8), (1, .long x1)]) (st1 := [.long x1]) (σ1 := σ) (by decide +kernel) rfl (fun hC => ?_)
  refine jE_call (as := [.long x1]) (pc1 := 4) (st1 := []) hC rfl (by decide) (by omega) (xv_cHea_tagOf (d - 1) (by omega) x1 σ) ?_
  refine jE_blk (bs := [(.iconst (3), 3, 0)]) (i := .if_icmp .eq (19)) (a1 := 0) (a2 := 0) (pc1 := 5) (l1 := [(0, .ref 8), (1, .long x1)]) (st1 := [.int (3 : Int32), .int (v_cHea_tagOf x1 σ)]) (σ1 := σ) (by decide +kernel) rfl (fun hC => ?_)
  rcases Classical.em ((v_cHea_tagOf x1 σ) = (3 : Int32)) with hc | hc
  · rw [if_pos hc] at h
    refine jE_icT 24 hC (by decide) hc ?_
    refine jE_blk (bs := [(.aload_n 0, 0, 0), (.iconst (1), 1, 0), (.putfield 82, 8, 17), (.aload_n 0, 0, 0), (.lload_n 1, 0, 0)]) (i := .invokestatic 117) (a1 := 131) (a2 := 0) (pc1 := 31) (l1 := [(0, .ref 8), (1, .long x1)]) (st1 := [.long x1, .ref 8]) (σ1 := (jx_i σ 8 17 (1 : Int32))) (by decide +kernel) rfl (fun hC => ?_)
    refine jE_call (as := [.long x1]) (pc1 := 34) (st1 := [.ref 8]) hC rfl (by decide) (by omega) (xv_cHea_numberOf (d - 1) (by omega) x1 (jx_i σ 8 17 (1 : Int32))) ?_
    refine jE_blk (bs := [(.putfield 145, 8, 16), (.aload_n 0, 0, 0), (.aload_n 0, 0, 0), (.getfield 26, 8, 5), (.getfield 157, 9, 0), (.aload_n 0, 0, 0), (.getfield 145, 8, 16)]) (i := .invokevirtual 148) (a1 := 140) (a2 := 0) (pc1 := 49) (l1 := [(0, .ref 8), (1, .long x1)]) (st1 := [.int (v_cHea_numberOf x1 (jx_i σ 8 17 (1 : Int32))), .ref 84, .ref 8]) (σ1 := (jx_i (jx_i σ 8 17 (1 : Int32)) 8 16 (v_cHea_numberOf x1 (jx_i σ 8 17 (1 : Int32))))) (by decide +kernel) rfl (fun hC => ?_)
    refine jE_call (as := [.ref 84, .int (v_cHea_numberOf x1 (jx_i σ 8 17 (1 : Int32)))]) (pc1 := 52) (st1 := [.ref 8]) hC rfl (by decide) (by omega) (xL_at (d - 1) 84 3000 (v_cHea_numberOf x1 (jx_i σ 8 17 (1 : Int32))) (jx_i (jx_i σ 8 17 (1 : Int32)) 8 16 (v_cHea_numberOf x1 (jx_i σ 8 17 (1 : Int32)))) (by decide) rfl rfl) ?_
    refine jE_blk (bs := []) (i := .invokevirtual 151) (a1 := 107) (a2 := 0) (pc1 := 52) (l1 := [(0, .ref 8), (1, .long x1)]) (st1 := [.long (jL_at 3000 (σ.2 85) (v_cHea_numberOf x1 (jx_i σ 8 17 (1 : Int32)))), .ref 8]) (σ1 := (jx_i (jx_i σ 8 17 (1 : Int32)) 8 16 (v_cHea_numberOf x1 (jx_i σ 8 17 (1 : Int32))))) (by decide +kernel) rfl (fun hC => ?_)
    obtain ⟨q1, hq, h⟩ := Option.bind_eq_some_iff.mp h
    refine jE_call (as := [.ref 8, .long (jL_at 3000 (σ.2 85) (v_cHea_numberOf x1 (jx_i σ 8 17 (1 : Int32))))]) (pc1 := 55) (st1 := []) hC rfl (by decide) (by omega) (x_cMac_force (d - 1) (by omega) (jL_at 3000 (σ.2 85) (v_cHea_numberOf x1 (jx_i σ 8 17 (1 : Int32)))) (jx_i (jx_i σ 8 17 (1 : Int32)) 8 16 (v_cHea_numberOf x1 (jx_i σ 8 17 (1 : Int32)))) q1 (none, q1) hq rfl) ?_
    refine jE_blk (bs := []) (i := .return_) (a1 := 0) (a2 := 0) (pc1 := 55) (l1 := [(0, .ref 8), (1, .long x1)]) (st1 := []) (σ1 := q1) (by decide +kernel) rfl (fun hC => ?_)
    have h9 := Option.some.inj h
    subst h9
    have e9 : ((none, q1) : Option Value × jx_S) = res := hK
    subst e9
    exact jE_ret hC rfl
  · rw [if_neg hc] at h
    refine jE_icF 24 hC (by decide) hc ?_
    refine jE_blk (bs := [(.aload_n 0, 0, 0), (.getfield 14, 8, 0), (.bipush (7), 7, 0), (.iconst (1), 1, 0)]) (i := .invokevirtual 121) (a1 := 137) (a2 := 0) (pc1 := 15) (l1 := [(0, .ref 8), (1, .long x1)]) (st1 := [.int (1 : Int32), .int (7 : Int32), .ref 70]) (σ1 := σ) (by decide +kernel) rfl (fun hC => ?_)
    refine jE_call (as := [.ref 70, .int (7 : Int32), .int (1 : Int32)]) (pc1 := 18) (st1 := []) hC rfl (by decide) (by omega) (xI_put (d - 1) 70 10 (7 : Int32) (1 : Int32) σ (by decide) rfl rfl) ?_
    refine jE_blk (bs := [(.aload_n 0, 0, 0), (.iconst (1), 1, 0), (.putfield 76, 8, 14)]) (i := .return_) (a1 := 0) (a2 := 0) (pc1 := 23) (l1 := [(0, .ref 8), (1, .long x1)]) (st1 := []) (σ1 := (jx_i (jI_put 10 σ 71 (7 : Int32) (1 : Int32)) 8 14 (1 : Int32))) (by decide +kernel) rfl (fun hC => ?_)
    have h9 := Option.some.inj h
    subst h9
    have e9 : ((none, (jx_i (jI_put 10 σ 71 (7 : Int32) (1 : Int32)) 8 14 (1 : Int32))) : Option Value × jx_S) = res := hK
    subst e9
    exact jE_ret hC rfl
def p_cMac_goAlong_38 (x1 : Int32) (σ : jx_S) : Option jx_S := (if ¬ (σ.1 8 17) = 0 then (if ¬ (x1 + (1 : Int32)) = (50 : Int32) then ((p_cMac_force (jL_at 3000 (σ.2 87) (σ.1 8 16)) (jI_put 10 (jI_put 50 (jx_i σ 8 17 (0 : Int32)) 73 x1 (v_cHea_numberOf (σ.2 8 15) (jx_i σ 8 17 (0 : Int32)))) 71 (6 : Int32) (x1 + (1 : Int32)))).bind fun q1 => (some (q1))) else (some ((jx_i (jI_put 10 (jI_put 50 (jx_i σ 8 17 (0 : Int32)) 73 x1 (v_cHea_numberOf (σ.2 8 15) (jx_i σ 8 17 (0 : Int32)))) 71 (6 : Int32) (x1 + (1 : Int32))) 8 14 (1 : Int32))))) else ((p_cMac_stepInto (σ.2 8 15) σ).bind fun q2 => (some (q2))))
theorem x_cMac_goAlong_38 (d : Nat) (hd : 5 ≤ d) (x1 : Int32) (σ : jx_S) (t : jx_S) (res : Option Value × jx_S) (h : p_cMac_goAlong_38 x1 σ = some t) (hK : kkV t res) : jE d 105 38 [(0, .ref 8), (1, .int x1)] [] σ res := by
  unfold p_cMac_goAlong_38 at h
  refine jE_blk (bs := [(.aload_n 0, 0, 0), (.getfield 82, 8, 17)]) (i := .ifCond .ne (12)) (a1 := 0) (a2 := 0) (pc1 := 42) (l1 := [(0, .ref 8), (1, .int x1)]) (st1 := [.int (σ.1 8 17)]) (σ1 := σ) (by decide +kernel) rfl (fun hC => ?_)
  rcases Classical.em (¬ (σ.1 8 17) = 0) with hc | hc
  · rw [if_pos hc] at h
    refine jE_ifT 54 hC (by decide) hc ?_
    refine jE_blk (bs := [(.aload_n 0, 0, 0), (.iconst (0), 0, 0), (.putfield 82, 8, 17), (.aload_n 0, 0, 0), (.getfield 20, 8, 1), (.iload_n 1, 0, 0), (.aload_n 0, 0, 0), (.getfield 113, 8, 15)]) (i := .invokestatic 117) (a1 := 131) (a2 := 0) (pc1 := 68) (l1 := [(0, .ref 8), (1, .int x1)]) (st1 := [.long (σ.2 8 15), .int x1, .ref 72]) (σ1 := (jx_i σ 8 17 (0 : Int32))) (by decide +kernel) rfl (fun hC => ?_)
    refine jE_call (as := [.long (σ.2 8 15)]) (pc1 := 71) (st1 := [.int x1, .ref 72]) hC rfl (by decide) (by omega) (xv_cHea_numberOf (d - 1) (by omega) (σ.2 8 15) (jx_i σ 8 17 (0 : Int32))) ?_
    refine jE_blk (bs := []) (i := .invokevirtual 121) (a1 := 137) (a2 := 0) (pc1 := 71) (l1 := [(0, .ref 8), (1, .int x1)]) (st1 := [.int (v_cHea_numberOf (σ.2 8 15) (jx_i σ 8 17 (0 : Int32))), .int x1, .ref 72]) (σ1 := (jx_i σ 8 17 (0 : Int32))) (by decide +kernel) rfl (fun hC => ?_)
    refine jE_call (as := [.ref 72, .int x1, .int (v_cHea_numberOf (σ.2 8 15) (jx_i σ 8 17 (0 : Int32)))]) (pc1 := 74) (st1 := []) hC rfl (by decide) (by omega) (xI_put (d - 1) 72 50 x1 (v_cHea_numberOf (σ.2 8 15) (jx_i σ 8 17 (0 : Int32))) (jx_i σ 8 17 (0 : Int32)) (by decide) rfl rfl) ?_
    refine jE_blk (bs := [(.aload_n 0, 0, 0), (.getfield 14, 8, 0), (.bipush (6), 6, 0), (.iload_n 1, 0, 0), (.iconst (1), 1, 0), (.iadd, 0, 0)]) (i := .invokevirtual 121) (a1 := 137) (a2 := 0) (pc1 := 83) (l1 := [(0, .ref 8), (1, .int x1)]) (st1 := [.int (x1 + (1 : Int32)), .int (6 : Int32), .ref 70]) (σ1 := (jI_put 50 (jx_i σ 8 17 (0 : Int32)) 73 x1 (v_cHea_numberOf (σ.2 8 15) (jx_i σ 8 17 (0 : Int32))))) (by decide +kernel) rfl (fun hC => ?_)
    refine jE_call (as := [.ref 70, .int (6 : Int32), .int (x1 + (1 : Int32))]) (pc1 := 86) (st1 := []) hC rfl (by decide) (by omega) (xI_put (d - 1) 70 10 (6 : Int32) (x1 + (1 : Int32)) (jI_put 50 (jx_i σ 8 17 (0 : Int32)) 73 x1 (v_cHea_numberOf (σ.2 8 15) (jx_i σ 8 17 (0 : Int32)))) (by decide) rfl rfl) ?_
    refine jE_blk (bs := [(.iload_n 1, 0, 0), (.iconst (1), 1, 0), (.iadd, 0, 0), (.bipush (50), 50, 0)]) (i := .if_icmp .ne (11)) (a1 := 0) (a2 := 0) (pc1 := 91) (l1 := [(0, .ref 8), (1, .int x1)]) (st1 := [.int (50 : Int32), .int (x1 + (1 : Int32))]) (σ1 := (jI_put 10 (jI_put 50 (jx_i σ 8 17 (0 : Int32)) 73 x1 (v_cHea_numberOf (σ.2 8 15) (jx_i σ 8 17 (0 : Int32)))) 71 (6 : Int32) (x1 + (1 : Int32)))) (by decide +kernel) rfl (fun hC => ?_)
    rcases Classical.em (¬ (x1 + (1 : Int32)) = (50 : Int32)) with hc | hc
    · rw [if_pos hc] at h
      refine jE_icT 102 hC (by decide) hc ?_
      refine jE_blk (bs := [(.aload_n 0, 0, 0), (.aload_n 0, 0, 0), (.getfield 26, 8, 5), (.getfield 142, 9, 1), (.aload_n 0, 0, 0), (.getfield 145, 8, 16)]) (i := .invokevirtual 148) (a1 := 140) (a2 := 0) (pc1 := 114) (l1 := [(0, .ref 8), (1, .int x1)]) (st1 := [.int (σ.1 8 16), .ref 86, .ref 8]) (σ1 := (jI_put 10 (jI_put 50 (jx_i σ 8 17 (0 : Int32)) 73 x1 (v_cHea_numberOf (σ.2 8 15) (jx_i σ 8 17 (0 : Int32)))) 71 (6 : Int32) (x1 + (1 : Int32)))) (by decide +kernel) rfl (fun hC => ?_)
      refine jE_call (as := [.ref 86, .int (σ.1 8 16)]) (pc1 := 117) (st1 := [.ref 8]) hC rfl (by decide) (by omega) (xL_at (d - 1) 86 3000 (σ.1 8 16) (jI_put 10 (jI_put 50 (jx_i σ 8 17 (0 : Int32)) 73 x1 (v_cHea_numberOf (σ.2 8 15) (jx_i σ 8 17 (0 : Int32)))) 71 (6 : Int32) (x1 + (1 : Int32))) (by decide) rfl rfl) ?_
      refine jE_blk (bs := []) (i := .invokevirtual 151) (a1 := 107) (a2 := 0) (pc1 := 117) (l1 := [(0, .ref 8), (1, .int x1)]) (st1 := [.long (jL_at 3000 (σ.2 87) (σ.1 8 16)), .ref 8]) (σ1 := (jI_put 10 (jI_put 50 (jx_i σ 8 17 (0 : Int32)) 73 x1 (v_cHea_numberOf (σ.2 8 15) (jx_i σ 8 17 (0 : Int32)))) 71 (6 : Int32) (x1 + (1 : Int32)))) (by decide +kernel) rfl (fun hC => ?_)
      obtain ⟨q1, hq, h⟩ := Option.bind_eq_some_iff.mp h
      refine jE_call (as := [.ref 8, .long (jL_at 3000 (σ.2 87) (σ.1 8 16))]) (pc1 := 120) (st1 := []) hC rfl (by decide) (by omega) (x_cMac_force (d - 1) (by omega) (jL_at 3000 (σ.2 87) (σ.1 8 16)) (jI_put 10 (jI_put 50 (jx_i σ 8 17 (0 : Int32)) 73 x1 (v_cHea_numberOf (σ.2 8 15) (jx_i σ 8 17 (0 : Int32)))) 71 (6 : Int32) (x1 + (1 : Int32))) q1 (none, q1) hq rfl) ?_
      refine jE_blk (bs := []) (i := .return_) (a1 := 0) (a2 := 0) (pc1 := 120) (l1 := [(0, .ref 8), (1, .int x1)]) (st1 := []) (σ1 := q1) (by decide +kernel) rfl (fun hC => ?_)
      have h9 := Option.some.inj h
      subst h9
      have e9 : ((none, q1) : Option Value × jx_S) = res := hK
      subst e9
      exact jE_ret hC rfl
    · rw [if_neg hc] at h
      refine jE_icF 102 hC (by decide) hc ?_
      refine jE_blk (bs := [(.aload_n 0, 0, 0), (.iconst (1), 1, 0), (.putfield 76, 8, 14), (.goto (21), 0, 0)]) (i := .return_) (a1 := 0) (a2 := 0) (pc1 := 120) (l1 := [(0, .ref 8), (1, .int x1)]) (st1 := []) (σ1 := (jx_i (jI_put 10 (jI_put 50 (jx_i σ 8 17 (0 : Int32)) 73 x1 (v_cHea_numberOf (σ.2 8 15) (jx_i σ 8 17 (0 : Int32)))) 71 (6 : Int32) (x1 + (1 : Int32))) 8 14 (1 : Int32))) (by decide +kernel) rfl (fun hC => ?_)
      have h9 := Option.some.inj h
      subst h9
      have e9 : ((none, (jx_i (jI_put 10 (jI_put 50 (jx_i σ 8 17 (0 : Int32)) 73 x1 (v_cHea_numberOf (σ.2 8 15) (jx_i σ 8 17 (0 : Int32)))) 71 (6 : Int32) (x1 + (1 : Int32))) 8 14 (1 : Int32))) : Option Value × jx_S) = res := hK
      subst e9
      exact jE_ret hC rfl
  · rw [if_neg hc] at h
    refine jE_ifF 54 hC (by decide) hc ?_
    refine jE_blk (bs := [(.aload_n 0, 0, 0), (.aload_n 0, 0, 0), (.getfield 113, 8, 15)]) (i := .invokevirtual 138) (a1 := 106) (a2 := 0) (pc1 := 50) (l1 := [(0, .ref 8), (1, .int x1)]) (st1 := [.long (σ.2 8 15), .ref 8]) (σ1 := σ) (by decide +kernel) rfl (fun hC => ?_)
    obtain ⟨q2, hq, h⟩ := Option.bind_eq_some_iff.mp h
    refine jE_call (as := [.ref 8, .long (σ.2 8 15)]) (pc1 := 53) (st1 := []) hC rfl (by decide) (by omega) (x_cMac_stepInto (d - 1) (by omega) (σ.2 8 15) σ q2 (none, q2) hq rfl) ?_
    refine jE_blk (bs := []) (i := .return_) (a1 := 0) (a2 := 0) (pc1 := 53) (l1 := [(0, .ref 8), (1, .int x1)]) (st1 := []) (σ1 := q2) (by decide +kernel) rfl (fun hC => ?_)
    have h9 := Option.some.inj h
    subst h9
    have e9 : ((none, q2) : Option Value × jx_S) = res := hK
    subst e9
    exact jE_ret hC rfl
def p_cMac_goAlong (σ : jx_S) : Option jx_S := (if (σ.1 8 18) = (-1 : Int32) then (p_cMac_goAlong_38 (jI_at 10 (σ.1 71) (6 : Int32)) σ) else ((p_cHea_settle (σ.1 8 18) (σ.2 8 15) σ).bind fun q3 => (p_cMac_goAlong_38 (jI_at 10 (σ.1 71) (6 : Int32)) (jx_i q3 8 18 (-1 : Int32)))))
theorem x_cMac_goAlong (d : Nat) (hd : 5 ≤ d) (σ : jx_S) (t : jx_S) (res : Option Value × jx_S) (h : p_cMac_goAlong σ = some t) (hK : kkV t res) : jE d 105 0 [(0, .ref 8)] [] σ res := by
  unfold p_cMac_goAlong at h
  refine jE_blk (bs := [(.aload_n 0, 0, 0), (.getfield 14, 8, 0), (.bipush (6), 6, 0)]) (i := .invokevirtual 90) (a1 := 136) (a2 := 0) (pc1 := 6) (l1 := [(0, .ref 8)]) (st1 := [.int (6 : Int32), .ref 70]) (σ1 := σ) (by decide +kernel) rfl (fun hC => ?_)
  refine jE_call (as := [.ref 70, .int (6 : Int32)]) (pc1 := 9) (st1 := []) hC rfl (by decide) (by omega) (xI_at (d - 1) 70 10 (6 : Int32) σ (by decide) rfl rfl) ?_
  refine jE_blk (bs := [(.istore_n 1, 2, 0), (.aload_n 0, 0, 0), (.getfield 79, 8, 18), (.iconst (-1), 1, 1)]) (i := .if_icmp .eq (23)) (a1 := 0) (a2 := 0) (pc1 := 15) (l1 := [(1, .int (jI_at 10 (σ.1 71) (6 : Int32))), (0, .ref 8)]) (st1 := [.int (-1 : Int32), .int (σ.1 8 18)]) (σ1 := σ) (by decide +kernel) rfl (fun hC => ?_)
  rcases Classical.em ((σ.1 8 18) = (-1 : Int32)) with hc | hc
  · rw [if_pos hc] at h
    refine jE_icT 38 hC (by decide) hc ?_
    exact jE_loc (l := [(0, .ref 8), (1, .int (jI_at 10 (σ.1 71) (6 : Int32)))]) (ks := [0, 1]) rfl (by decide) ⟨rfl, rfl, trivial⟩ (x_cMac_goAlong_38 d hd (jI_at 10 (σ.1 71) (6 : Int32)) σ _ res h hK)
  · rw [if_neg hc] at h
    refine jE_icF 38 hC (by decide) hc ?_
    refine jE_blk (bs := [(.aload_n 0, 0, 0), (.getfield 26, 8, 5), (.aload_n 0, 0, 0), (.getfield 79, 8, 18), (.aload_n 0, 0, 0), (.getfield 113, 8, 15)]) (i := .invokevirtual 135) (a1 := 135) (a2 := 0) (pc1 := 30) (l1 := [(1, .int (jI_at 10 (σ.1 71) (6 : Int32))), (0, .ref 8)]) (st1 := [.long (σ.2 8 15), .int (σ.1 8 18), .ref 9]) (σ1 := σ) (by decide +kernel) rfl (fun hC => ?_)
    obtain ⟨q3, hq, h⟩ := Option.bind_eq_some_iff.mp h
    refine jE_call (as := [.ref 9, .int (σ.1 8 18), .long (σ.2 8 15)]) (pc1 := 33) (st1 := []) hC rfl (by decide) (by omega) (x_cHea_settle (d - 1) (by omega) (σ.1 8 18) (σ.2 8 15) σ q3 (none, q3) hq rfl) ?_
    refine jE_blk (bs := [(.aload_n 0, 0, 0), (.iconst (-1), 1, 1), (.putfield 79, 8, 18)]) (i := .aload_n 0) (a1 := 0) (a2 := 0) (pc1 := 38) (l1 := [(1, .int (jI_at 10 (σ.1 71) (6 : Int32))), (0, .ref 8)]) (st1 := []) (σ1 := (jx_i q3 8 18 (-1 : Int32))) (by decide +kernel) rfl (fun hC => ?_)
    exact jE_loc (l := [(0, .ref 8), (1, .int (jI_at 10 (σ.1 71) (6 : Int32)))]) (ks := [0, 1]) rfl (by decide) ⟨rfl, rfl, trivial⟩ (x_cMac_goAlong_38 d hd (jI_at 10 (σ.1 71) (6 : Int32)) (jx_i q3 8 18 (-1 : Int32)) _ res h hK)
def kk_cMac_runFunction_48 (d : Nat) (t : ((Int32 × Int32 × jx_S) ⊕ (Int32 × jx_S))) (res : Option Value × jx_S) : Prop := match t with
  | .inl s => jE d 104 48 [(0, .ref 8), (1, .int s.1), (2, .ref 12), (5, .int s.2.1)] [] s.2.2 res
  | .inr t => kkI t res
def kk_cMac_runFunction_97 (d : Nat) (t : ((Int32 × Int32 × jx_S) ⊕ (Int32 × jx_S))) (res : Option Value × jx_S) : Prop := match t with
  | .inl s => jE d 104 97 [(0, .ref 8), (1, .int s.1), (5, .int s.2.1)] [] s.2.2 res
  | .inr t => kkI t res
def p_cMac_runFunction_198 (σ : jx_S) : Option (Int32 × jx_S) := (some (((σ.1 8 14), (jI_put 10 (jI_put 10 (jI_put 10 σ 71 (1 : Int32) (σ.1 9 12)) 71 (2 : Int32) ((σ.1 9 12) - (σ.1 9 13))) 71 (3 : Int32) (σ.1 9 11)))))
theorem x_cMac_runFunction_198 (d : Nat) (hd : 135 ≤ d) (σ : jx_S) (t : (Int32 × jx_S)) (res : Option Value × jx_S) (h : p_cMac_runFunction_198 σ = some t) (hK : kkI t res) : jE d 104 198 [(0, .ref 8)] [] σ res := by
  unfold p_cMac_runFunction_198 at h
  refine jE_blk (bs := [(.aload_n 0, 0, 0), (.getfield 14, 8, 0), (.iconst (1), 1, 0), (.aload_n 0, 0, 0), (.getfield 26, 8, 5), (.getfield 126, 9, 12)]) (i := .invokevirtual 121) (a1 := 137) (a2 := 0) (pc1 := 210) (l1 := [(0, .ref 8)]) (st1 := [.int (σ.1 9 12), .int (1 : Int32), .ref 70]) (σ1 := σ) (by decide +kernel) rfl (fun hC => ?_)
  refine jE_call (as := [.ref 70, .int (1 : Int32), .int (σ.1 9 12)]) (pc1 := 213) (st1 := []) hC rfl (by decide) (by omega) (xI_put (d - 1) 70 10 (1 : Int32) (σ.1 9 12) σ (by decide) rfl rfl) ?_
  refine jE_blk (bs := [(.aload_n 0, 0, 0), (.getfield 14, 8, 0), (.iconst (2), 2, 0), (.aload_n 0, 0, 0), (.getfield 26, 8, 5), (.getfield 126, 9, 12), (.aload_n 0, 0, 0), (.getfield 26, 8, 5), (.getfield 129, 9, 13), (.isub, 0, 0)]) (i := .invokevirtual 121) (a1 := 137) (a2 := 0) (pc1 := 233) (l1 := [(0, .ref 8)]) (st1 := [.int ((σ.1 9 12) - (σ.1 9 13)), .int (2 : Int32), .ref 70]) (σ1 := (jI_put 10 σ 71 (1 : Int32) (σ.1 9 12))) (by decide +kernel) rfl (fun hC => ?_)
  refine jE_call (as := [.ref 70, .int (2 : Int32), .int ((σ.1 9 12) - (σ.1 9 13))]) (pc1 := 236) (st1 := []) hC rfl (by decide) (by omega) (xI_put (d - 1) 70 10 (2 : Int32) ((σ.1 9 12) - (σ.1 9 13)) (jI_put 10 σ 71 (1 : Int32) (σ.1 9 12)) (by decide) rfl rfl) ?_
  refine jE_blk (bs := [(.aload_n 0, 0, 0), (.getfield 14, 8, 0), (.iconst (3), 3, 0), (.aload_n 0, 0, 0), (.getfield 26, 8, 5), (.getfield 132, 9, 11)]) (i := .invokevirtual 121) (a1 := 137) (a2 := 0) (pc1 := 248) (l1 := [(0, .ref 8)]) (st1 := [.int (σ.1 9 11), .int (3 : Int32), .ref 70]) (σ1 := (jI_put 10 (jI_put 10 σ 71 (1 : Int32) (σ.1 9 12)) 71 (2 : Int32) ((σ.1 9 12) - (σ.1 9 13)))) (by decide +kernel) rfl (fun hC => ?_)
  refine jE_call (as := [.ref 70, .int (3 : Int32), .int (σ.1 9 11)]) (pc1 := 251) (st1 := []) hC rfl (by decide) (by omega) (xI_put (d - 1) 70 10 (3 : Int32) (σ.1 9 11) (jI_put 10 (jI_put 10 σ 71 (1 : Int32) (σ.1 9 12)) 71 (2 : Int32) ((σ.1 9 12) - (σ.1 9 13))) (by decide) rfl rfl) ?_
  refine jE_blk (bs := [(.aload_n 0, 0, 0), (.getfield 76, 8, 14)]) (i := .ireturn) (a1 := 0) (a2 := 0) (pc1 := 255) (l1 := [(0, .ref 8)]) (st1 := [.int (σ.1 8 14)]) (σ1 := (jI_put 10 (jI_put 10 (jI_put 10 σ 71 (1 : Int32) (σ.1 9 12)) 71 (2 : Int32) ((σ.1 9 12) - (σ.1 9 13))) 71 (3 : Int32) (σ.1 9 11))) (by decide +kernel) rfl (fun hC => ?_)
  have h9 := Option.some.inj h
  subst h9
  have e9 : ((some (.int (σ.1 8 14)), (jI_put 10 (jI_put 10 (jI_put 10 σ 71 (1 : Int32) (σ.1 9 12)) 71 (2 : Int32) ((σ.1 9 12) - (σ.1 9 13))) 71 (3 : Int32) (σ.1 9 11))) : Option Value × jx_S) = res := hK
  subst e9
  exact jE_ret hC rfl
def p_cMac_runFunction_192 (x1 : Int32) (x5 : Int32) (σ : jx_S) : Option ((Int32 × Int32 × jx_S) ⊕ (Int32 × jx_S)) := (some (.inl (x1, (x5 + 1), σ)))
theorem x_cMac_runFunction_192 (d : Nat) (hd : 135 ≤ d) (x1 : Int32) (x5 : Int32) (σ : jx_S) (t : ((Int32 × Int32 × jx_S) ⊕ (Int32 × jx_S))) (res : Option Value × jx_S) (h : p_cMac_runFunction_192 x1 x5 σ = some t) (hK : kk_cMac_runFunction_97 d t res) : jE d 104 192 [(0, .ref 8), (1, .int x1), (5, .int x5)] [] σ res := by
  unfold p_cMac_runFunction_192 at h
  refine jE_blk (bs := [(.iinc 5 (1), 6, 2), (.goto (-98), 0, 0)]) (i := .iload 5) (a1 := 0) (a2 := 0) (pc1 := 97) (l1 := [(5, .int (x5 + 1)), (0, .ref 8), (1, .int x1)]) (st1 := []) (σ1 := σ) (by decide +kernel) rfl (fun hC => ?_)
  have h9 := Option.some.inj h
  subst h9
  exact jE_loc (l := [(0, .ref 8), (1, .int x1), (5, .int (x5 + 1))]) (ks := [0, 1, 5]) rfl (by decide) ⟨rfl, rfl, rfl, trivial⟩ hK
def p_cMac_runFunction_97_s (x1 : Int32) (x5 : Int32) (σ : jx_S) : Option ((Int32 × Int32 × jx_S) ⊕ (Int32 × jx_S)) := (if (1000000 : Int32) ≤ x5 then (Option.map Sum.inr (p_cMac_runFunction_198 σ)) else (if ¬ (σ.1 8 14) = 0 then (Option.map Sum.inr (p_cMac_runFunction_198 σ)) else (if (σ.1 8 11) ≤ 0 then (if ¬ (jI_at 40 (σ.1 45) x1) = 0 then ((p_cMac_goAlong σ).bind fun q5 => (p_cMac_runFunction_192 x1 x5 q5)) else (p_cMac_runFunction_192 x1 x5 (jI_put 10 (jx_i σ 8 14 (1 : Int32)) 71 (5 : Int32) (v_cHea_numberOf (σ.2 8 15) (jx_i σ 8 14 (1 : Int32)))))) else ((p_cMac_workOn (jI_at 250 (σ.1 75) ((σ.1 8 11) - (1 : Int32))) (jI_at 250 (σ.1 79) ((σ.1 8 11) - (1 : Int32))) σ).bind fun q6 => (p_cMac_runFunction_192 x1 x5 q6)))))
theorem x_cMac_runFunction_97_s (d : Nat) (hd : 135 ≤ d) (x1 : Int32) (x5 : Int32) (σ : jx_S) (t : ((Int32 × Int32 × jx_S) ⊕ (Int32 × jx_S))) (res : Option Value × jx_S) (h : p_cMac_runFunction_97_s x1 x5 σ = some t) (hK : kk_cMac_runFunction_97 d t res) : jE d 104 97 [(0, .ref 8), (1, .int x1), (5, .int x5)] [] σ res := by
  unfold p_cMac_runFunction_97_s at h
  refine jE_blk (bs := [(.iload 5, 0, 0), (.ldc 105, 1000000, 0)]) (i := .if_icmp .ge (97)) (a1 := 0) (a2 := 0) (pc1 := 101) (l1 := [(0, .ref 8), (1, .int x1), (5, .int x5)]) (st1 := [.int (1000000 : Int32), .int x5]) (σ1 := σ) (by decide +kernel) rfl (fun hC => ?_)
  rcases Classical.em ((1000000 : Int32) ≤ x5) with hc | hc
  · rw [if_pos hc] at h
    refine jE_icT 198 hC (by decide) hc ?_
    obtain ⟨t9_3, h9_3, h8_3⟩ := Option.map_eq_some_iff.mp h
    clear h
    subst h8_3
    have h := h9_3
    clear h9_3
    exact jE_loc (l := [(0, .ref 8)]) (ks := [0]) rfl (by decide) ⟨rfl, trivial⟩ (x_cMac_runFunction_198 d hd σ _ res h hK)
  · rw [if_neg hc] at h
    refine jE_icF 198 hC (by decide) hc ?_
    refine jE_blk (bs := [(.aload_n 0, 0, 0), (.getfield 76, 8, 14)]) (i := .ifCond .ne (90)) (a1 := 0) (a2 := 0) (pc1 := 108) (l1 := [(0, .ref 8), (1, .int x1), (5, .int x5)]) (st1 := [.int (σ.1 8 14)]) (σ1 := σ) (by decide +kernel) rfl (fun hC => ?_)
    rcases Classical.em (¬ (σ.1 8 14) = 0) with hc | hc
    · rw [if_pos hc] at h
      refine jE_ifT 198 hC (by decide) hc ?_
      obtain ⟨t9_4, h9_4, h8_4⟩ := Option.map_eq_some_iff.mp h
      clear h
      subst h8_4
      have h := h9_4
      clear h9_4
      exact jE_loc (l := [(0, .ref 8)]) (ks := [0]) rfl (by decide) ⟨rfl, trivial⟩ (x_cMac_runFunction_198 d hd σ _ res h hK)
    · rw [if_neg hc] at h
      refine jE_ifF 198 hC (by decide) hc ?_
      refine jE_blk (bs := [(.aload_n 0, 0, 0), (.getfield 65, 8, 11)]) (i := .ifCond .le (36)) (a1 := 0) (a2 := 0) (pc1 := 115) (l1 := [(0, .ref 8), (1, .int x1), (5, .int x5)]) (st1 := [.int (σ.1 8 11)]) (σ1 := σ) (by decide +kernel) rfl (fun hC => ?_)
      rcases Classical.em ((σ.1 8 11) ≤ 0) with hc | hc
      · rw [if_pos hc] at h
        refine jE_ifT 151 hC (by decide) hc ?_
        refine jE_blk (bs := [(.aload_n 0, 0, 0), (.getfield 57, 8, 4), (.getfield 110, 4, 2), (.iload_n 1, 0, 0)]) (i := .invokevirtual 90) (a1 := 136) (a2 := 0) (pc1 := 159) (l1 := [(0, .ref 8), (1, .int x1), (5, .int x5)]) (st1 := [.int x1, .ref 44]) (σ1 := σ) (by decide +kernel) rfl (fun hC => ?_)
        refine jE_call (as := [.ref 44, .int x1]) (pc1 := 162) (st1 := []) hC rfl (by decide) (by omega) (xI_at (d - 1) 44 40 x1 σ (by decide) rfl rfl) ?_
        refine jE_blk (bs := []) (i := .ifCond .ne (26)) (a1 := 0) (a2 := 0) (pc1 := 162) (l1 := [(0, .ref 8), (1, .int x1), (5, .int x5)]) (st1 := [.int (jI_at 40 (σ.1 45) x1)]) (σ1 := σ) (by decide +kernel) rfl (fun hC => ?_)
        rcases Classical.em (¬ (jI_at 40 (σ.1 45) x1) = 0) with hc | hc
        · rw [if_pos hc] at h
          refine jE_ifT 188 hC (by decide) hc ?_
          refine jE_blk (bs := [(.aload_n 0, 0, 0)]) (i := .invokevirtual 123) (a1 := 105) (a2 := 0) (pc1 := 189) (l1 := [(0, .ref 8), (1, .int x1), (5, .int x5)]) (st1 := [.ref 8]) (σ1 := σ) (by decide +kernel) rfl (fun hC => ?_)
          obtain ⟨q5, hq, h⟩ := Option.bind_eq_some_iff.mp h
          refine jE_call (as := [.ref 8]) (pc1 := 192) (st1 := []) hC rfl (by decide) (by omega) (x_cMac_goAlong (d - 1) (by omega) σ q5 (none, q5) hq rfl) ?_
          exact jE_loc (l := [(0, .ref 8), (1, .int x1), (5, .int x5)]) (ks := [0, 1, 5]) rfl (by decide) ⟨rfl, rfl, rfl, trivial⟩ (x_cMac_runFunction_192 d hd x1 x5 q5 _ res h hK)
        · rw [if_neg hc] at h
          refine jE_ifF 188 hC (by decide) hc ?_
          refine jE_blk (bs := [(.aload_n 0, 0, 0), (.iconst (1), 1, 0), (.putfield 76, 8, 14), (.aload_n 0, 0, 0), (.getfield 14, 8, 0), (.iconst (5), 5, 0), (.aload_n 0, 0, 0), (.getfield 113, 8, 15)]) (i := .invokestatic 117) (a1 := 131) (a2 := 0) (pc1 := 179) (l1 := [(0, .ref 8), (1, .int x1), (5, .int x5)]) (st1 := [.long (σ.2 8 15), .int (5 : Int32), .ref 70]) (σ1 := (jx_i σ 8 14 (1 : Int32))) (by decide +kernel) rfl (fun hC => ?_)
          refine jE_call (as := [.long (σ.2 8 15)]) (pc1 := 182) (st1 := [.int (5 : Int32), .ref 70]) hC rfl (by decide) (by omega) (xv_cHea_numberOf (d - 1) (by omega) (σ.2 8 15) (jx_i σ 8 14 (1 : Int32))) ?_
          refine jE_blk (bs := []) (i := .invokevirtual 121) (a1 := 137) (a2 := 0) (pc1 := 182) (l1 := [(0, .ref 8), (1, .int x1), (5, .int x5)]) (st1 := [.int (v_cHea_numberOf (σ.2 8 15) (jx_i σ 8 14 (1 : Int32))), .int (5 : Int32), .ref 70]) (σ1 := (jx_i σ 8 14 (1 : Int32))) (by decide +kernel) rfl (fun hC => ?_)
          refine jE_call (as := [.ref 70, .int (5 : Int32), .int (v_cHea_numberOf (σ.2 8 15) (jx_i σ 8 14 (1 : Int32)))]) (pc1 := 185) (st1 := []) hC rfl (by decide) (by omega) (xI_put (d - 1) 70 10 (5 : Int32) (v_cHea_numberOf (σ.2 8 15) (jx_i σ 8 14 (1 : Int32))) (jx_i σ 8 14 (1 : Int32)) (by decide) rfl rfl) ?_
          refine jE_blk (bs := [(.goto (7), 0, 0)]) (i := .iinc 5 (1)) (a1 := 6) (a2 := 2) (pc1 := 192) (l1 := [(0, .ref 8), (1, .int x1), (5, .int x5)]) (st1 := []) (σ1 := (jI_put 10 (jx_i σ 8 14 (1 : Int32)) 71 (5 : Int32) (v_cHea_numberOf (σ.2 8 15) (jx_i σ 8 14 (1 : Int32))))) (by decide +kernel) rfl (fun hC => ?_)
          exact jE_loc (l := [(0, .ref 8), (1, .int x1), (5, .int x5)]) (ks := [0, 1, 5]) rfl (by decide) ⟨rfl, rfl, rfl, trivial⟩ (x_cMac_runFunction_192 d hd x1 x5 (jI_put 10 (jx_i σ 8 14 (1 : Int32)) 71 (5 : Int32) (v_cHea_numberOf (σ.2 8 15) (jx_i σ 8 14 (1 : Int32)))) _ res h hK)
      · rw [if_neg hc] at h
        refine jE_ifF 151 hC (by decide) hc ?_
        refine jE_blk (bs := [(.aload_n 0, 0, 0), (.aload_n 0, 0, 0), (.getfield 30, 8, 6), (.aload_n 0, 0, 0), (.getfield 65, 8, 11), (.iconst (1), 1, 0), (.isub, 0, 0)]) (i := .invokevirtual 90) (a1 := 136) (a2 := 0) (pc1 := 129) (l1 := [(0, .ref 8), (1, .int x1), (5, .int x5)]) (st1 := [.int ((σ.1 8 11) - (1 : Int32)), .ref 74, .ref 8]) (σ1 := σ) (by decide +kernel) rfl (fun hC => ?_)
        refine jE_call (as := [.ref 74, .int ((σ.1 8 11) - (1 : Int32))]) (pc1 := 132) (st1 := [.ref 8]) hC rfl (by decide) (by omega) (xI_at (d - 1) 74 250 ((σ.1 8 11) - (1 : Int32)) σ (by decide) rfl rfl) ?_
        refine jE_blk (bs := [(.aload_n 0, 0, 0), (.getfield 36, 8, 8), (.aload_n 0, 0, 0), (.getfield 65, 8, 11), (.iconst (1), 1, 0), (.isub, 0, 0)]) (i := .invokevirtual 90) (a1 := 136) (a2 := 0) (pc1 := 142) (l1 := [(0, .ref 8), (1, .int x1), (5, .int x5)]) (st1 := [.int ((σ.1 8 11) - (1 : Int32)), .ref 78, .int (jI_at 250 (σ.1 75) ((σ.1 8 11) - (1 : Int32))), .ref 8]) (σ1 := σ) (by decide +kernel) rfl (fun hC => ?_)
        refine jE_call (as := [.ref 78, .int ((σ.1 8 11) - (1 : Int32))]) (pc1 := 145) (st1 := [.int (jI_at 250 (σ.1 75) ((σ.1 8 11) - (1 : Int32))), .ref 8]) hC rfl (by decide) (by omega) (xI_at (d - 1) 78 250 ((σ.1 8 11) - (1 : Int32)) σ (by decide) rfl rfl) ?_
        refine jE_blk (bs := []) (i := .invokevirtual 106) (a1 := 113) (a2 := 0) (pc1 := 145) (l1 := [(0, .ref 8), (1, .int x1), (5, .int x5)]) (st1 := [.int (jI_at 250 (σ.1 79) ((σ.1 8 11) - (1 : Int32))), .int (jI_at 250 (σ.1 75) ((σ.1 8 11) - (1 : Int32))), .ref 8]) (σ1 := σ) (by decide +kernel) rfl (fun hC => ?_)
        obtain ⟨q6, hq, h⟩ := Option.bind_eq_some_iff.mp h
        refine jE_call (as := [.ref 8, .int (jI_at 250 (σ.1 75) ((σ.1 8 11) - (1 : Int32))), .int (jI_at 250 (σ.1 79) ((σ.1 8 11) - (1 : Int32)))]) (pc1 := 148) (st1 := []) hC rfl (by decide) (by omega) (x_cMac_workOn (d - 1) (by omega) (jI_at 250 (σ.1 75) ((σ.1 8 11) - (1 : Int32))) (jI_at 250 (σ.1 79) ((σ.1 8 11) - (1 : Int32))) σ q6 (none, q6) hq rfl) ?_
        refine jE_blk (bs := [(.goto (44), 0, 0)]) (i := .iinc 5 (1)) (a1 := 6) (a2 := 2) (pc1 := 192) (l1 := [(0, .ref 8), (1, .int x1), (5, .int x5)]) (st1 := []) (σ1 := q6) (by decide +kernel) rfl (fun hC => ?_)
        exact jE_loc (l := [(0, .ref 8), (1, .int x1), (5, .int x5)]) (ks := [0, 1, 5]) rfl (by decide) ⟨rfl, rfl, rfl, trivial⟩ (x_cMac_runFunction_192 d hd x1 x5 q6 _ res h hK)
def p_cMac_runFunction_97 (x1 : Int32) (x5 : Int32) (σ : jx_S) : Option (Int32 × jx_S) := jx_loop 100000000 (fun s => p_cMac_runFunction_97_s s.1 s.2.1 (s.2.2)) (x1, x5, σ)
theorem x_cMac_runFunction_97 (d : Nat) (hd : 135 ≤ d) (x1 : Int32) (x5 : Int32) (σ : jx_S) (t : (Int32 × jx_S)) (res : Option Value × jx_S) (h : p_cMac_runFunction_97 x1 x5 σ = some t) (hK : kkI t res) : jE d 104 97 [(0, .ref 8), (1, .int x1), (5, .int x5)] [] σ res := by
  refine jx_loop_ok (E := fun s t => ∀ res, kkI t res → jE d 104 97 [(0, .ref 8), (1, .int s.1), (5, .int s.2.1)] [] s.2.2 res) (fun s t hs => ?_) _ _ _ h res hK
  cases t with
  | inl s1 => exact fun b hb res hk => x_cMac_runFunction_97_s d hd (s.1) (s.2.1) (s.2.2) _ res hs (hb res hk)
  | inr b => exact fun res hk => x_cMac_runFunction_97_s d hd (s.1) (s.2.1) (s.2.2) _ res hs hk
def p_cMac_runFunction_48_s (x1 : Int32) (x5 : Int32) (σ : jx_S) : Option ((Int32 × Int32 × jx_S) ⊕ (Int32 × jx_S)) := (if (jI_at 40 (σ.1 43) x1) ≤ x5 then (Option.map Sum.inr ((p_cMac_enter x1 σ).bind fun q2 => (p_cMac_runFunction_97 x1 (0 : Int32) q2))) else (some (.inl (x1, (x5 + 1), (jL_put 8 σ 83 x5 (v_cHea_hold (1 : Int32) (jI_at 8 (σ.1 13) x5) σ))))))
theorem x_cMac_runFunction_48_s (d : Nat) (hd : 135 ≤ d) (x1 : Int32) (x5 : Int32) (σ : jx_S) (t : ((Int32 × Int32 × jx_S) ⊕ (Int32 × jx_S))) (res : Option Value × jx_S) (h : p_cMac_runFunction_48_s x1 x5 σ = some t) (hK : kk_cMac_runFunction_48 d t res) : jE d 104 48 [(0, .ref 8), (1, .int x1), (2, .ref 12), (5, .int x5)] [] σ res := by
  unfold p_cMac_runFunction_48_s at h
  refine jE_blk (bs := [(.iload 5, 0, 0), (.aload_n 0, 0, 0), (.getfield 57, 8, 4), (.getfield 85, 4, 1), (.iload_n 1, 0, 0)]) (i := .invokevirtual 90) (a1 := 136) (a2 := 0) (pc1 := 58) (l1 := [(0, .ref 8), (1, .int x1), (2, .ref 12), (5, .int x5)]) (st1 := [.int x1, .ref 42, .int x5]) (σ1 := σ) (by decide +kernel) rfl (fun hC => ?_)
  refine jE_call (as := [.ref 42, .int x1]) (pc1 := 61) (st1 := [.int x5]) hC rfl (by decide) (by omega) (xI_at (d - 1) 42 40 x1 σ (by decide) rfl rfl) ?_
  refine jE_blk (bs := []) (i := .if_icmp .ge (28)) (a1 := 0) (a2 := 0) (pc1 := 61) (l1 := [(0, .ref 8), (1, .int x1), (2, .ref 12), (5, .int x5)]) (st1 := [.int (jI_at 40 (σ.1 43) x1), .int x5]) (σ1 := σ) (by decide +kernel) rfl (fun hC => ?_)
  rcases Classical.em ((jI_at 40 (σ.1 43) x1) ≤ x5) with hc | hc
  · rw [if_pos hc] at h
    refine jE_icT 89 hC (by decide) hc ?_
    obtain ⟨t9_7, h9_7, h8_7⟩ := Option.map_eq_some_iff.mp h
    clear h
    subst h8_7
    have h := h9_7
    clear h9_7
    refine jE_blk (bs := [(.aload_n 0, 0, 0), (.iload_n 1, 0, 0)]) (i := .invokevirtual 102) (a1 := 126) (a2 := 0) (pc1 := 91) (l1 := [(0, .ref 8), (1, .int x1), (2, .ref 12), (5, .int x5)]) (st1 := [.int x1, .ref 8]) (σ1 := σ) (by decide +kernel) rfl (fun hC => ?_)
    obtain ⟨q2, hq, h⟩ := Option.bind_eq_some_iff.mp h
    refine jE_call (as := [.ref 8, .int x1]) (pc1 := 94) (st1 := []) hC rfl (by decide) (by omega) (x_cMac_enter (d - 1) (by omega) x1 σ q2 (none, q2) hq rfl) ?_
    refine jE_blk (bs := [(.iconst (0), 0, 0), (.istore 5, 6, 0)]) (i := .iload 5) (a1 := 0) (a2 := 0) (pc1 := 97) (l1 := [(5, .int (0 : Int32)), (0, .ref 8), (1, .int x1), (2, .ref 12)]) (st1 := []) (σ1 := q2) (by decide +kernel) rfl (fun hC => ?_)
    exact jE_loc (l := [(0, .ref 8), (1, .int x1), (5, .int (0 : Int32))]) (ks := [0, 1, 5]) rfl (by decide) ⟨rfl, rfl, rfl, trivial⟩ (x_cMac_runFunction_97 d hd x1 (0 : Int32) q2 _ res h hK)
  · rw [if_neg hc] at h
    refine jE_icF 89 hC (by decide) hc ?_
    refine jE_blk (bs := [(.aload_n 0, 0, 0), (.getfield 46, 8, 10), (.iload 5, 0, 0), (.iconst (1), 1, 0), (.aload_n 2, 0, 0), (.iload 5, 0, 0)]) (i := .invokevirtual 90) (a1 := 136) (a2 := 0) (pc1 := 74) (l1 := [(0, .ref 8), (1, .int x1), (2, .ref 12), (5, .int x5)]) (st1 := [.int x5, .ref 12, .int (1 : Int32), .int x5, .ref 82]) (σ1 := σ) (by decide +kernel) rfl (fun hC => ?_)
    refine jE_call (as := [.ref 12, .int x5]) (pc1 := 77) (st1 := [.int (1 : Int32), .int x5, .ref 82]) hC rfl (by decide) (by omega) (xI_at (d - 1) 12 8 x5 σ (by decide) rfl rfl) ?_
    refine jE_blk (bs := []) (i := .invokestatic 94) (a1 := 129) (a2 := 0) (pc1 := 77) (l1 := [(0, .ref 8), (1, .int x1), (2, .ref 12), (5, .int x5)]) (st1 := [.int (jI_at 8 (σ.1 13) x5), .int (1 : Int32), .int x5, .ref 82]) (σ1 := σ) (by decide +kernel) rfl (fun hC => ?_)
    refine jE_call (as := [.int (1 : Int32), .int (jI_at 8 (σ.1 13) x5)]) (pc1 := 80) (st1 := [.int x5, .ref 82]) hC rfl (by decide) (by omega) (xv_cHea_hold (d - 1) (by omega) (1 : Int32) (jI_at 8 (σ.1 13) x5) σ) ?_
    refine jE_blk (bs := []) (i := .invokevirtual 98) (a1 := 141) (a2 := 0) (pc1 := 80) (l1 := [(0, .ref 8), (1, .int x1), (2, .ref 12), (5, .int x5)]) (st1 := [.long (v_cHea_hold (1 : Int32) (jI_at 8 (σ.1 13) x5) σ), .int x5, .ref 82]) (σ1 := σ) (by decide +kernel) rfl (fun hC => ?_)
    refine jE_call (as := [.ref 82, .int x5, .long (v_cHea_hold (1 : Int32) (jI_at 8 (σ.1 13) x5) σ)]) (pc1 := 83) (st1 := []) hC rfl (by decide) (by omega) (xL_put (d - 1) 82 8 x5 (v_cHea_hold (1 : Int32) (jI_at 8 (σ.1 13) x5) σ) σ (by decide) rfl rfl) ?_
    refine jE_blk (bs := [(.iinc 5 (1), 6, 2), (.goto (-38), 0, 0)]) (i := .iload 5) (a1 := 0) (a2 := 0) (pc1 := 48) (l1 := [(5, .int (x5 + 1)), (0, .ref 8), (1, .int x1), (2, .ref 12)]) (st1 := []) (σ1 := (jL_put 8 σ 83 x5 (v_cHea_hold (1 : Int32) (jI_at 8 (σ.1 13) x5) σ))) (by decide +kernel) rfl (fun hC => ?_)
    have h9 := Option.some.inj h
    subst h9
    exact jE_loc (l := [(0, .ref 8), (1, .int x1), (2, .ref 12), (5, .int (x5 + 1))]) (ks := [0, 1, 2, 5]) rfl (by decide) ⟨rfl, rfl, rfl, rfl, trivial⟩ hK
def p_cMac_runFunction_48 (x1 : Int32) (x5 : Int32) (σ : jx_S) : Option (Int32 × jx_S) := jx_loop 100000000 (fun s => p_cMac_runFunction_48_s s.1 s.2.1 (s.2.2)) (x1, x5, σ)
theorem x_cMac_runFunction_48 (d : Nat) (hd : 135 ≤ d) (x1 : Int32) (x5 : Int32) (σ : jx_S) (t : (Int32 × jx_S)) (res : Option Value × jx_S) (h : p_cMac_runFunction_48 x1 x5 σ = some t) (hK : kkI t res) : jE d 104 48 [(0, .ref 8), (1, .int x1), (2, .ref 12), (5, .int x5)] [] σ res := by
  refine jx_loop_ok (E := fun s t => ∀ res, kkI t res → jE d 104 48 [(0, .ref 8), (1, .int s.1), (2, .ref 12), (5, .int s.2.1)] [] s.2.2 res) (fun s t hs => ?_) _ _ _ h res hK
  cases t with
  | inl s1 => exact fun b hb res hk => x_cMac_runFunction_48_s d hd (s.1) (s.2.1) (s.2.2) _ res hs (hb res hk)
  | inr b => exact fun res hk => x_cMac_runFunction_48_s d hd (s.1) (s.2.1) (s.2.2) _ res hs hk
def p_cMac_runFunction (x1 : Int32) (x3 : Int32) (x4 : Int32) (σ : jx_S) : Option (Int32 × jx_S) := ((p_cHea_clear (jI_clr 10 σ 71)).bind fun q1 => (if x4 = 0 ∨ x4 = 1 then (p_cMac_runFunction_48 x1 (0 : Int32) (jx_i (jx_i (jx_i (jx_i (jx_i (jx_i q1 8 11 (0 : Int32)) 8 12 x3) 8 13 x4) 8 14 (0 : Int32)) 8 18 (-1 : Int32)) 8 17 (0 : Int32))) else none))
theorem x_cMac_runFunction (d : Nat) (hd : 135 ≤ d) (x1 : Int32) (x3 : Int32) (x4 : Int32) (σ : jx_S) (t : (Int32 × jx_S)) (res : Option Value × jx_S) (h : p_cMac_runFunction x1 x3 x4 σ = some t) (hK : kkI t res) : jE d 104 0 [(0, .ref 8), (1, .int x1), (2, .ref 12), (3, .int x3), (4, .int x4)] [] σ res := by
  unfold p_cMac_runFunction at h
  refine jE_blk (bs := [(.aload_n 0, 0, 0), (.getfield 14, 8, 0)]) (i := .invokevirtual 61) (a1 := 139) (a2 := 0) (pc1 := 4) (l1 := [(0, .ref 8), (1, .int x1), (2, .ref 12), (3, .int x3), (4, .int x4)]) (st1 := [.ref 70]) (σ1 := σ) (by decide +kernel) rfl (fun hC => ?_)
  refine jE_call (as := [.ref 70]) (pc1 := 7) (st1 := []) hC rfl (by decide) (by omega) (xI_clear (d - 1) 70 10 σ (by decide) rfl rfl) ?_
  refine jE_blk (bs := [(.aload_n 0, 0, 0), (.getfield 26, 8, 5)]) (i := .invokevirtual 64) (a1 := 132) (a2 := 0) (pc1 := 11) (l1 := [(0, .ref 8), (1, .int x1), (2, .ref 12), (3, .int x3), (4, .int x4)]) (st1 := [.ref 9]) (σ1 := (jI_clr 10 σ 71)) (by decide +kernel) rfl (fun hC => ?_)
  obtain ⟨q1, hq, h⟩ := Option.bind_eq_some_iff.mp h
  refine jE_call (as := [.ref 9]) (pc1 := 14) (st1 := []) hC rfl (by decide) (by omega) (x_cHea_clear (d - 1) (by omega) (jI_clr 10 σ 71) q1 (none, q1) hq rfl) ?_
  refine jE_blk (bs := [(.aload_n 0, 0, 0), (.iconst (0), 0, 0), (.putfield 65, 8, 11), (.aload_n 0, 0, 0), (.iload_n 3, 0, 0), (.putfield 69, 8, 12), (.aload_n 0, 0, 0), (.iload 4, 0, 0)]) (i := .putfield 72) (a1 := 8) (a2 := 13) (pc1 := 27) (l1 := [(0, .ref 8), (1, .int x1), (2, .ref 12), (3, .int x3), (4, .int x4)]) (st1 := [.int x4, .ref 8]) (σ1 := (jx_i (jx_i q1 8 11 (0 : Int32)) 8 12 x3)) (by decide +kernel) rfl (fun hC => ?_)
  obtain ⟨hb, h⟩ := jx_ite_inv h
  refine jE_putz hC (by decide) rfl rfl hb ?_
  refine jE_blk (bs := [(.aload_n 0, 0, 0), (.iconst (0), 0, 0), (.putfield 76, 8, 14), (.aload_n 0, 0, 0), (.iconst (-1), 1, 1), (.putfield 79, 8, 18), (.aload_n 0, 0, 0), (.iconst (0), 0, 0), (.putfield 82, 8, 17), (.iconst (0), 0, 0), (.istore 5, 6, 0)]) (i := .iload 5) (a1 := 0) (a2 := 0) (pc1 := 48) (l1 := [(5, .int (0 : Int32)), (0, .ref 8), (1, .int x1), (2, .ref 12), (3, .int x3), (4, .int x4)]) (st1 := []) (σ1 := (jx_i (jx_i (jx_i (jx_i (jx_i (jx_i q1 8 11 (0 : Int32)) 8 12 x3) 8 13 x4) 8 14 (0 : Int32)) 8 18 (-1 : Int32)) 8 17 (0 : Int32))) (by decide +kernel) rfl (fun hC => ?_)
  exact jE_loc (l := [(0, .ref 8), (1, .int x1), (2, .ref 12), (5, .int (0 : Int32))]) (ks := [0, 1, 2, 5]) rfl (by decide) ⟨rfl, rfl, rfl, rfl, trivial⟩ (x_cMac_runFunction_48 d hd x1 (0 : Int32) (jx_i (jx_i (jx_i (jx_i (jx_i (jx_i q1 8 11 (0 : Int32)) 8 12 x3) 8 13 x4) 8 14 (0 : Int32)) 8 18 (-1 : Int32)) 8 17 (0 : Int32)) _ res h hK)
def p_cl_run (x1 : Int32) (x2 : Int32) (x3 : Int32) (σ : jx_S) : Option (Int32 × jx_S) := (if ¬ (v_cl_hasFunction x1 σ) = 0 then (if x2 < 0 then none else (if (50000 : Int32) < x2 then none else ((p_cFun_takesInts x1 (σ.1 0 11) σ).bind fun q1 => (if ¬ q1.1 = 0 then ((p_cMac_runFunction x1 x2 x3 (jx_i q1.2 0 11 (0 : Int32))).bind fun q2 => (some ((q2.1, q2.2)))) else none)))) else none)
theorem x_cl_run (d : Nat) (hd : 136 ≤ d) (x1 : Int32) (x2 : Int32) (x3 : Int32) (σ : jx_S) (t : (Int32 × jx_S)) (res : Option Value × jx_S) (h : p_cl_run x1 x2 x3 σ = some t) (hK : kkI t res) : jE d 11 0 [(0, .ref 0), (1, .int x1), (2, .int x2), (3, .int x3)] [] σ res := by
  unfold p_cl_run at h
  refine jE_blk (bs := [(.aload_n 0, 0, 0), (.iload_n 1, 0, 0)]) (i := .invokevirtual 136) (a1 := 16) (a2 := 0) (pc1 := 2) (l1 := [(0, .ref 0), (1, .int x1), (2, .int x2), (3, .int x3)]) (st1 := [.int x1, .ref 0]) (σ1 := σ) (by decide +kernel) rfl (fun hC => ?_)
  refine jE_call (as := [.ref 0, .int x1]) (pc1 := 5) (st1 := []) hC rfl (by decide) (by omega) (xv_cl_hasFunction (d - 1) (by omega) x1 σ) ?_
  refine jE_blk (bs := []) (i := .ifCond .ne (13)) (a1 := 0) (a2 := 0) (pc1 := 5) (l1 := [(0, .ref 0), (1, .int x1), (2, .int x2), (3, .int x3)]) (st1 := [.int (v_cl_hasFunction x1 σ)]) (σ1 := σ) (by decide +kernel) rfl (fun hC => ?_)
  rcases Classical.em (¬ (v_cl_hasFunction x1 σ) = 0) with hc | hc
  · rw [if_pos hc] at h
    refine jE_ifT 18 hC (by decide) hc ?_
    refine jE_blk (bs := [(.iload_n 2, 0, 0)]) (i := .ifCond .lt (24)) (a1 := 0) (a2 := 0) (pc1 := 19) (l1 := [(0, .ref 0), (1, .int x1), (2, .int x2), (3, .int x3)]) (st1 := [.int x2]) (σ1 := σ) (by decide +kernel) rfl (fun hC => ?_)
    rcases Classical.em (x2 < 0) with hc | hc
    · rw [if_pos hc] at h
      refine jE_ifT 43 hC (by decide) hc ?_
      cases h
    · rw [if_neg hc] at h
      refine jE_ifF 43 hC (by decide) hc ?_
      refine jE_blk (bs := [(.iload_n 2, 0, 0), (.ldc 207, 50000, 0)]) (i := .if_icmp .gt (18)) (a1 := 0) (a2 := 0) (pc1 := 25) (l1 := [(0, .ref 0), (1, .int x1), (2, .int x2), (3, .int x3)]) (st1 := [.int (50000 : Int32), .int x2]) (σ1 := σ) (by decide +kernel) rfl (fun hC => ?_)
      rcases Classical.em ((50000 : Int32) < x2) with hc | hc
      · rw [if_pos hc] at h
        refine jE_icT 43 hC (by decide) hc ?_
        cases h
      · rw [if_neg hc] at h
        refine jE_icF 43 hC (by decide) hc ?_
        refine jE_blk (bs := [(.aload_n 0, 0, 0), (.getfield 45, 0, 5), (.iload_n 1, 0, 0), (.aload_n 0, 0, 0), (.getfield 197, 0, 11)]) (i := .invokevirtual 208) (a1 := 42) (a2 := 0) (pc1 := 37) (l1 := [(0, .ref 0), (1, .int x1), (2, .int x2), (3, .int x3)]) (st1 := [.int (σ.1 0 11), .int x1, .ref 4]) (σ1 := σ) (by decide +kernel) rfl (fun hC => ?_)
        obtain ⟨q1, hq, h⟩ := Option.bind_eq_some_iff.mp h
        refine jE_call (as := [.ref 4, .int x1, .int (σ.1 0 11)]) (pc1 := 40) (st1 := []) hC rfl (by decide) (by omega) (x_cFun_takesInts (d - 1) (by omega) x1 (σ.1 0 11) σ q1 (some (.int q1.1), q1.2) hq rfl) ?_
        refine jE_blk (bs := []) (i := .ifCond .ne (13)) (a1 := 0) (a2 := 0) (pc1 := 40) (l1 := [(0, .ref 0), (1, .int x1), (2, .int x2), (3, .int x3)]) (st1 := [.int q1.1]) (σ1 := q1.2) (by decide +kernel) rfl (fun hC => ?_)
        rcases Classical.em (¬ q1.1 = 0) with hc | hc
        · rw [if_pos hc] at h
          refine jE_ifT 53 hC (by decide) hc ?_
          refine jE_blk (bs := [(.aload_n 0, 0, 0), (.iconst (0), 0, 0), (.putfield 197, 0, 11), (.aload_n 0, 0, 0), (.getfield 79, 0, 9), (.iload_n 1, 0, 0), (.aload_n 0, 0, 0), (.getfield 18, 0, 1), (.iload_n 2, 0, 0), (.iload_n 3, 0, 0)]) (i := .invokevirtual 214) (a1 := 104) (a2 := 0) (pc1 := 69) (l1 := [(0, .ref 0), (1, .int x1), (2, .int x2), (3, .int x3)]) (st1 := [.int x3, .int x2, .ref 12, .int x1, .ref 8]) (σ1 := (jx_i q1.2 0 11 (0 : Int32))) (by decide +kernel) rfl (fun hC => ?_)
          obtain ⟨q2, hq, h⟩ := Option.bind_eq_some_iff.mp h
          refine jE_call (as := [.ref 8, .int x1, .ref 12, .int x2, .int x3]) (pc1 := 72) (st1 := []) hC rfl (by decide) (by omega) (x_cMac_runFunction (d - 1) (by omega) x1 x2 x3 (jx_i q1.2 0 11 (0 : Int32)) q2 (some (.int q2.1), q2.2) hq rfl) ?_
          refine jE_blk (bs := []) (i := .ireturn) (a1 := 0) (a2 := 0) (pc1 := 72) (l1 := [(0, .ref 0), (1, .int x1), (2, .int x2), (3, .int x3)]) (st1 := [.int q2.1]) (σ1 := q2.2) (by decide +kernel) rfl (fun hC => ?_)
          have h9 := Option.some.inj h
          subst h9
          have e9 : ((some (.int q2.1), q2.2) : Option Value × jx_S) = res := hK
          subst e9
          exact jE_ret hC rfl
        · rw [if_neg hc] at h
          refine jE_ifF 53 hC (by decide) hc ?_
          cases h
  · rw [if_neg hc] at h
    refine jE_ifF 18 hC (by decide) hc ?_
    cases h
def p_cl_told (x1 : Int32) (σ : jx_S) : Option (Int32 × jx_S) := (if x1 < 0 then none else (if x1 < (10 : Int32) then (some (((jI_at 10 (σ.1 71) x1), σ))) else none))
theorem x_cl_told (d : Nat) (hd : 1 ≤ d) (x1 : Int32) (σ : jx_S) (t : (Int32 × jx_S)) (res : Option Value × jx_S) (h : p_cl_told x1 σ = some t) (hK : kkI t res) : jE d 12 0 [(0, .ref 0), (1, .int x1)] [] σ res := by
  unfold p_cl_told at h
  refine jE_blk (bs := [(.iload_n 1, 0, 0)]) (i := .ifCond .lt (9)) (a1 := 0) (a2 := 0) (pc1 := 1) (l1 := [(0, .ref 0), (1, .int x1)]) (st1 := [.int x1]) (σ1 := σ) (by decide +kernel) rfl (fun hC => ?_)
  rcases Classical.em (x1 < 0) with hc | hc
  · rw [if_pos hc] at h
    refine jE_ifT 10 hC (by decide) hc ?_
    cases h
  · rw [if_neg hc] at h
    refine jE_ifF 10 hC (by decide) hc ?_
    refine jE_blk (bs := [(.iload_n 1, 0, 0), (.bipush (10), 10, 0)]) (i := .if_icmp .lt (13)) (a1 := 0) (a2 := 0) (pc1 := 7) (l1 := [(0, .ref 0), (1, .int x1)]) (st1 := [.int (10 : Int32), .int x1]) (σ1 := σ) (by decide +kernel) rfl (fun hC => ?_)
    rcases Classical.em (x1 < (10 : Int32)) with hc | hc
    · rw [if_pos hc] at h
      refine jE_icT 20 hC (by decide) hc ?_
      refine jE_blk (bs := [(.aload_n 0, 0, 0), (.getfield 79, 0, 9), (.getfield 220, 8, 0), (.iload_n 1, 0, 0)]) (i := .invokevirtual 148) (a1 := 136) (a2 := 0) (pc1 := 28) (l1 := [(0, .ref 0), (1, .int x1)]) (st1 := [.int x1, .ref 70]) (σ1 := σ) (by decide +kernel) rfl (fun hC => ?_)
      refine jE_call (as := [.ref 70, .int x1]) (pc1 := 31) (st1 := []) hC rfl (by decide) (by omega) (xI_at (d - 1) 70 10 x1 σ (by decide) rfl rfl) ?_
      refine jE_blk (bs := []) (i := .ireturn) (a1 := 0) (a2 := 0) (pc1 := 31) (l1 := [(0, .ref 0), (1, .int x1)]) (st1 := [.int (jI_at 10 (σ.1 71) x1)]) (σ1 := σ) (by decide +kernel) rfl (fun hC => ?_)
      have h9 := Option.some.inj h
      subst h9
      have e9 : ((some (.int (jI_at 10 (σ.1 71) x1)), σ) : Option Value × jx_S) = res := hK
      subst e9
      exact jE_ret hC rfl
    · rw [if_neg hc] at h
      refine jE_icF 20 hC (by decide) hc ?_
      cases h
def p_cl_element (x1 : Int32) (σ : jx_S) : Option (Int32 × jx_S) := (if x1 < 0 then none else (if x1 < (jI_at 10 (σ.1 71) (6 : Int32)) then (some (((jI_at 50 (σ.1 73) x1), σ))) else none))
theorem x_cl_element (d : Nat) (hd : 1 ≤ d) (x1 : Int32) (σ : jx_S) (t : (Int32 × jx_S)) (res : Option Value × jx_S) (h : p_cl_element x1 σ = some t) (hK : kkI t res) : jE d 13 0 [(0, .ref 0), (1, .int x1)] [] σ res := by
  unfold p_cl_element at h
  refine jE_blk (bs := [(.iload_n 1, 0, 0)]) (i := .ifCond .lt (19)) (a1 := 0) (a2 := 0) (pc1 := 1) (l1 := [(0, .ref 0), (1, .int x1)]) (st1 := [.int x1]) (σ1 := σ) (by decide +kernel) rfl (fun hC => ?_)
  rcases Classical.em (x1 < 0) with hc | hc
  · rw [if_pos hc] at h
    refine jE_ifT 20 hC (by decide) hc ?_
    cases h
  · rw [if_neg hc] at h
    refine jE_ifF 20 hC (by decide) hc ?_
    refine jE_blk (bs := [(.iload_n 1, 0, 0), (.aload_n 0, 0, 0), (.getfield 79, 0, 9), (.getfield 220, 8, 0), (.bipush (6), 6, 0)]) (i := .invokevirtual 148) (a1 := 136) (a2 := 0) (pc1 := 14) (l1 := [(0, .ref 0), (1, .int x1)]) (st1 := [.int (6 : Int32), .ref 70, .int x1]) (σ1 := σ) (by decide +kernel) rfl (fun hC => ?_)
    refine jE_call (as := [.ref 70, .int (6 : Int32)]) (pc1 := 17) (st1 := [.int x1]) hC rfl (by decide) (by omega) (xI_at (d - 1) 70 10 (6 : Int32) σ (by decide) rfl rfl) ?_
    refine jE_blk (bs := []) (i := .if_icmp .lt (13)) (a1 := 0) (a2 := 0) (pc1 := 17) (l1 := [(0, .ref 0), (1, .int x1)]) (st1 := [.int (jI_at 10 (σ.1 71) (6 : Int32)), .int x1]) (σ1 := σ) (by decide +kernel) rfl (fun hC => ?_)
    rcases Classical.em (x1 < (jI_at 10 (σ.1 71) (6 : Int32))) with hc | hc
    · rw [if_pos hc] at h
      refine jE_icT 30 hC (by decide) hc ?_
      refine jE_blk (bs := [(.aload_n 0, 0, 0), (.getfield 79, 0, 9), (.getfield 225, 8, 1), (.iload_n 1, 0, 0)]) (i := .invokevirtual 148) (a1 := 136) (a2 := 0) (pc1 := 38) (l1 := [(0, .ref 0), (1, .int x1)]) (st1 := [.int x1, .ref 72]) (σ1 := σ) (by decide +kernel) rfl (fun hC => ?_)
      refine jE_call (as := [.ref 72, .int x1]) (pc1 := 41) (st1 := []) hC rfl (by decide) (by omega) (xI_at (d - 1) 72 50 x1 σ (by decide) rfl rfl) ?_
      refine jE_blk (bs := []) (i := .ireturn) (a1 := 0) (a2 := 0) (pc1 := 41) (l1 := [(0, .ref 0), (1, .int x1)]) (st1 := [.int (jI_at 50 (σ.1 73) x1)]) (σ1 := σ) (by decide +kernel) rfl (fun hC => ?_)
      have h9 := Option.some.inj h
      subst h9
      have e9 : ((some (.int (jI_at 50 (σ.1 73) x1)), σ) : Option Value × jx_S) = res := hK
      subst e9
      exact jE_ret hC rfl
    · rw [if_neg hc] at h
      refine jE_icF 30 hC (by decide) hc ?_
      cases h
def p_r_clearRun (σ : jx_S) : Option jx_S := (some ((jx_i (jx_i (jx_i (jx_i (jx_i (jx_i (jx_i (jx_i (jx_i (jx_i (jx_i (jx_i (jx_i (jx_i (jx_i σ 106 62 (0 : Int32)) 106 67 (0 : Int32)) 106 70 (0 : Int32)) 106 74 (0 : Int32)) 106 76 (0 : Int32)) 106 82 (0 : Int32)) 106 83 (0 : Int32)) 106 85 (0 : Int32)) 106 88 (0 : Int32)) 106 91 (0 : Int32)) 106 92 (0 : Int32)) 106 93 (0 : Int32)) 106 95 (0 : Int32)) 106 96 (0 : Int32)) 106 87 (0 : Int32))))
theorem x_r_clearRun (d : Nat) (hd : 0 ≤ d) (σ : jx_S) (t : jx_S) (res : Option Value × jx_S) (h : p_r_clearRun σ = some t) (hK : kkV t res) : jE d 208 0 [(0, .ref 106)] [] σ res := by
  unfold p_r_clearRun at h
  refine jE_blk (bs := [(.aload_n 0, 0, 0), (.iconst (0), 0, 0), (.putfield 479, 12, 62), (.aload_n 0, 0, 0), (.iconst (0), 0, 0), (.putfield 482, 12, 67), (.aload_n 0, 0, 0), (.iconst (0), 0, 0), (.putfield 485, 12, 70), (.aload_n 0, 0, 0), (.iconst (0), 0, 0), (.putfield 488, 12, 74), (.aload_n 0, 0, 0), (.iconst (0), 0, 0), (.putfield 491, 12, 76), (.aload_n 0, 0, 0), (.iconst (0), 0, 0), (.putfield 494, 12, 82), (.aload_n 0, 0, 0), (.iconst (0), 0, 0), (.putfield 497, 12, 83), (.aload_n 0, 0, 0), (.iconst (0), 0, 0), (.putfield 500, 12, 85), (.aload_n 0, 0, 0), (.iconst (0), 0, 0), (.putfield 503, 12, 88), (.aload_n 0, 0, 0), (.iconst (0), 0, 0), (.putfield 506, 12, 91), (.aload_n 0, 0, 0), (.iconst (0), 0, 0), (.putfield 509, 12, 92), (.aload_n 0, 0, 0), (.iconst (0), 0, 0), (.putfield 512, 12, 93), (.aload_n 0, 0, 0), (.iconst (0), 0, 0), (.putfield 515, 12, 95), (.aload_n 0, 0, 0), (.iconst (0), 0, 0), (.putfield 518, 12, 96), (.aload_n 0, 0, 0), (.iconst (0), 0, 0), (.putfield 521, 12, 87)]) (i := .return_) (a1 := 0) (a2 := 0) (pc1 := 75) (l1 := [(0, .ref 106)]) (st1 := []) (σ1 := (jx_i (jx_i (jx_i (jx_i (jx_i (jx_i (jx_i (jx_i (jx_i (jx_i (jx_i (jx_i (jx_i (jx_i (jx_i σ 106 62 (0 : Int32)) 106 67 (0 : Int32)) 106 70 (0 : Int32)) 106 74 (0 : Int32)) 106 76 (0 : Int32)) 106 82 (0 : Int32)) 106 83 (0 : Int32)) 106 85 (0 : Int32)) 106 88 (0 : Int32)) 106 91 (0 : Int32)) 106 92 (0 : Int32)) 106 93 (0 : Int32)) 106 95 (0 : Int32)) 106 96 (0 : Int32)) 106 87 (0 : Int32))) (by decide +kernel) rfl (fun hC => ?_)
  have h9 := Option.some.inj h
  subst h9
  have e9 : ((none, (jx_i (jx_i (jx_i (jx_i (jx_i (jx_i (jx_i (jx_i (jx_i (jx_i (jx_i (jx_i (jx_i (jx_i (jx_i σ 106 62 (0 : Int32)) 106 67 (0 : Int32)) 106 70 (0 : Int32)) 106 74 (0 : Int32)) 106 76 (0 : Int32)) 106 82 (0 : Int32)) 106 83 (0 : Int32)) 106 85 (0 : Int32)) 106 88 (0 : Int32)) 106 91 (0 : Int32)) 106 92 (0 : Int32)) 106 93 (0 : Int32)) 106 95 (0 : Int32)) 106 96 (0 : Int32)) 106 87 (0 : Int32))) : Option Value × jx_S) = res := hK
  subst e9
  exact jE_ret hC rfl
def p_r_forget (σ : jx_S) : Option jx_S := ((p_r_clearRun (jx_i (jx_i (jx_i (jx_i (jx_i (jx_i σ 106 3 (0 : Int32)) 106 4 (0 : Int32)) 106 5 (-1 : Int32)) 106 38 (0 : Int32)) 106 39 (0 : Int32)) 106 98 (0 : Int32))).bind fun q1 => (some (q1)))
theorem x_r_forget (d : Nat) (hd : 1 ≤ d) (σ : jx_S) (t : jx_S) (res : Option Value × jx_S) (h : p_r_forget σ = some t) (hK : kkV t res) : jE d 143 0 [(0, .ref 106)] [] σ res := by
  unfold p_r_forget at h
  refine jE_blk (bs := [(.aload_n 0, 0, 0), (.iconst (0), 0, 0), (.putfield 212, 12, 3), (.aload_n 0, 0, 0), (.iconst (0), 0, 0), (.putfield 216, 12, 4), (.aload_n 0, 0, 0), (.iconst (-1), 1, 1), (.putfield 13, 12, 5), (.aload_n 0, 0, 0), (.iconst (0), 0, 0), (.putfield 219, 12, 38), (.aload_n 0, 0, 0), (.iconst (0), 0, 0), (.putfield 222, 12, 39), (.aload_n 0, 0, 0), (.iconst (0), 0, 0), (.putfield 225, 12, 98), (.aload_n 0, 0, 0)]) (i := .invokevirtual 228) (a1 := 208) (a2 := 0) (pc1 := 31) (l1 := [(0, .ref 106)]) (st1 := [.ref 106]) (σ1 := (jx_i (jx_i (jx_i (jx_i (jx_i (jx_i σ 106 3 (0 : Int32)) 106 4 (0 : Int32)) 106 5 (-1 : Int32)) 106 38 (0 : Int32)) 106 39 (0 : Int32)) 106 98 (0 : Int32))) (by decide +kernel) rfl (fun hC => ?_)
  obtain ⟨q1, hq, h⟩ := Option.bind_eq_some_iff.mp h
  refine jE_call (as := [.ref 106]) (pc1 := 34) (st1 := []) hC rfl (by decide) (by omega) (x_r_clearRun (d - 1) (by omega) (jx_i (jx_i (jx_i (jx_i (jx_i (jx_i σ 106 3 (0 : Int32)) 106 4 (0 : Int32)) 106 5 (-1 : Int32)) 106 38 (0 : Int32)) 106 39 (0 : Int32)) 106 98 (0 : Int32)) q1 (none, q1) hq rfl) ?_
  refine jE_blk (bs := []) (i := .return_) (a1 := 0) (a2 := 0) (pc1 := 34) (l1 := [(0, .ref 106)]) (st1 := []) (σ1 := q1) (by decide +kernel) rfl (fun hC => ?_)
  have h9 := Option.some.inj h
  subst h9
  have e9 : ((none, q1) : Option Value × jx_S) = res := hK
  subst e9
  exact jE_ret hC rfl
