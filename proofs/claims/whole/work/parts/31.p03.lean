def p_cTyp_wantParts (x1 : Int32) (x2 : Int32) (x3 : Int32) (x4 : Int32) (σ : jx_S) : Option jx_S := ((p_cTre_part x1 (0 : Int32) σ).bind fun q1 => ((p_cTre_part x1 (1 : Int32) (jI_put 1201 q1.2 37 q1.1 x2)).bind fun q2 => ((p_cTre_part x1 (2 : Int32) (jI_put 1201 q2.2 37 q2.1 x3)).bind fun q3 => (some ((jI_put 1201 q3.2 37 q3.1 x4))))))
theorem x_cTyp_wantParts (d : Nat) (hd : 2 ≤ d) (x1 : Int32) (x2 : Int32) (x3 : Int32) (x4 : Int32) (σ : jx_S) (t : jx_S) (res : Option Value × jx_S) (h : p_cTyp_wantParts x1 x2 x3 x4 σ = some t) (hK : kkV t res) : jE d 78 0 [(0, .ref 6), (1, .int x1), (2, .int x2), (3, .int x3), (4, .int x4)] [] σ res := by
  unfold p_cTyp_wantParts at h
  refine jE_blk (bs := [(.aload_n 0, 0, 0), (.getfield 15, 6, 1), (.getfield 77, 3, 7), (.aload_n 0, 0, 0), (.getfield 15, 6, 1), (.iload_n 1, 0, 0), (.iconst (0), 0, 0)]) (i := .invokevirtual 165) (a1 := 31) (a2 := 0) (pc1 := 13) (l1 := [(0, .ref 6), (1, .int x1), (2, .int x2), (3, .int x3), (4, .int x4)]) (st1 := [.int (0 : Int32), .int x1, .ref 3, .ref 36]) (σ1 := σ) (by decide +kernel) rfl (fun hC => ?_)
  obtain ⟨q1, hq, h⟩ := Option.bind_eq_some_iff.mp h
  refine jE_call (as := [.ref 3, .int x1, .int (0 : Int32)]) (pc1 := 16) (st1 := [.ref 36]) hC rfl (by decide) (by omega) (x_cTre_part (d - 1) (by omega) x1 (0 : Int32) σ q1 (some (.int q1.1), q1.2) hq rfl) ?_
  refine jE_blk (bs := [(.iload_n 2, 0, 0)]) (i := .invokevirtual 85) (a1 := 137) (a2 := 0) (pc1 := 17) (l1 := [(0, .ref 6), (1, .int x1), (2, .int x2), (3, .int x3), (4, .int x4)]) (st1 := [.int x2, .int q1.1, .ref 36]) (σ1 := q1.2) (by decide +kernel) rfl (fun hC => ?_)
  refine jE_call (as := [.ref 36, .int q1.1, .int x2]) (pc1 := 20) (st1 := []) hC rfl (by decide) (by omega) (xI_put (d - 1) 36 1201 q1.1 x2 q1.2 (by decide) rfl rfl) ?_
  refine jE_blk (bs := [(.aload_n 0, 0, 0), (.getfield 15, 6, 1), (.getfield 77, 3, 7), (.aload_n 0, 0, 0), (.getfield 15, 6, 1), (.iload_n 1, 0, 0), (.iconst (1), 1, 0)]) (i := .invokevirtual 165) (a1 := 31) (a2 := 0) (pc1 := 33) (l1 := [(0, .ref 6), (1, .int x1), (2, .int x2), (3, .int x3), (4, .int x4)]) (st1 := [.int (1 : Int32), .int x1, .ref 3, .ref 36]) (σ1 := (jI_put 1201 q1.2 37 q1.1 x2)) (by decide +kernel) rfl (fun hC => ?_)
  obtain ⟨q2, hq, h⟩ := Option.bind_eq_some_iff.mp h
  refine jE_call (as := [.ref 3, .int x1, .int (1 : Int32)]) (pc1 := 36) (st1 := [.ref 36]) hC rfl (by decide) (by omega) (x_cTre_part (d - 1) (by omega) x1 (1 : Int32) (jI_put 1201 q1.2 37 q1.1 x2) q2 (some (.int q2.1), q2.2) hq rfl) ?_
  refine jE_blk (bs := [(.iload_n 3, 0, 0)]) (i := .invokevirtual 85) (a1 := 137) (a2 := 0) (pc1 := 37) (l1 := [(0, .ref 6), (1, .int x1), (2, .int x2), (3, .int x3), (4, .int x4)]) (st1 := [.int x3, .int q2.1, .ref 36]) (σ1 := q2.2) (by decide +kernel) rfl (fun hC => ?_)
  refine jE_call (as := [.ref 36, .int q2.1, .int x3]) (pc1 := 40) (st1 := []) hC rfl (by decide) (by omega) (xI_put (d - 1) 36 1201 q2.1 x3 q2.2 (by decide) rfl rfl) ?_
  refine jE_blk (bs := [(.aload_n 0, 0, 0), (.getfield 15, 6, 1), (.getfield 77, 3, 7), (.aload_n 0, 0, 0), (.getfield 15, 6, 1), (.iload_n 1, 0, 0), (.iconst (2), 2, 0)]) (i := .invokevirtual 165) (a1 := 31) (a2 := 0) (pc1 := 53) (l1 := [(0, .ref 6), (1, .int x1), (2, .int x2), (3, .int x3), (4, .int x4)]) (st1 := [.int (2 : Int32), .int x1, .ref 3, .ref 36]) (σ1 := (jI_put 1201 q2.2 37 q2.1 x3)) (by decide +kernel) rfl (fun hC => ?_)
  obtain ⟨q3, hq, h⟩ := Option.bind_eq_some_iff.mp h
  refine jE_call (as := [.ref 3, .int x1, .int (2 : Int32)]) (pc1 := 56) (st1 := [.ref 36]) hC rfl (by decide) (by omega) (x_cTre_part (d - 1) (by omega) x1 (2 : Int32) (jI_put 1201 q2.2 37 q2.1 x3) q3 (some (.int q3.1), q3.2) hq rfl) ?_
  refine jE_blk (bs := [(.iload 4, 0, 0)]) (i := .invokevirtual 85) (a1 := 137) (a2 := 0) (pc1 := 58) (l1 := [(0, .ref 6), (1, .int x1), (2, .int x2), (3, .int x3), (4, .int x4)]) (st1 := [.int x4, .int q3.1, .ref 36]) (σ1 := q3.2) (by decide +kernel) rfl (fun hC => ?_)
  refine jE_call (as := [.ref 36, .int q3.1, .int x4]) (pc1 := 61) (st1 := []) hC rfl (by decide) (by omega) (xI_put (d - 1) 36 1201 q3.1 x4 q3.2 (by decide) rfl rfl) ?_
  refine jE_blk (bs := []) (i := .return_) (a1 := 0) (a2 := 0) (pc1 := 61) (l1 := [(0, .ref 6), (1, .int x1), (2, .int x2), (3, .int x3), (4, .int x4)]) (st1 := []) (σ1 := (jI_put 1201 q3.2 37 q3.1 x4)) (by decide +kernel) rfl (fun hC => ?_)
  have h9 := Option.some.inj h
  subst h9
  have e9 : ((none, (jI_put 1201 q3.2 37 q3.1 x4)) : Option Value × jx_S) = res := hK
  subst e9
  exact jE_ret hC rfl
def p_cTyp_checkNode_255 (x2 : Int32) (y0 : Int32) (y1 : Int32) (σ : jx_S) : Option jx_S := ((p_cTyp_require y1 y0 σ).bind fun q7 => ((p_cTyp_wantParts x2 (0 : Int32) (1 : Int32) (1 : Int32) q7).bind fun q8 => (some (q8))))
theorem x_cTyp_checkNode_255 (d : Nat) (hd : 4 ≤ d) (x2 : Int32) (y0 : Int32) (y1 : Int32) (σ : jx_S) (t : jx_S) (res : Option Value × jx_S) (h : p_cTyp_checkNode_255 x2 y0 y1 σ = some t) (hK : kkV t res) : jE d 71 255 [(0, .ref 6), (2, .int x2)] [.int y0, .int y1, .ref 6] σ res := by
  unfold p_cTyp_checkNode_255 at h
  refine jE_blk (bs := []) (i := .invokevirtual 107) (a1 := 79) (a2 := 0) (pc1 := 255) (l1 := [(0, .ref 6), (2, .int x2)]) (st1 := [.int y0, .int y1, .ref 6]) (σ1 := σ) (by decide +kernel) rfl (fun hC => ?_)
  obtain ⟨q7, hq, h⟩ := Option.bind_eq_some_iff.mp h
  refine jE_call (as := [.ref 6, .int y1, .int y0]) (pc1 := 258) (st1 := []) hC rfl (by decide) (by omega) (x_cTyp_require (d - 1) (by omega) y1 y0 σ q7 (none, q7) hq rfl) ?_
  refine jE_blk (bs := [(.aload_n 0, 0, 0), (.iload_n 2, 0, 0), (.iconst (0), 0, 0), (.iconst (1), 1, 0), (.iconst (1), 1, 0)]) (i := .invokevirtual 117) (a1 := 78) (a2 := 0) (pc1 := 263) (l1 := [(0, .ref 6), (2, .int x2)]) (st1 := [.int (1 : Int32), .int (1 : Int32), .int (0 : Int32), .int x2, .ref 6]) (σ1 := q7) (by decide +kernel) rfl (fun hC => ?_)
  obtain ⟨q8, hq, h⟩ := Option.bind_eq_some_iff.mp h
  refine jE_call (as := [.ref 6, .int x2, .int (0 : Int32), .int (1 : Int32), .int (1 : Int32)]) (pc1 := 266) (st1 := []) hC rfl (by decide) (by omega) (x_cTyp_wantParts (d - 1) (by omega) x2 (0 : Int32) (1 : Int32) (1 : Int32) q7 q8 (none, q8) hq rfl) ?_
  refine jE_blk (bs := [(.goto (25), 0, 0)]) (i := .return_) (a1 := 0) (a2 := 0) (pc1 := 291) (l1 := [(0, .ref 6), (2, .int x2)]) (st1 := []) (σ1 := q8) (by decide +kernel) rfl (fun hC => ?_)
  have h9 := Option.some.inj h
  subst h9
  have e9 : ((none, q8) : Option Value × jx_S) = res := hK
  subst e9
  exact jE_ret hC rfl
def p_cTyp_checkNode_243 (x2 : Int32) (x3 : Int32) (σ : jx_S) : Option jx_S := (if ¬ x3 = (1 : Int32) then (p_cTyp_checkNode_255 x2 (0 : Int32) x2 σ) else (p_cTyp_checkNode_255 x2 (1 : Int32) x2 σ))
theorem x_cTyp_checkNode_243 (d : Nat) (hd : 4 ≤ d) (x2 : Int32) (x3 : Int32) (σ : jx_S) (t : jx_S) (res : Option Value × jx_S) (h : p_cTyp_checkNode_243 x2 x3 σ = some t) (hK : kkV t res) : jE d 71 243 [(0, .ref 6), (2, .int x2), (3, .int x3)] [] σ res := by
  unfold p_cTyp_checkNode_243 at h
  refine jE_blk (bs := [(.aload_n 0, 0, 0), (.iload_n 2, 0, 0), (.iload_n 3, 0, 0), (.iconst (1), 1, 0)]) (i := .if_icmp .ne (7)) (a1 := 0) (a2 := 0) (pc1 := 247) (l1 := [(0, .ref 6), (2, .int x2), (3, .int x3)]) (st1 := [.int (1 : Int32), .int x3, .int x2, .ref 6]) (σ1 := σ) (by decide +kernel) rfl (fun hC => ?_)
  rcases Classical.em (¬ x3 = (1 : Int32)) with hc | hc
  · rw [if_pos hc] at h
    refine jE_icT 254 hC (by decide) hc ?_
    refine jE_blk (bs := [(.iconst (0), 0, 0)]) (i := .invokevirtual 107) (a1 := 79) (a2 := 0) (pc1 := 255) (l1 := [(0, .ref 6), (2, .int x2), (3, .int x3)]) (st1 := [.int (0 : Int32), .int x2, .ref 6]) (σ1 := σ) (by decide +kernel) rfl (fun hC => ?_)
    exact jE_loc (l := [(0, .ref 6), (2, .int x2)]) (ks := [0, 2]) rfl (by decide) ⟨rfl, rfl, trivial⟩ (x_cTyp_checkNode_255 d hd x2 (0 : Int32) x2 σ _ res h hK)
  · rw [if_neg hc] at h
    refine jE_icF 254 hC (by decide) hc ?_
    refine jE_blk (bs := [(.iconst (1), 1, 0), (.goto (4), 0, 0)]) (i := .invokevirtual 107) (a1 := 79) (a2 := 0) (pc1 := 255) (l1 := [(0, .ref 6), (2, .int x2), (3, .int x3)]) (st1 := [.int (1 : Int32), .int x2, .ref 6]) (σ1 := σ) (by decide +kernel) rfl (fun hC => ?_)
    exact jE_loc (l := [(0, .ref 6), (2, .int x2)]) (ks := [0, 2]) rfl (by decide) ⟨rfl, rfl, trivial⟩ (x_cTyp_checkNode_255 d hd x2 (1 : Int32) x2 σ _ res h hK)
def p_cTyp_checkNode_280 (x2 : Int32) (y0 : Int32) (y1 : Int32) (σ : jx_S) : Option jx_S := ((p_cTyp_require y1 y0 σ).bind fun q12 => ((p_cTyp_wantParts x2 (0 : Int32) (0 : Int32) (0 : Int32) q12).bind fun q13 => (some (q13))))
theorem x_cTyp_checkNode_280 (d : Nat) (hd : 4 ≤ d) (x2 : Int32) (y0 : Int32) (y1 : Int32) (σ : jx_S) (t : jx_S) (res : Option Value × jx_S) (h : p_cTyp_checkNode_280 x2 y0 y1 σ = some t) (hK : kkV t res) : jE d 71 280 [(0, .ref 6), (2, .int x2)] [.int y0, .int y1, .ref 6] σ res := by
  unfold p_cTyp_checkNode_280 at h
  refine jE_blk (bs := []) (i := .invokevirtual 107) (a1 := 79) (a2 := 0) (pc1 := 280) (l1 := [(0, .ref 6), (2, .int x2)]) (st1 := [.int y0, .int y1, .ref 6]) (σ1 := σ) (by decide +kernel) rfl (fun hC => ?_)
  obtain ⟨q12, hq, h⟩ := Option.bind_eq_some_iff.mp h
  refine jE_call (as := [.ref 6, .int y1, .int y0]) (pc1 := 283) (st1 := []) hC rfl (by decide) (by omega) (x_cTyp_require (d - 1) (by omega) y1 y0 σ q12 (none, q12) hq rfl) ?_
  refine jE_blk (bs := [(.aload_n 0, 0, 0), (.iload_n 2, 0, 0), (.iconst (0), 0, 0), (.iconst (0), 0, 0), (.iconst (0), 0, 0)]) (i := .invokevirtual 117) (a1 := 78) (a2 := 0) (pc1 := 288) (l1 := [(0, .ref 6), (2, .int x2)]) (st1 := [.int (0 : Int32), .int (0 : Int32), .int (0 : Int32), .int x2, .ref 6]) (σ1 := q12) (by decide +kernel) rfl (fun hC => ?_)
  obtain ⟨q13, hq, h⟩ := Option.bind_eq_some_iff.mp h
  refine jE_call (as := [.ref 6, .int x2, .int (0 : Int32), .int (0 : Int32), .int (0 : Int32)]) (pc1 := 291) (st1 := []) hC rfl (by decide) (by omega) (x_cTyp_wantParts (d - 1) (by omega) x2 (0 : Int32) (0 : Int32) (0 : Int32) q12 q13 (none, q13) hq rfl) ?_
  refine jE_blk (bs := []) (i := .return_) (a1 := 0) (a2 := 0) (pc1 := 291) (l1 := [(0, .ref 6), (2, .int x2)]) (st1 := []) (σ1 := q13) (by decide +kernel) rfl (fun hC => ?_)
  have h9 := Option.some.inj h
  subst h9
  have e9 : ((none, q13) : Option Value × jx_S) = res := hK
  subst e9
  exact jE_ret hC rfl
def p_cTyp_checkNode_269 (x2 : Int32) (x3 : Int32) (σ : jx_S) : Option jx_S := (if ¬ x3 = 0 then (p_cTyp_checkNode_280 x2 (0 : Int32) x2 σ) else (p_cTyp_checkNode_280 x2 (1 : Int32) x2 σ))
theorem x_cTyp_checkNode_269 (d : Nat) (hd : 4 ≤ d) (x2 : Int32) (x3 : Int32) (σ : jx_S) (t : jx_S) (res : Option Value × jx_S) (h : p_cTyp_checkNode_269 x2 x3 σ = some t) (hK : kkV t res) : jE d 71 269 [(0, .ref 6), (2, .int x2), (3, .int x3)] [] σ res := by
  unfold p_cTyp_checkNode_269 at h
  refine jE_blk (bs := [(.aload_n 0, 0, 0), (.iload_n 2, 0, 0), (.iload_n 3, 0, 0)]) (i := .ifCond .ne (7)) (a1 := 0) (a2 := 0) (pc1 := 272) (l1 := [(0, .ref 6), (2, .int x2), (3, .int x3)]) (st1 := [.int x3, .int x2, .ref 6]) (σ1 := σ) (by decide +kernel) rfl (fun hC => ?_)
  rcases Classical.em (¬ x3 = 0) with hc | hc
  · rw [if_pos hc] at h
    refine jE_ifT 279 hC (by decide) hc ?_
    refine jE_blk (bs := [(.iconst (0), 0, 0)]) (i := .invokevirtual 107) (a1 := 79) (a2 := 0) (pc1 := 280) (l1 := [(0, .ref 6), (2, .int x2), (3, .int x3)]) (st1 := [.int (0 : Int32), .int x2, .ref 6]) (σ1 := σ) (by decide +kernel) rfl (fun hC => ?_)
    exact jE_loc (l := [(0, .ref 6), (2, .int x2)]) (ks := [0, 2]) rfl (by decide) ⟨rfl, rfl, trivial⟩ (x_cTyp_checkNode_280 d hd x2 (0 : Int32) x2 σ _ res h hK)
  · rw [if_neg hc] at h
    refine jE_ifF 279 hC (by decide) hc ?_
    refine jE_blk (bs := [(.iconst (1), 1, 0), (.goto (4), 0, 0)]) (i := .invokevirtual 107) (a1 := 79) (a2 := 0) (pc1 := 280) (l1 := [(0, .ref 6), (2, .int x2), (3, .int x3)]) (st1 := [.int (1 : Int32), .int x2, .ref 6]) (σ1 := σ) (by decide +kernel) rfl (fun hC => ?_)
    exact jE_loc (l := [(0, .ref 6), (2, .int x2)]) (ks := [0, 2]) rfl (by decide) ⟨rfl, rfl, trivial⟩ (x_cTyp_checkNode_280 d hd x2 (1 : Int32) x2 σ _ res h hK)
def p_cTyp_checkNode (x1 : Int32) (x2 : Int32) (σ : jx_S) : Option jx_S := (if (jI_at 1201 (σ.1 23) x2) = 5 then ((p_cTyp_require x2 (v_cTyp_isBase (jI_at 1201 (σ.1 37) x2) σ) σ).bind fun q1 => ((p_cTyp_wantParts x2 (v_cFun_typeOf x1 (jI_at 1201 (q1.1 33) x2) q1) (jI_at 1201 (σ.1 37) x2) (jI_at 1201 (σ.1 37) x2) q1).bind fun q2 => (some (q2)))) else (if (jI_at 1201 (σ.1 23) x2) = 7 then ((p_cTyp_require x2 (v_cTyp_isBase (jI_at 1201 (σ.1 37) x2) σ) σ).bind fun q3 => ((p_cTyp_wantParts x2 (0 : Int32) (jI_at 1201 (σ.1 37) x2) (jI_at 1201 (σ.1 37) x2) q3).bind fun q4 => (some (q4)))) else (if (jI_at 1201 (σ.1 23) x2) = 10 then ((p_cTyp_require x2 (v_cTyp_isBase (jI_at 1201 (σ.1 37) x2) σ) σ).bind fun q5 => ((p_cTyp_wantParts x2 (1 : Int32) (jI_at 1201 (σ.1 37) x2) (jI_at 1201 (σ.1 37) x2) q5).bind fun q6 => (some (q6)))) else (if (jI_at 1201 (σ.1 23) x2) = 13 then (p_cTyp_checkNode_243 x2 (jI_at 1201 (σ.1 37) x2) σ) else (if (jI_at 1201 (σ.1 23) x2) = 14 then (p_cTyp_checkNode_243 x2 (jI_at 1201 (σ.1 37) x2) σ) else (if (jI_at 1201 (σ.1 23) x2) = 15 then ((p_cTyp_require x2 (v_cTyp_isBase (jI_at 1201 (σ.1 37) x2) σ) σ).bind fun q9 => (some (q9))) else (if (jI_at 1201 (σ.1 23) x2) = 28 then ((p_cTyp_checkLocal x1 x2 σ).bind fun q10 => (some (q10))) else (if (jI_at 1201 (σ.1 23) x2) = 29 then ((p_cTyp_checkCall x2 σ).bind fun q11 => (some (q11))) else (p_cTyp_checkNode_269 x2 (jI_at 1201 (σ.1 37) x2) σ)))))))))
theorem x_cTyp_checkNode (d : Nat) (hd : 4 ≤ d) (x1 : Int32) (x2 : Int32) (σ : jx_S) (t : jx_S) (res : Option Value × jx_S) (h : p_cTyp_checkNode x1 x2 σ = some t) (hK : kkV t res) : jE d 71 0 [(0, .ref 6), (1, .int x1), (2, .int x2)] [] σ res := by
  unfold p_cTyp_checkNode at h
  refine jE_blk (bs := [(.aload_n 0, 0, 0), (.getfield 15, 6, 1), (.getfield 77, 3, 7), (.iload_n 2, 0, 0)]) (i := .invokevirtual 53) (a1 := 136) (a2 := 0) (pc1 := 8) (l1 := [(0, .ref 6), (1, .int x1), (2, .int x2)]) (st1 := [.int x2, .ref 36]) (σ1 := σ) (by decide +kernel) rfl (fun hC => ?_)
  refine jE_call (as := [.ref 36, .int x2]) (pc1 := 11) (st1 := []) hC rfl (by decide) (by omega) (xI_at (d - 1) 36 1201 x2 σ (by decide) rfl rfl) ?_
  refine jE_blk (bs := [(.istore_n 3, 4, 0), (.aload_n 0, 0, 0), (.getfield 15, 6, 1), (.getfield 94, 3, 0), (.iload_n 2, 0, 0)]) (i := .invokevirtual 53) (a1 := 136) (a2 := 0) (pc1 := 20) (l1 := [(3, .int (jI_at 1201 (σ.1 37) x2)), (0, .ref 6), (1, .int x1), (2, .int x2)]) (st1 := [.int x2, .ref 22]) (σ1 := σ) (by decide +kernel) rfl (fun hC => ?_)
  refine jE_call (as := [.ref 22, .int x2]) (pc1 := 23) (st1 := []) hC rfl (by decide) (by omega) (xI_at (d - 1) 22 1201 x2 σ (by decide) rfl rfl) ?_
  refine jE_blk (bs := []) (i := .tableswitch (246) (5) (29) #[130, 246, 168, 246, 246, 188, 246, 246, 220, 220, 208, 246, 246, 246, 246, 246, 246, 246, 246, 246, 246, 246, 246, 113, 122]) (a1 := 0) (a2 := 0) (pc1 := 23) (l1 := [(3, .int (jI_at 1201 (σ.1 37) x2)), (0, .ref 6), (1, .int x1), (2, .int x2)]) (st1 := [.int (jI_at 1201 (σ.1 23) x2)]) (σ1 := σ) (by decide +kernel) rfl (fun hC => ?_)
  rcases Classical.em ((jI_at 1201 (σ.1 23) x2) = 5) with hc0 | hc0
  · rw [if_pos hc0] at h
    refine jE_tsw 153 5 hC hc0 (by decide +kernel) ?_
    refine jE_blk (bs := [(.aload_n 0, 0, 0), (.iload_n 2, 0, 0), (.iload_n 3, 0, 0)]) (i := .invokestatic 103) (a1 := 81) (a2 := 0) (pc1 := 156) (l1 := [(3, .int (jI_at 1201 (σ.1 37) x2)), (0, .ref 6), (1, .int x1), (2, .int x2)]) (st1 := [.int (jI_at 1201 (σ.1 37) x2), .int x2, .ref 6]) (σ1 := σ) (by decide +kernel) rfl (fun hC => ?_)
    refine jE_call (as := [.int (jI_at 1201 (σ.1 37) x2)]) (pc1 := 159) (st1 := [.int x2, .ref 6]) hC rfl (by decide) (by omega) (xv_cTyp_isBase (d - 1) (by omega) (jI_at 1201 (σ.1 37) x2) σ) ?_
    refine jE_blk (bs := []) (i := .invokevirtual 107) (a1 := 79) (a2 := 0) (pc1 := 159) (l1 := [(3, .int (jI_at 1201 (σ.1 37) x2)), (0, .ref 6), (1, .int x1), (2, .int x2)]) (st1 := [.int (v_cTyp_isBase (jI_at 1201 (σ.1 37) x2) σ), .int x2, .ref 6]) (σ1 := σ) (by decide +kernel) rfl (fun hC => ?_)
    obtain ⟨q1, hq, h⟩ := Option.bind_eq_some_iff.mp h
    refine jE_call (as := [.ref 6, .int x2, .int (v_cTyp_isBase (jI_at 1201 (σ.1 37) x2) σ)]) (pc1 := 162) (st1 := []) hC rfl (by decide) (by omega) (x_cTyp_require (d - 1) (by omega) x2 (v_cTyp_isBase (jI_at 1201 (σ.1 37) x2) σ) σ q1 (none, q1) hq rfl) ?_
    refine jE_blk (bs := [(.aload_n 0, 0, 0), (.iload_n 2, 0, 0), (.aload_n 0, 0, 0), (.getfield 19, 6, 2), (.iload_n 1, 0, 0), (.aload_n 0, 0, 0), (.getfield 15, 6, 1), (.getfield 111, 3, 5), (.iload_n 2, 0, 0)]) (i := .invokevirtual 53) (a1 := 136) (a2 := 0) (pc1 := 177) (l1 := [(3, .int (jI_at 1201 (σ.1 37) x2)), (0, .ref 6), (1, .int x1), (2, .int x2)]) (st1 := [.int x2, .ref 32, .int x1, .ref 4, .int x2, .ref 6]) (σ1 := q1) (by decide +kernel) rfl (fun hC => ?_)
    refine jE_call (as := [.ref 32, .int x2]) (pc1 := 180) (st1 := [.int x1, .ref 4, .int x2, .ref 6]) hC rfl (by decide) (by omega) (xI_at (d - 1) 32 1201 x2 q1 (by decide) rfl rfl) ?_
    refine jE_blk (bs := []) (i := .invokevirtual 114) (a1 := 40) (a2 := 0) (pc1 := 180) (l1 := [(3, .int (jI_at 1201 (σ.1 37) x2)), (0, .ref 6), (1, .int x1), (2, .int x2)]) (st1 := [.int (jI_at 1201 (q1.1 33) x2), .int x1, .ref 4, .int x2, .ref 6]) (σ1 := q1) (by decide +kernel) rfl (fun hC => ?_)
    refine jE_call (as := [.ref 4, .int x1, .int (jI_at 1201 (q1.1 33) x2)]) (pc1 := 183) (st1 := [.int x2, .ref 6]) hC rfl (by decide) (by omega) (xv_cFun_typeOf (d - 1) (by omega) x1 (jI_at 1201 (q1.1 33) x2) q1) ?_
    refine jE_blk (bs := [(.iload_n 3, 0, 0), (.iload_n 3, 0, 0)]) (i := .invokevirtual 117) (a1 := 78) (a2 := 0) (pc1 := 185) (l1 := [(3, .int (jI_at 1201 (σ.1 37) x2)), (0, .ref 6), (1, .int x1), (2, .int x2)]) (st1 := [.int (jI_at 1201 (σ.1 37) x2), .int (jI_at 1201 (σ.1 37) x2), .int (v_cFun_typeOf x1 (jI_at 1201 (q1.1 33) x2) q1), .int x2, .ref 6]) (σ1 := q1) (by decide +kernel) rfl (fun hC => ?_)
    obtain ⟨q2, hq, h⟩ := Option.bind_eq_some_iff.mp h
    refine jE_call (as := [.ref 6, .int x2, .int (v_cFun_typeOf x1 (jI_at 1201 (q1.1 33) x2) q1), .int (jI_at 1201 (σ.1 37) x2), .int (jI_at 1201 (σ.1 37) x2)]) (pc1 := 188) (st1 := []) hC rfl (by decide) (by omega) (x_cTyp_wantParts (d - 1) (by omega) x2 (v_cFun_typeOf x1 (jI_at 1201 (q1.1 33) x2) q1) (jI_at 1201 (σ.1 37) x2) (jI_at 1201 (σ.1 37) x2) q1 q2 (none, q2) hq rfl) ?_
    refine jE_blk (bs := [(.goto (103), 0, 0)]) (i := .return_) (a1 := 0) (a2 := 0) (pc1 := 291) (l1 := [(3, .int (jI_at 1201 (σ.1 37) x2)), (0, .ref 6), (1, .int x1), (2, .int x2)]) (st1 := []) (σ1 := q2) (by decide +kernel) rfl (fun hC => ?_)
    have h9 := Option.some.inj h
    subst h9
    have e9 : ((none, q2) : Option Value × jx_S) = res := hK
    subst e9
    exact jE_ret hC rfl
  · rw [if_neg hc0] at h
    rcases Classical.em ((jI_at 1201 (σ.1 23) x2) = 7) with hc1 | hc1
    · rw [if_pos hc1] at h
      refine jE_tsw 191 7 hC hc1 (by decide +kernel) ?_
      refine jE_blk (bs := [(.aload_n 0, 0, 0), (.iload_n 2, 0, 0), (.iload_n 3, 0, 0)]) (i := .invokestatic 103) (a1 := 81) (a2 := 0) (pc1 := 194) (l1 := [(3, .int (jI_at 1201 (σ.1 37) x2)), (0, .ref 6), (1, .int x1), (2, .int x2)]) (st1 := [.int (jI_at 1201 (σ.1 37) x2), .int x2, .ref 6]) (σ1 := σ) (by decide +kernel) rfl (fun hC => ?_)
      refine jE_call (as := [.int (jI_at 1201 (σ.1 37) x2)]) (pc1 := 197) (st1 := [.int x2, .ref 6]) hC rfl (by decide) (by omega) (xv_cTyp_isBase (d - 1) (by omega) (jI_at 1201 (σ.1 37) x2) σ) ?_
      refine jE_blk (bs := []) (i := .invokevirtual 107) (a1 := 79) (a2 := 0) (pc1 := 197) (l1 := [(3, .int (jI_at 1201 (σ.1 37) x2)), (0, .ref 6), (1, .int x1), (2, .int x2)]) (st1 := [.int (v_cTyp_isBase (jI_at 1201 (σ.1 37) x2) σ), .int x2, .ref 6]) (σ1 := σ) (by decide +kernel) rfl (fun hC => ?_)
      obtain ⟨q3, hq, h⟩ := Option.bind_eq_some_iff.mp h
      refine jE_call (as := [.ref 6, .int x2, .int (v_cTyp_isBase (jI_at 1201 (σ.1 37) x2) σ)]) (pc1 := 200) (st1 := []) hC rfl (by decide) (by omega) (x_cTyp_require (d - 1) (by omega) x2 (v_cTyp_isBase (jI_at 1201 (σ.1 37) x2) σ) σ q3 (none, q3) hq rfl) ?_
      refine jE_blk (bs := [(.aload_n 0, 0, 0), (.iload_n 2, 0, 0), (.iconst (0), 0, 0), (.iload_n 3, 0, 0), (.iload_n 3, 0, 0)]) (i := .invokevirtual 117) (a1 := 78) (a2 := 0) (pc1 := 205) (l1 := [(3, .int (jI_at 1201 (σ.1 37) x2)), (0, .ref 6), (1, .int x1), (2, .int x2)]) (st1 := [.int (jI_at 1201 (σ.1 37) x2), .int (jI_at 1201 (σ.1 37) x2), .int (0 : Int32), .int x2, .ref 6]) (σ1 := q3) (by decide +kernel) rfl (fun hC => ?_)
      obtain ⟨q4, hq, h⟩ := Option.bind_eq_some_iff.mp h
      refine jE_call (as := [.ref 6, .int x2, .int (0 : Int32), .int (jI_at 1201 (σ.1 37) x2), .int (jI_at 1201 (σ.1 37) x2)]) (pc1 := 208) (st1 := []) hC rfl (by decide) (by omega) (x_cTyp_wantParts (d - 1) (by omega) x2 (0 : Int32) (jI_at 1201 (σ.1 37) x2) (jI_at 1201 (σ.1 37) x2) q3 q4 (none, q4) hq rfl) ?_
      refine jE_blk (bs := [(.goto (83), 0, 0)]) (i := .return_) (a1 := 0) (a2 := 0) (pc1 := 291) (l1 := [(3, .int (jI_at 1201 (σ.1 37) x2)), (0, .ref 6), (1, .int x1), (2, .int x2)]) (st1 := []) (σ1 := q4) (by decide +kernel) rfl (fun hC => ?_)
      have h9 := Option.some.inj h
      subst h9
      have e9 : ((none, q4) : Option Value × jx_S) = res := hK
      subst e9
      exact jE_ret hC rfl
    · rw [if_neg hc1] at h
      rcases Classical.em ((jI_at 1201 (σ.1 23) x2) = 10) with hc2 | hc2
      · rw [if_pos hc2] at h
        refine jE_tsw 211 10 hC hc2 (by decide +kernel) ?_
        refine jE_blk (bs := [(.aload_n 0, 0, 0), (.iload_n 2, 0, 0), (.iload_n 3, 0, 0)]) (i := .invokestatic 103) (a1 := 81) (a2 := 0) (pc1 := 214) (l1 := [(3, .int (jI_at 1201 (σ.1 37) x2)), (0, .ref 6), (1, .int x1), (2, .int x2)]) (st1 := [.int (jI_at 1201 (σ.1 37) x2), .int x2, .ref 6]) (σ1 := σ) (by decide +kernel) rfl (fun hC => ?_)
        refine jE_call (as := [.int (jI_at 1201 (σ.1 37) x2)]) (pc1 := 217) (st1 := [.int x2, .ref 6]) hC rfl (by decide) (by omega) (xv_cTyp_isBase (d - 1) (by omega) (jI_at 1201 (σ.1 37) x2) σ) ?_
        refine jE_blk (bs := []) (i := .invokevirtual 107) (a1 := 79) (a2 := 0) (pc1 := 217) (l1 := [(3, .int (jI_at 1201 (σ.1 37) x2)), (0, .ref 6), (1, .int x1), (2, .int x2)]) (st1 := [.int (v_cTyp_isBase (jI_at 1201 (σ.1 37) x2) σ), .int x2, .ref 6]) (σ1 := σ) (by decide +kernel) rfl (fun hC => ?_)
        obtain ⟨q5, hq, h⟩ := Option.bind_eq_some_iff.mp h
        refine jE_call (as := [.ref 6, .int x2, .int (v_cTyp_isBase (jI_at 1201 (σ.1 37) x2) σ)]) (pc1 := 220) (st1 := []) hC rfl (by decide) (by omega) (x_cTyp_require (d - 1) (by omega) x2 (v_cTyp_isBase (jI_at 1201 (σ.1 37) x2) σ) σ q5 (none, q5) hq rfl) ?_
        refine jE_blk (bs := [(.aload_n 0, 0, 0), (.iload_n 2, 0, 0), (.iconst (1), 1, 0), (.iload_n 3, 0, 0), (.iload_n 3, 0, 0)]) (i := .invokevirtual 117) (a1 := 78) (a2 := 0) (pc1 := 225) (l1 := [(3, .int (jI_at 1201 (σ.1 37) x2)), (0, .ref 6), (1, .int x1), (2, .int x2)]) (st1 := [.int (jI_at 1201 (σ.1 37) x2), .int (jI_at 1201 (σ.1 37) x2), .int (1 : Int32), .int x2, .ref 6]) (σ1 := q5) (by decide +kernel) rfl (fun hC => ?_)
        obtain ⟨q6, hq, h⟩ := Option.bind_eq_some_iff.mp h
        refine jE_call (as := [.ref 6, .int x2, .int (1 : Int32), .int (jI_at 1201 (σ.1 37) x2), .int (jI_at 1201 (σ.1 37) x2)]) (pc1 := 228) (st1 := []) hC rfl (by decide) (by omega) (x_cTyp_wantParts (d - 1) (by omega) x2 (1 : Int32) (jI_at 1201 (σ.1 37) x2) (jI_at 1201 (σ.1 37) x2) q5 q6 (none, q6) hq rfl) ?_
        refine jE_blk (bs := [(.goto (63), 0, 0)]) (i := .return_) (a1 := 0) (a2 := 0) (pc1 := 291) (l1 := [(3, .int (jI_at 1201 (σ.1 37) x2)), (0, .ref 6), (1, .int x1), (2, .int x2)]) (st1 := []) (σ1 := q6) (by decide +kernel) rfl (fun hC => ?_)
        have h9 := Option.some.inj h
        subst h9
        have e9 : ((none, q6) : Option Value × jx_S) = res := hK
        subst e9
        exact jE_ret hC rfl
      · rw [if_neg hc2] at h
        rcases Classical.em ((jI_at 1201 (σ.1 23) x2) = 13) with hc3 | hc3
        · rw [if_pos hc3] at h
          refine jE_tsw 243 13 hC hc3 (by decide +kernel) ?_
          exact jE_loc (l := [(0, .ref 6), (2, .int x2), (3, .int (jI_at 1201 (σ.1 37) x2))]) (ks := [0, 2, 3]) rfl (by decide) ⟨rfl, rfl, rfl, trivial⟩ (x_cTyp_checkNode_243 d hd x2 (jI_at 1201 (σ.1 37) x2) σ _ res h hK)
        · rw [if_neg hc3] at h
          rcases Classical.em ((jI_at 1201 (σ.1 23) x2) = 14) with hc4 | hc4
          · rw [if_pos hc4] at h
            refine jE_tsw 243 14 hC hc4 (by decide +kernel) ?_
            exact jE_loc (l := [(0, .ref 6), (2, .int x2), (3, .int (jI_at 1201 (σ.1 37) x2))]) (ks := [0, 2, 3]) rfl (by decide) ⟨rfl, rfl, rfl, trivial⟩ (x_cTyp_checkNode_243 d hd x2 (jI_at 1201 (σ.1 37) x2) σ _ res h hK)
          · rw [if_neg hc4] at h
            rcases Classical.em ((jI_at 1201 (σ.1 23) x2) = 15) with hc5 | hc5
            · rw [if_pos hc5] at h
              refine jE_tsw 231 15 hC hc5 (by decide +kernel) ?_
              refine jE_blk (bs := [(.aload_n 0, 0, 0), (.iload_n 2, 0, 0), (.iload_n 3, 0, 0)]) (i := .invokestatic 103) (a1 := 81) (a2 := 0) (pc1 := 234) (l1 := [(3, .int (jI_at 1201 (σ.1 37) x2)), (0, .ref 6), (1, .int x1), (2, .int x2)]) (st1 := [.int (jI_at 1201 (σ.1 37) x2), .int x2, .ref 6]) (σ1 := σ) (by decide +kernel) rfl (fun hC => ?_)
              refine jE_call (as := [.int (jI_at 1201 (σ.1 37) x2)]) (pc1 := 237) (st1 := [.int x2, .ref 6]) hC rfl (by decide) (by omega) (xv_cTyp_isBase (d - 1) (by omega) (jI_at 1201 (σ.1 37) x2) σ) ?_
              refine jE_blk (bs := []) (i := .invokevirtual 107) (a1 := 79) (a2 := 0) (pc1 := 237) (l1 := [(3, .int (jI_at 1201 (σ.1 37) x2)), (0, .ref 6), (1, .int x1), (2, .int x2)]) (st1 := [.int (v_cTyp_isBase (jI_at 1201 (σ.1 37) x2) σ), .int x2, .ref 6]) (σ1 := σ) (by decide +kernel) rfl (fun hC => ?_)
              obtain ⟨q9, hq, h⟩ := Option.bind_eq_some_iff.mp h
              refine jE_call (as := [.ref 6, .int x2, .int (v_cTyp_isBase (jI_at 1201 (σ.1 37) x2) σ)]) (pc1 := 240) (st1 := []) hC rfl (by decide) (by omega) (x_cTyp_require (d - 1) (by omega) x2 (v_cTyp_isBase (jI_at 1201 (σ.1 37) x2) σ) σ q9 (none, q9) hq rfl) ?_
              refine jE_blk (bs := [(.goto (51), 0, 0)]) (i := .return_) (a1 := 0) (a2 := 0) (pc1 := 291) (l1 := [(3, .int (jI_at 1201 (σ.1 37) x2)), (0, .ref 6), (1, .int x1), (2, .int x2)]) (st1 := []) (σ1 := q9) (by decide +kernel) rfl (fun hC => ?_)
              have h9 := Option.some.inj h
              subst h9
              have e9 : ((none, q9) : Option Value × jx_S) = res := hK
              subst e9
              exact jE_ret hC rfl
            · rw [if_neg hc5] at h
              rcases Classical.em ((jI_at 1201 (σ.1 23) x2) = 28) with hc6 | hc6
              · rw [if_pos hc6] at h
                refine jE_tsw 136 28 hC hc6 (by decide +kernel) ?_
                refine jE_blk (bs := [(.aload_n 0, 0, 0), (.iload_n 1, 0, 0), (.iload_n 2, 0, 0)]) (i := .invokevirtual 97) (a1 := 72) (a2 := 0) (pc1 := 139) (l1 := [(3, .int (jI_at 1201 (σ.1 37) x2)), (0, .ref 6), (1, .int x1), (2, .int x2)]) (st1 := [.int x2, .int x1, .ref 6]) (σ1 := σ) (by decide +kernel) rfl (fun hC => ?_)
                obtain ⟨q10, hq, h⟩ := Option.bind_eq_some_iff.mp h
                refine jE_call (as := [.ref 6, .int x1, .int x2]) (pc1 := 142) (st1 := []) hC rfl (by decide) (by omega) (x_cTyp_checkLocal (d - 1) (by omega) x1 x2 σ q10 (none, q10) hq rfl) ?_
                refine jE_blk (bs := [(.goto (149), 0, 0)]) (i := .return_) (a1 := 0) (a2 := 0) (pc1 := 291) (l1 := [(3, .int (jI_at 1201 (σ.1 37) x2)), (0, .ref 6), (1, .int x1), (2, .int x2)]) (st1 := []) (σ1 := q10) (by decide +kernel) rfl (fun hC => ?_)
                have h9 := Option.some.inj h
                subst h9
                have e9 : ((none, q10) : Option Value × jx_S) = res := hK
                subst e9
                exact jE_ret hC rfl
              · rw [if_neg hc6] at h
                rcases Classical.em ((jI_at 1201 (σ.1 23) x2) = 29) with hc7 | hc7
                · rw [if_pos hc7] at h
                  refine jE_tsw 145 29 hC hc7 (by decide +kernel) ?_
                  refine jE_blk (bs := [(.aload_n 0, 0, 0), (.iload_n 2, 0, 0)]) (i := .invokevirtual 100) (a1 := 73) (a2 := 0) (pc1 := 147) (l1 := [(3, .int (jI_at 1201 (σ.1 37) x2)), (0, .ref 6), (1, .int x1), (2, .int x2)]) (st1 := [.int x2, .ref 6]) (σ1 := σ) (by decide +kernel) rfl (fun hC => ?_)
                  obtain ⟨q11, hq, h⟩ := Option.bind_eq_some_iff.mp h
                  refine jE_call (as := [.ref 6, .int x2]) (pc1 := 150) (st1 := []) hC rfl (by decide) (by omega) (x_cTyp_checkCall (d - 1) (by omega) x2 σ q11 (none, q11) hq rfl) ?_
                  refine jE_blk (bs := [(.goto (141), 0, 0)]) (i := .return_) (a1 := 0) (a2 := 0) (pc1 := 291) (l1 := [(3, .int (jI_at 1201 (σ.1 37) x2)), (0, .ref 6), (1, .int x1), (2, .int x2)]) (st1 := []) (σ1 := q11) (by decide +kernel) rfl (fun hC => ?_)
                  have h9 := Option.some.inj h
                  subst h9
                  have e9 : ((none, q11) : Option Value × jx_S) = res := hK
                  subst e9
                  exact jE_ret hC rfl
                · rw [if_neg hc7] at h
                  refine jE_tswD 269 [5, 7, 10, 13, 14, 15, 28, 29] hC (by decide +kernel) ⟨hc0, hc1, hc2, hc3, hc4, hc5, hc6, hc7, trivial⟩ ?_
                  exact jE_loc (l := [(0, .ref 6), (2, .int x2), (3, .int (jI_at 1201 (σ.1 37) x2))]) (ks := [0, 2, 3]) rfl (by decide) ⟨rfl, rfl, rfl, trivial⟩ (x_cTyp_checkNode_269 d hd x2 (jI_at 1201 (σ.1 37) x2) σ _ res h hK)
def kk_cTre_following_24 (d : Nat) (t : ((Int32 × Int32 × jx_S) ⊕ (Int32 × jx_S))) (res : Option Value × jx_S) : Prop := match t with
  | .inl s => jE d 32 24 [(0, .ref 3), (2, .int s.1), (3, .int s.2.1)] [] s.2.2 res
  | .inr t => kkI t res
def p_cTre_following_61 (x2 : Int32) (σ : jx_S) : Option (Int32 × jx_S) := (some (((jI_at 1201 (σ.1 29) x2), σ)))
theorem x_cTre_following_61 (d : Nat) (hd : 1 ≤ d) (x2 : Int32) (σ : jx_S) (t : (Int32 × jx_S)) (res : Option Value × jx_S) (h : p_cTre_following_61 x2 σ = some t) (hK : kkI t res) : jE d 32 61 [(0, .ref 3), (2, .int x2)] [] σ res := by
  unfold p_cTre_following_61 at h
  refine jE_blk (bs := [(.aload_n 0, 0, 0), (.getfield 26, 3, 3), (.iload_n 2, 0, 0)]) (i := .invokevirtual 55) (a1 := 136) (a2 := 0) (pc1 := 66) (l1 := [(0, .ref 3), (2, .int x2)]) (st1 := [.int x2, .ref 28]) (σ1 := σ) (by decide +kernel) rfl (fun hC => ?_)
  refine jE_call (as := [.ref 28, .int x2]) (pc1 := 69) (st1 := []) hC rfl (by decide) (by omega) (xI_at (d - 1) 28 1201 x2 σ (by decide) rfl rfl) ?_
  refine jE_blk (bs := []) (i := .ireturn) (a1 := 0) (a2 := 0) (pc1 := 69) (l1 := [(0, .ref 3), (2, .int x2)]) (st1 := [.int (jI_at 1201 (σ.1 29) x2)]) (σ1 := σ) (by decide +kernel) rfl (fun hC => ?_)
  have h9 := Option.some.inj h
  subst h9
  have e9 : ((some (.int (jI_at 1201 (σ.1 29) x2)), σ) : Option Value × jx_S) = res := hK
  subst e9
  exact jE_ret hC rfl
def p_cTre_following_24_s (x2 : Int32) (x3 : Int32) (σ : jx_S) : Option ((Int32 × Int32 × jx_S) ⊕ (Int32 × jx_S)) := (if (1200 : Int32) ≤ x3 then (Option.map Sum.inr (p_cTre_following_61 x2 σ)) else (if x2 = 0 then (Option.map Sum.inr (p_cTre_following_61 x2 σ)) else (if ¬ (jI_at 1201 (σ.1 29) x2) = 0 then (Option.map Sum.inr (p_cTre_following_61 x2 σ)) else (some (.inl ((jI_at 1201 (σ.1 31) x2), (x3 + 1), σ))))))
theorem x_cTre_following_24_s (d : Nat) (hd : 1 ≤ d) (x2 : Int32) (x3 : Int32) (σ : jx_S) (t : ((Int32 × Int32 × jx_S) ⊕ (Int32 × jx_S))) (res : Option Value × jx_S) (h : p_cTre_following_24_s x2 x3 σ = some t) (hK : kk_cTre_following_24 d t res) : jE d 32 24 [(0, .ref 3), (2, .int x2), (3, .int x3)] [] σ res := by
  unfold p_cTre_following_24_s at h
  refine jE_blk (bs := [(.iload_n 3, 0, 0), (.sipush (1200), 1200, 0)]) (i := .if_icmp .ge (33)) (a1 := 0) (a2 := 0) (pc1 := 28) (l1 := [(0, .ref 3), (2, .int x2), (3, .int x3)]) (st1 := [.int (1200 : Int32), .int x3]) (σ1 := σ) (by decide +kernel) rfl (fun hC => ?_)
  rcases Classical.em ((1200 : Int32) ≤ x3) with hc | hc
  · rw [if_pos hc] at h
    refine jE_icT 61 hC (by decide) hc ?_
    obtain ⟨t9_1, h9_1, h8_1⟩ := Option.map_eq_some_iff.mp h
    clear h
    subst h8_1
    have h := h9_1
    clear h9_1
    exact jE_loc (l := [(0, .ref 3), (2, .int x2)]) (ks := [0, 2]) rfl (by decide) ⟨rfl, rfl, trivial⟩ (x_cTre_following_61 d hd x2 σ _ res h hK)
  · rw [if_neg hc] at h
    refine jE_icF 61 hC (by decide) hc ?_
    refine jE_blk (bs := [(.iload_n 2, 0, 0)]) (i := .ifCond .eq (29)) (a1 := 0) (a2 := 0) (pc1 := 32) (l1 := [(0, .ref 3), (2, .int x2), (3, .int x3)]) (st1 := [.int x2]) (σ1 := σ) (by decide +kernel) rfl (fun hC => ?_)
    rcases Classical.em (x2 = 0) with hc | hc
    · rw [if_pos hc] at h
      refine jE_ifT 61 hC (by decide) hc ?_
      obtain ⟨t9_2, h9_2, h8_2⟩ := Option.map_eq_some_iff.mp h
      clear h
      subst h8_2
      have h := h9_2
      clear h9_2
      exact jE_loc (l := [(0, .ref 3), (2, .int x2)]) (ks := [0, 2]) rfl (by decide) ⟨rfl, rfl, trivial⟩ (x_cTre_following_61 d hd x2 σ _ res h hK)
    · rw [if_neg hc] at h
      refine jE_ifF 61 hC (by decide) hc ?_
      refine jE_blk (bs := [(.aload_n 0, 0, 0), (.getfield 26, 3, 3), (.iload_n 2, 0, 0)]) (i := .invokevirtual 55) (a1 := 136) (a2 := 0) (pc1 := 40) (l1 := [(0, .ref 3), (2, .int x2), (3, .int x3)]) (st1 := [.int x2, .ref 28]) (σ1 := σ) (by decide +kernel) rfl (fun hC => ?_)
      refine jE_call (as := [.ref 28, .int x2]) (pc1 := 43) (st1 := []) hC rfl (by decide) (by omega) (xI_at (d - 1) 28 1201 x2 σ (by decide) rfl rfl) ?_
      refine jE_blk (bs := []) (i := .ifCond .ne (18)) (a1 := 0) (a2 := 0) (pc1 := 43) (l1 := [(0, .ref 3), (2, .int x2), (3, .int x3)]) (st1 := [.int (jI_at 1201 (σ.1 29) x2)]) (σ1 := σ) (by decide +kernel) rfl (fun hC => ?_)
      rcases Classical.em (¬ (jI_at 1201 (σ.1 29) x2) = 0) with hc | hc
      · rw [if_pos hc] at h
        refine jE_ifT 61 hC (by decide) hc ?_
        obtain ⟨t9_3, h9_3, h8_3⟩ := Option.map_eq_some_iff.mp h
        clear h
        subst h8_3
        have h := h9_3
        clear h9_3
        exact jE_loc (l := [(0, .ref 3), (2, .int x2)]) (ks := [0, 2]) rfl (by decide) ⟨rfl, rfl, trivial⟩ (x_cTre_following_61 d hd x2 σ _ res h hK)
      · rw [if_neg hc] at h
        refine jE_ifF 61 hC (by decide) hc ?_
        refine jE_blk (bs := [(.aload_n 0, 0, 0), (.getfield 29, 3, 4), (.iload_n 2, 0, 0)]) (i := .invokevirtual 55) (a1 := 136) (a2 := 0) (pc1 := 51) (l1 := [(0, .ref 3), (2, .int x2), (3, .int x3)]) (st1 := [.int x2, .ref 30]) (σ1 := σ) (by decide +kernel) rfl (fun hC => ?_)
        refine jE_call (as := [.ref 30, .int x2]) (pc1 := 54) (st1 := []) hC rfl (by decide) (by omega) (xI_at (d - 1) 30 1201 x2 σ (by decide) rfl rfl) ?_
        refine jE_blk (bs := [(.istore_n 2, 4, 0), (.iinc 3 (1), 4, 2), (.goto (-34), 0, 0)]) (i := .iload_n 3) (a1 := 0) (a2 := 0) (pc1 := 24) (l1 := [(3, .int (x3 + 1)), (2, .int (jI_at 1201 (σ.1 31) x2)), (0, .ref 3)]) (st1 := []) (σ1 := σ) (by decide +kernel) rfl (fun hC => ?_)
        have h9 := Option.some.inj h
        subst h9
        exact jE_loc (l := [(0, .ref 3), (2, .int (jI_at 1201 (σ.1 31) x2)), (3, .int (x3 + 1))]) (ks := [0, 2, 3]) rfl (by decide) ⟨rfl, rfl, rfl, trivial⟩ hK
def p_cTre_following_24 (x2 : Int32) (x3 : Int32) (σ : jx_S) : Option (Int32 × jx_S) := jx_loop 100000000 (fun s => p_cTre_following_24_s s.1 s.2.1 (s.2.2)) (x2, x3, σ)
theorem x_cTre_following_24 (d : Nat) (hd : 1 ≤ d) (x2 : Int32) (x3 : Int32) (σ : jx_S) (t : (Int32 × jx_S)) (res : Option Value × jx_S) (h : p_cTre_following_24 x2 x3 σ = some t) (hK : kkI t res) : jE d 32 24 [(0, .ref 3), (2, .int x2), (3, .int x3)] [] σ res := by
  refine jx_loop_ok (E := fun s t => ∀ res, kkI t res → jE d 32 24 [(0, .ref 3), (2, .int s.1), (3, .int s.2.1)] [] s.2.2 res) (fun s t hs => ?_) _ _ _ h res hK
  cases t with
  | inl s1 => exact fun b hb res hk => x_cTre_following_24_s d hd (s.1) (s.2.1) (s.2.2) _ res hs (hb res hk)
  | inr b => exact fun res hk => x_cTre_following_24_s d hd (s.1) (s.2.1) (s.2.2) _ res hs hk
def p_cTre_following (x1 : Int32) (σ : jx_S) : Option (Int32 × jx_S) := (if (jI_at 1201 (σ.1 27) x1) = 0 then (p_cTre_following_24 x1 (0 : Int32) σ) else (some (((jI_at 1201 (σ.1 27) x1), σ))))
theorem x_cTre_following (d : Nat) (hd : 1 ≤ d) (x1 : Int32) (σ : jx_S) (t : (Int32 × jx_S)) (res : Option Value × jx_S) (h : p_cTre_following x1 σ = some t) (hK : kkI t res) : jE d 32 0 [(0, .ref 3), (1, .int x1)] [] σ res := by
  unfold p_cTre_following at h
  refine jE_blk (bs := [(.aload_n 0, 0, 0), (.getfield 23, 3, 2), (.iload_n 1, 0, 0)]) (i := .invokevirtual 55) (a1 := 136) (a2 := 0) (pc1 := 5) (l1 := [(0, .ref 3), (1, .int x1)]) (st1 := [.int x1, .ref 26]) (σ1 := σ) (by decide +kernel) rfl (fun hC => ?_)
  refine jE_call (as := [.ref 26, .int x1]) (pc1 := 8) (st1 := []) hC rfl (by decide) (by omega) (xI_at (d - 1) 26 1201 x1 σ (by decide) rfl rfl) ?_
  refine jE_blk (bs := []) (i := .ifCond .eq (12)) (a1 := 0) (a2 := 0) (pc1 := 8) (l1 := [(0, .ref 3), (1, .int x1)]) (st1 := [.int (jI_at 1201 (σ.1 27) x1)]) (σ1 := σ) (by decide +kernel) rfl (fun hC => ?_)
  rcases Classical.em ((jI_at 1201 (σ.1 27) x1) = 0) with hc | hc
  · rw [if_pos hc] at h
    refine jE_ifT 20 hC (by decide) hc ?_
    refine jE_blk (bs := [(.iload_n 1, 0, 0), (.istore_n 2, 4, 0), (.iconst (0), 0, 0), (.istore_n 3, 4, 0)]) (i := .iload_n 3) (a1 := 0) (a2 := 0) (pc1 := 24) (l1 := [(3, .int (0 : Int32)), (2, .int x1), (0, .ref 3), (1, .int x1)]) (st1 := []) (σ1 := σ) (by decide +kernel) rfl (fun hC => ?_)
    exact jE_loc (l := [(0, .ref 3), (2, .int x1), (3, .int (0 : Int32))]) (ks := [0, 2, 3]) rfl (by decide) ⟨rfl, rfl, rfl, trivial⟩ (x_cTre_following_24 d hd x1 (0 : Int32) σ _ res h hK)
  · rw [if_neg hc] at h
    refine jE_ifF 20 hC (by decide) hc ?_
    refine jE_blk (bs := [(.aload_n 0, 0, 0), (.getfield 23, 3, 2), (.iload_n 1, 0, 0)]) (i := .invokevirtual 55) (a1 := 136) (a2 := 0) (pc1 := 16) (l1 := [(0, .ref 3), (1, .int x1)]) (st1 := [.int x1, .ref 26]) (σ1 := σ) (by decide +kernel) rfl (fun hC => ?_)
    refine jE_call (as := [.ref 26, .int x1]) (pc1 := 19) (st1 := []) hC rfl (by decide) (by omega) (xI_at (d - 1) 26 1201 x1 σ (by decide) rfl rfl) ?_
    refine jE_blk (bs := []) (i := .ireturn) (a1 := 0) (a2 := 0) (pc1 := 19) (l1 := [(0, .ref 3), (1, .int x1)]) (st1 := [.int (jI_at 1201 (σ.1 27) x1)]) (σ1 := σ) (by decide +kernel) rfl (fun hC => ?_)
    have h9 := Option.some.inj h
    subst h9
    have e9 : ((some (.int (jI_at 1201 (σ.1 27) x1)), σ) : Option Value × jx_S) = res := hK
    subst e9
    exact jE_ret hC rfl
def kk_cTyp_checkBody_36 (d : Nat) (t : ((Int32 × Int32 × Int32 × jx_S) ⊕ jx_S)) (res : Option Value × jx_S) : Prop := match t with
  | .inl s => jE d 70 36 [(0, .ref 6), (1, .int s.1), (2, .int s.2.1), (3, .int s.2.2.1)] [] s.2.2.2 res
  | .inr t => kkV t res
def p_cTyp_checkBody_36_s (x1 : Int32) (x2 : Int32) (x3 : Int32) (σ : jx_S) : Option ((Int32 × Int32 × Int32 × jx_S) ⊕ jx_S) := (if (1200 : Int32) ≤ x3 then (Option.map Sum.inr (some (σ))) else (if x2 = 0 then (Option.map Sum.inr (some (σ))) else (if ¬ (v_cFau_isTold σ) = 0 then (Option.map Sum.inr (some (σ))) else ((p_cTyp_checkNode x1 x2 σ).bind fun q4 => ((p_cTre_following x2 q4).bind fun q5 => (some (.inl (x1, q5.1, (x3 + 1), q5.2))))))))
theorem x_cTyp_checkBody_36_s (d : Nat) (hd : 5 ≤ d) (x1 : Int32) (x2 : Int32) (x3 : Int32) (σ : jx_S) (t : ((Int32 × Int32 × Int32 × jx_S) ⊕ jx_S)) (res : Option Value × jx_S) (h : p_cTyp_checkBody_36_s x1 x2 x3 σ = some t) (hK : kk_cTyp_checkBody_36 d t res) : jE d 70 36 [(0, .ref 6), (1, .int x1), (2, .int x2), (3, .int x3)] [] σ res := by
  unfold p_cTyp_checkBody_36_s at h
  refine jE_blk (bs := [(.iload_n 3, 0, 0), (.sipush (1200), 1200, 0)]) (i := .if_icmp .ge (38)) (a1 := 0) (a2 := 0) (pc1 := 40) (l1 := [(0, .ref 6), (1, .int x1), (2, .int x2), (3, .int x3)]) (st1 := [.int (1200 : Int32), .int x3]) (σ1 := σ) (by decide +kernel) rfl (fun hC => ?_)
  rcases Classical.em ((1200 : Int32) ≤ x3) with hc | hc
  · rw [if_pos hc] at h
    refine jE_icT 78 hC (by decide) hc ?_
    obtain ⟨t9_1, h9_1, h8_1⟩ := Option.map_eq_some_iff.mp h
    clear h
    subst h8_1
    have h := h9_1
    clear h9_1
    refine jE_blk (bs := []) (i := .return_) (a1 := 0) (a2 := 0) (pc1 := 78) (l1 := [(0, .ref 6), (1, .int x1), (2, .int x2), (3, .int x3)]) (st1 := []) (σ1 := σ) (by decide +kernel) rfl (fun hC => ?_)
    have h9 := Option.some.inj h
    subst h9
    have e9 : ((none, σ) : Option Value × jx_S) = res := hK
    subst e9
    exact jE_ret hC rfl
  · rw [if_neg hc] at h
    refine jE_icF 78 hC (by decide) hc ?_
    refine jE_blk (bs := [(.iload_n 2, 0, 0)]) (i := .ifCond .eq (34)) (a1 := 0) (a2 := 0) (pc1 := 44) (l1 := [(0, .ref 6), (1, .int x1), (2, .int x2), (3, .int x3)]) (st1 := [.int x2]) (σ1 := σ) (by decide +kernel) rfl (fun hC => ?_)
    rcases Classical.em (x2 = 0) with hc | hc
    · rw [if_pos hc] at h
      refine jE_ifT 78 hC (by decide) hc ?_
      obtain ⟨t9_2, h9_2, h8_2⟩ := Option.map_eq_some_iff.mp h
      clear h
      subst h8_2
      have h := h9_2
      clear h9_2
      refine jE_blk (bs := []) (i := .return_) (a1 := 0) (a2 := 0) (pc1 := 78) (l1 := [(0, .ref 6), (1, .int x1), (2, .int x2), (3, .int x3)]) (st1 := []) (σ1 := σ) (by decide +kernel) rfl (fun hC => ?_)
      have h9 := Option.some.inj h
      subst h9
      have e9 : ((none, σ) : Option Value × jx_S) = res := hK
      subst e9
      exact jE_ret hC rfl
    · rw [if_neg hc] at h
      refine jE_ifF 78 hC (by decide) hc ?_
      refine jE_blk (bs := [(.aload_n 0, 0, 0), (.getfield 23, 6, 3)]) (i := .invokevirtual 27) (a1 := 17) (a2 := 0) (pc1 := 51) (l1 := [(0, .ref 6), (1, .int x1), (2, .int x2), (3, .int x3)]) (st1 := [.ref 1]) (σ1 := σ) (by decide +kernel) rfl (fun hC => ?_)
      refine jE_call (as := [.ref 1]) (pc1 := 54) (st1 := []) hC rfl (by decide) (by omega) (xv_cFau_isTold (d - 1) (by omega) σ) ?_
      refine jE_blk (bs := []) (i := .ifCond .ne (24)) (a1 := 0) (a2 := 0) (pc1 := 54) (l1 := [(0, .ref 6), (1, .int x1), (2, .int x2), (3, .int x3)]) (st1 := [.int (v_cFau_isTold σ)]) (σ1 := σ) (by decide +kernel) rfl (fun hC => ?_)
      rcases Classical.em (¬ (v_cFau_isTold σ) = 0) with hc | hc
      · rw [if_pos hc] at h
        refine jE_ifT 78 hC (by decide) hc ?_
        obtain ⟨t9_3, h9_3, h8_3⟩ := Option.map_eq_some_iff.mp h
        clear h
        subst h8_3
        have h := h9_3
        clear h9_3
        refine jE_blk (bs := []) (i := .return_) (a1 := 0) (a2 := 0) (pc1 := 78) (l1 := [(0, .ref 6), (1, .int x1), (2, .int x2), (3, .int x3)]) (st1 := []) (σ1 := σ) (by decide +kernel) rfl (fun hC => ?_)
        have h9 := Option.some.inj h
        subst h9
        have e9 : ((none, σ) : Option Value × jx_S) = res := hK
        subst e9
        exact jE_ret hC rfl
      · rw [if_neg hc] at h
        refine jE_ifF 78 hC (by decide) hc ?_
        refine jE_blk (bs := [(.aload_n 0, 0, 0), (.iload_n 1, 0, 0), (.iload_n 2, 0, 0)]) (i := .invokevirtual 88) (a1 := 71) (a2 := 0) (pc1 := 60) (l1 := [(0, .ref 6), (1, .int x1), (2, .int x2), (3, .int x3)]) (st1 := [.int x2, .int x1, .ref 6]) (σ1 := σ) (by decide +kernel) rfl (fun hC => ?_)
        obtain ⟨q4, hq, h⟩ := Option.bind_eq_some_iff.mp h
        refine jE_call (as := [.ref 6, .int x1, .int x2]) (pc1 := 63) (st1 := []) hC rfl (by decide) (by omega) (x_cTyp_checkNode (d - 1) (by omega) x1 x2 σ q4 (none, q4) hq rfl) ?_
        refine jE_blk (bs := [(.aload_n 0, 0, 0), (.getfield 15, 6, 1), (.iload_n 2, 0, 0)]) (i := .invokevirtual 91) (a1 := 32) (a2 := 0) (pc1 := 68) (l1 := [(0, .ref 6), (1, .int x1), (2, .int x2), (3, .int x3)]) (st1 := [.int x2, .ref 3]) (σ1 := q4) (by decide +kernel) rfl (fun hC => ?_)
        obtain ⟨q5, hq, h⟩ := Option.bind_eq_some_iff.mp h
        refine jE_call (as := [.ref 3, .int x2]) (pc1 := 71) (st1 := []) hC rfl (by decide) (by omega) (x_cTre_following (d - 1) (by omega) x2 q4 q5 (some (.int q5.1), q5.2) hq rfl) ?_
        refine jE_blk (bs := [(.istore_n 2, 4, 0), (.iinc 3 (1), 4, 2), (.goto (-39), 0, 0)]) (i := .iload_n 3) (a1 := 0) (a2 := 0) (pc1 := 36) (l1 := [(3, .int (x3 + 1)), (2, .int q5.1), (0, .ref 6), (1, .int x1)]) (st1 := []) (σ1 := q5.2) (by decide +kernel) rfl (fun hC => ?_)
        have h9 := Option.some.inj h
        subst h9
        exact jE_loc (l := [(0, .ref 6), (1, .int x1), (2, .int q5.1), (3, .int (x3 + 1))]) (ks := [0, 1, 2, 3]) rfl (by decide) ⟨rfl, rfl, rfl, rfl, trivial⟩ hK
def p_cTyp_checkBody_36 (x1 : Int32) (x2 : Int32) (x3 : Int32) (σ : jx_S) : Option jx_S := jx_loop 100000000 (fun s => p_cTyp_checkBody_36_s s.1 s.2.1 s.2.2.1 (s.2.2.2)) (x1, x2, x3, σ)
theorem x_cTyp_checkBody_36 (d : Nat) (hd : 5 ≤ d) (x1 : Int32) (x2 : Int32) (x3 : Int32) (σ : jx_S) (t : jx_S) (res : Option Value × jx_S) (h : p_cTyp_checkBody_36 x1 x2 x3 σ = some t) (hK : kkV t res) : jE d 70 36 [(0, .ref 6), (1, .int x1), (2, .int x2), (3, .int x3)] [] σ res := by
  refine jx_loop_ok (E := fun s t => ∀ res, kkV t res → jE d 70 36 [(0, .ref 6), (1, .int s.1), (2, .int s.2.1), (3, .int s.2.2.1)] [] s.2.2.2 res) (fun s t hs => ?_) _ _ _ h res hK
  cases t with
  | inl s1 => exact fun b hb res hk => x_cTyp_checkBody_36_s d hd (s.1) (s.2.1) (s.2.2.1) (s.2.2.2) _ res hs (hb res hk)
  | inr b => exact fun res hk => x_cTyp_checkBody_36_s d hd (s.1) (s.2.1) (s.2.2.1) (s.2.2.2) _ res hs hk
def p_cTyp_checkBody (x1 : Int32) (σ : jx_S) : Option jx_S := (p_cTyp_checkBody_36 x1 (jI_at 40 (σ.1 51) x1) (0 : Int32) (jI_put 1201 σ 37 (jI_at 40 (σ.1 51) x1) (jI_at 40 (σ.1 45) x1)))
theorem x_cTyp_checkBody (d : Nat) (hd : 5 ≤ d) (x1 : Int32) (σ : jx_S) (t : jx_S) (res : Option Value × jx_S) (h : p_cTyp_checkBody x1 σ = some t) (hK : kkV t res) : jE d 70 0 [(0, .ref 6), (1, .int x1)] [] σ res := by
  unfold p_cTyp_checkBody at h
  refine jE_blk (bs := [(.aload_n 0, 0, 0), (.getfield 19, 6, 2), (.getfield 74, 4, 5), (.iload_n 1, 0, 0)]) (i := .invokevirtual 53) (a1 := 136) (a2 := 0) (pc1 := 8) (l1 := [(0, .ref 6), (1, .int x1)]) (st1 := [.int x1, .ref 50]) (σ1 := σ) (by decide +kernel) rfl (fun hC => ?_)
  refine jE_call (as := [.ref 50, .int x1]) (pc1 := 11) (st1 := []) hC rfl (by decide) (by omega) (xI_at (d - 1) 50 40 x1 σ (by decide) rfl rfl) ?_
  refine jE_blk (bs := [(.istore_n 2, 4, 0), (.aload_n 0, 0, 0), (.getfield 15, 6, 1), (.getfield 77, 3, 7), (.iload_n 2, 0, 0), (.aload_n 0, 0, 0), (.getfield 19, 6, 2), (.getfield 82, 4, 2), (.iload_n 1, 0, 0)]) (i := .invokevirtual 53) (a1 := 136) (a2 := 0) (pc1 := 28) (l1 := [(2, .int (jI_at 40 (σ.1 51) x1)), (0, .ref 6), (1, .int x1)]) (st1 := [.int x1, .ref 44, .int (jI_at 40 (σ.1 51) x1), .ref 36]) (σ1 := σ) (by decide +kernel) rfl (fun hC => ?_)
  refine jE_call (as := [.ref 44, .int x1]) (pc1 := 31) (st1 := [.int (jI_at 40 (σ.1 51) x1), .ref 36]) hC rfl (by decide) (by omega) (xI_at (d - 1) 44 40 x1 σ (by decide) rfl rfl) ?_
  refine jE_blk (bs := []) (i := .invokevirtual 85) (a1 := 137) (a2 := 0) (pc1 := 31) (l1 := [(2, .int (jI_at 40 (σ.1 51) x1)), (0, .ref 6), (1, .int x1)]) (st1 := [.int (jI_at 40 (σ.1 45) x1), .int (jI_at 40 (σ.1 51) x1), .ref 36]) (σ1 := σ) (by decide +kernel) rfl (fun hC => ?_)
  refine jE_call (as := [.ref 36, .int (jI_at 40 (σ.1 51) x1), .int (jI_at 40 (σ.1 45) x1)]) (pc1 := 34) (st1 := []) hC rfl (by decide) (by omega) (xI_put (d - 1) 36 1201 (jI_at 40 (σ.1 51) x1) (jI_at 40 (σ.1 45) x1) σ (by decide) rfl rfl) ?_
  refine jE_blk (bs := [(.iconst (0), 0, 0), (.istore_n 3, 4, 0)]) (i := .iload_n 3) (a1 := 0) (a2 := 0) (pc1 := 36) (l1 := [(3, .int (0 : Int32)), (2, .int (jI_at 40 (σ.1 51) x1)), (0, .ref 6), (1, .int x1)]) (st1 := []) (σ1 := (jI_put 1201 σ 37 (jI_at 40 (σ.1 51) x1) (jI_at 40 (σ.1 45) x1))) (by decide +kernel) rfl (fun hC => ?_)
  exact jE_loc (l := [(0, .ref 6), (1, .int x1), (2, .int (jI_at 40 (σ.1 51) x1)), (3, .int (0 : Int32))]) (ks := [0, 1, 2, 3]) rfl (by decide) ⟨rfl, rfl, rfl, rfl, trivial⟩ (x_cTyp_checkBody_36 d hd x1 (jI_at 40 (σ.1 51) x1) (0 : Int32) (jI_put 1201 σ 37 (jI_at 40 (σ.1 51) x1) (jI_at 40 (σ.1 45) x1)) _ res h hK)
def kk_cTyp_countCases_4 (d : Nat) (t : ((Int32 × Int32 × Int32 × jx_S) ⊕ jx_S)) (res : Option Value × jx_S) : Prop := match t with
  | .inl s => jE d 75 4 [(0, .ref 6), (1, .int s.1), (2, .int s.2.1), (3, .int s.2.2.1)] [] s.2.2.2 res
  | .inr t => kkV t res
def p_cTyp_countCases_64 (x1 : Int32) (x2 : Int32) (σ : jx_S) : Option jx_S := (some ((jI_put 40 σ 53 x1 x2)))
theorem x_cTyp_countCases_64 (d : Nat) (hd : 2 ≤ d) (x1 : Int32) (x2 : Int32) (σ : jx_S) (t : jx_S) (res : Option Value × jx_S) (h : p_cTyp_countCases_64 x1 x2 σ = some t) (hK : kkV t res) : jE d 75 64 [(0, .ref 6), (1, .int x1), (2, .int x2)] [] σ res := by
  unfold p_cTyp_countCases_64 at h
  refine jE_blk (bs := [(.aload_n 0, 0, 0), (.getfield 19, 6, 2), (.getfield 151, 4, 6), (.iload_n 1, 0, 0), (.iload_n 2, 0, 0)]) (i := .invokevirtual 85) (a1 := 137) (a2 := 0) (pc1 := 73) (l1 := [(0, .ref 6), (1, .int x1), (2, .int x2)]) (st1 := [.int x2, .int x1, .ref 52]) (σ1 := σ) (by decide +kernel) rfl (fun hC => ?_)
  refine jE_call (as := [.ref 52, .int x1, .int x2]) (pc1 := 76) (st1 := []) hC rfl (by decide) (by omega) (xI_put (d - 1) 52 40 x1 x2 σ (by decide) rfl rfl) ?_
  refine jE_blk (bs := []) (i := .return_) (a1 := 0) (a2 := 0) (pc1 := 76) (l1 := [(0, .ref 6), (1, .int x1), (2, .int x2)]) (st1 := []) (σ1 := (jI_put 40 σ 53 x1 x2)) (by decide +kernel) rfl (fun hC => ?_)
  have h9 := Option.some.inj h
  subst h9
  have e9 : ((none, (jI_put 40 σ 53 x1 x2)) : Option Value × jx_S) = res := hK
  subst e9
  exact jE_ret hC rfl
def p_cTyp_countCases_4_s (x1 : Int32) (x2 : Int32) (x3 : Int32) (σ : jx_S) : Option ((Int32 × Int32 × Int32 × jx_S) ⊕ jx_S) := (if (jI_at 40 (σ.1 43) x1) ≤ x3 then (Option.map Sum.inr (if x2 ≤ (1000 : Int32) then (p_cTyp_countCases_64 x1 x2 σ) else ((p_cTyp_tell (8 : Int32) (jI_at 40 (σ.1 41) x1) σ).bind fun q1 => (p_cTyp_countCases_64 x1 x2 q1)))) else (some (.inl (x1, (x2 * (v_cTyp_pointsOf (v_cFun_typeOf x1 x3 σ) σ)), (x3 + 1), σ))))
theorem x_cTyp_countCases_4_s (d : Nat) (hd : 2 ≤ d) (x1 : Int32) (x2 : Int32) (x3 : Int32) (σ : jx_S) (t : ((Int32 × Int32 × Int32 × jx_S) ⊕ jx_S)) (res : Option Value × jx_S) (h : p_cTyp_countCases_4_s x1 x2 x3 σ = some t) (hK : kk_cTyp_countCases_4 d t res) : jE d 75 4 [(0, .ref 6), (1, .int x1), (2, .int x2), (3, .int x3)] [] σ res := by
  unfold p_cTyp_countCases_4_s at h
  refine jE_blk (bs := [(.iload_n 3, 0, 0), (.aload_n 0, 0, 0), (.getfield 19, 6, 2), (.getfield 67, 4, 1), (.iload_n 1, 0, 0)]) (i := .invokevirtual 53) (a1 := 136) (a2 := 0) (pc1 := 13) (l1 := [(0, .ref 6), (1, .int x1), (2, .int x2), (3, .int x3)]) (st1 := [.int x1, .ref 42, .int x3]) (σ1 := σ) (by decide +kernel) rfl (fun hC => ?_)
  refine jE_call (as := [.ref 42, .int x1]) (pc1 := 16) (st1 := [.int x3]) hC rfl (by decide) (by omega) (xI_at (d - 1) 42 40 x1 σ (by decide) rfl rfl) ?_
  refine jE_blk (bs := []) (i := .if_icmp .ge (24)) (a1 := 0) (a2 := 0) (pc1 := 16) (l1 := [(0, .ref 6), (1, .int x1), (2, .int x2), (3, .int x3)]) (st1 := [.int (jI_at 40 (σ.1 43) x1), .int x3]) (σ1 := σ) (by decide +kernel) rfl (fun hC => ?_)
  rcases Classical.em ((jI_at 40 (σ.1 43) x1) ≤ x3) with hc | hc
  · rw [if_pos hc] at h
    refine jE_icT 40 hC (by decide) hc ?_
    obtain ⟨t9_2, h9_2, h8_2⟩ := Option.map_eq_some_iff.mp h
    clear h
    subst h8_2
    have h := h9_2
    clear h9_2
    refine jE_blk (bs := [(.iload_n 2, 0, 0), (.sipush (1000), 1000, 0)]) (i := .if_icmp .le (20)) (a1 := 0) (a2 := 0) (pc1 := 44) (l1 := [(0, .ref 6), (1, .int x1), (2, .int x2), (3, .int x3)]) (st1 := [.int (1000 : Int32), .int x2]) (σ1 := σ) (by decide +kernel) rfl (fun hC => ?_)
    rcases Classical.em (x2 ≤ (1000 : Int32)) with hc | hc
    · rw [if_pos hc] at h
      refine jE_icT 64 hC (by decide) hc ?_
      exact jE_loc (l := [(0, .ref 6), (1, .int x1), (2, .int x2)]) (ks := [0, 1, 2]) rfl (by decide) ⟨rfl, rfl, rfl, trivial⟩ (x_cTyp_countCases_64 d hd x1 x2 σ _ res h hK)
    · rw [if_neg hc] at h
      refine jE_icF 64 hC (by decide) hc ?_
      refine jE_blk (bs := [(.aload_n 0, 0, 0), (.bipush (8), 8, 0), (.aload_n 0, 0, 0), (.getfield 19, 6, 2), (.getfield 49, 4, 0), (.iload_n 1, 0, 0)]) (i := .invokevirtual 53) (a1 := 136) (a2 := 0) (pc1 := 58) (l1 := [(0, .ref 6), (1, .int x1), (2, .int x2), (3, .int x3)]) (st1 := [.int x1, .ref 40, .int (8 : Int32), .ref 6]) (σ1 := σ) (by decide +kernel) rfl (fun hC => ?_)
      refine jE_call (as := [.ref 40, .int x1]) (pc1 := 61) (st1 := [.int (8 : Int32), .ref 6]) hC rfl (by decide) (by omega) (xI_at (d - 1) 40 40 x1 σ (by decide) rfl rfl) ?_
      refine jE_blk (bs := []) (i := .invokevirtual 63) (a1 := 80) (a2 := 0) (pc1 := 61) (l1 := [(0, .ref 6), (1, .int x1), (2, .int x2), (3, .int x3)]) (st1 := [.int (jI_at 40 (σ.1 41) x1), .int (8 : Int32), .ref 6]) (σ1 := σ) (by decide +kernel) rfl (fun hC => ?_)
      obtain ⟨q1, hq, h⟩ := Option.bind_eq_some_iff.mp h
      refine jE_call (as := [.ref 6, .int (8 : Int32), .int (jI_at 40 (σ.1 41) x1)]) (pc1 := 64) (st1 := []) hC rfl (by decide) (by omega) (x_cTyp_tell (d - 1) (by omega) (8 : Int32) (jI_at 40 (σ.1 41) x1) σ q1 (none, q1) hq rfl) ?_
      exact jE_loc (l := [(0, .ref 6), (1, .int x1), (2, .int x2)]) (ks := [0, 1, 2]) rfl (by decide) ⟨rfl, rfl, rfl, trivial⟩ (x_cTyp_countCases_64 d hd x1 x2 q1 _ res h hK)
  · rw [if_neg hc] at h
    refine jE_icF 40 hC (by decide) hc ?_
    refine jE_blk (bs := [(.iload_n 2, 0, 0), (.aload_n 0, 0, 0), (.getfield 19, 6, 2), (.iload_n 1, 0, 0), (.iload_n 3, 0, 0)]) (i := .invokevirtual 114) (a1 := 40) (a2 := 0) (pc1 := 26) (l1 := [(0, .ref 6), (1, .int x1), (2, .int x2), (3, .int x3)]) (st1 := [.int x3, .int x1, .ref 4, .int x2]) (σ1 := σ) (by decide +kernel) rfl (fun hC => ?_)
    refine jE_call (as := [.ref 4, .int x1, .int x3]) (pc1 := 29) (st1 := [.int x2]) hC rfl (by decide) (by omega) (xv_cFun_typeOf (d - 1) (by omega) x1 x3 σ) ?_
    refine jE_blk (bs := []) (i := .invokestatic 148) (a1 := 83) (a2 := 0) (pc1 := 29) (l1 := [(0, .ref 6), (1, .int x1), (2, .int x2), (3, .int x3)]) (st1 := [.int (v_cFun_typeOf x1 x3 σ), .int x2]) (σ1 := σ) (by decide +kernel) rfl (fun hC => ?_)
    refine jE_call (as := [.int (v_cFun_typeOf x1 x3 σ)]) (pc1 := 32) (st1 := [.int x2]) hC rfl (by decide) (by omega) (xv_cTyp_pointsOf (d - 1) (by omega) (v_cFun_typeOf x1 x3 σ) σ) ?_
    refine jE_blk (bs := [(.imul, 0, 0), (.istore_n 2, 4, 0), (.iinc 3 (1), 4, 2), (.goto (-33), 0, 0)]) (i := .iload_n 3) (a1 := 0) (a2 := 0) (pc1 := 4) (l1 := [(3, .int (x3 + 1)), (2, .int (x2 * (v_cTyp_pointsOf (v_cFun_typeOf x1 x3 σ) σ))), (0, .ref 6), (1, .int x1)]) (st1 := []) (σ1 := σ) (by decide +kernel) rfl (fun hC => ?_)
    have h9 := Option.some.inj h
    subst h9
    exact jE_loc (l := [(0, .ref 6), (1, .int x1), (2, .int (x2 * (v_cTyp_pointsOf (v_cFun_typeOf x1 x3 σ) σ))), (3, .int (x3 + 1))]) (ks := [0, 1, 2, 3]) rfl (by decide) ⟨rfl, rfl, rfl, rfl, trivial⟩ hK
def p_cTyp_countCases_4 (x1 : Int32) (x2 : Int32) (x3 : Int32) (σ : jx_S) : Option jx_S := jx_loop 100000000 (fun s => p_cTyp_countCases_4_s s.1 s.2.1 s.2.2.1 (s.2.2.2)) (x1, x2, x3, σ)
theorem x_cTyp_countCases_4 (d : Nat) (hd : 2 ≤ d) (x1 : Int32) (x2 : Int32) (x3 : Int32) (σ : jx_S) (t : jx_S) (res : Option Value × jx_S) (h : p_cTyp_countCases_4 x1 x2 x3 σ = some t) (hK : kkV t res) : jE d 75 4 [(0, .ref 6), (1, .int x1), (2, .int x2), (3, .int x3)] [] σ res := by
  refine jx_loop_ok (E := fun s t => ∀ res, kkV t res → jE d 75 4 [(0, .ref 6), (1, .int s.1), (2, .int s.2.1), (3, .int s.2.2.1)] [] s.2.2.2 res) (fun s t hs => ?_) _ _ _ h res hK
  cases t with
  | inl s1 => exact fun b hb res hk => x_cTyp_countCases_4_s d hd (s.1) (s.2.1) (s.2.2.1) (s.2.2.2) _ res hs (hb res hk)
  | inr b => exact fun res hk => x_cTyp_countCases_4_s d hd (s.1) (s.2.1) (s.2.2.1) (s.2.2.2) _ res hs hk
def p_cTyp_countCases (x1 : Int32) (σ : jx_S) : Option jx_S := (p_cTyp_countCases_4 x1 (1 : Int32) (0 : Int32) σ)
theorem x_cTyp_countCases (d : Nat) (hd : 2 ≤ d) (x1 : Int32) (σ : jx_S) (t : jx_S) (res : Option Value × jx_S) (h : p_cTyp_countCases x1 σ = some t) (hK : kkV t res) : jE d 75 0 [(0, .ref 6), (1, .int x1)] [] σ res := by
  unfold p_cTyp_countCases at h
  refine jE_blk (bs := [(.iconst (1), 1, 0), (.istore_n 2, 4, 0), (.iconst (0), 0, 0), (.istore_n 3, 4, 0)]) (i := .iload_n 3) (a1 := 0) (a2 := 0) (pc1 := 4) (l1 := [(3, .int (0 : Int32)), (2, .int (1 : Int32)), (0, .ref 6), (1, .int x1)]) (st1 := []) (σ1 := σ) (by decide +kernel) rfl (fun hC => ?_)
  exact jE_loc (l := [(0, .ref 6), (1, .int x1), (2, .int (1 : Int32)), (3, .int (0 : Int32))]) (ks := [0, 1, 2, 3]) rfl (by decide) ⟨rfl, rfl, rfl, rfl, trivial⟩ (x_cTyp_countCases_4 d hd x1 (1 : Int32) (0 : Int32) σ _ res h hK)
def kk_cTyp_check_13 (d : Nat) (t : ((Int32 × jx_S) ⊕ jx_S)) (res : Option Value × jx_S) : Prop := match t with
  | .inl s => jE d 68 13 [(0, .ref 6), (1, .int s.1)] [] s.2 res
  | .inr t => kkV t res
def kk_cTyp_check_37 (d : Nat) (t : ((Int32 × jx_S) ⊕ jx_S)) (res : Option Value × jx_S) : Prop := match t with
  | .inl s => jE d 68 37 [(0, .ref 6), (1, .int s.1)] [] s.2 res
  | .inr t => kkV t res
def kk_cTyp_check_61 (d : Nat) (t : ((Int32 × jx_S) ⊕ jx_S)) (res : Option Value × jx_S) : Prop := match t with
  | .inl s => jE d 68 61 [(0, .ref 6), (1, .int s.1)] [] s.2 res
  | .inr t => kkV t res
def p_cTyp_check_61_s (x1 : Int32) (σ : jx_S) : Option ((Int32 × jx_S) ⊕ jx_S) := (if (σ.1 4 10) ≤ x1 then (Option.map Sum.inr (some (σ))) else ((p_cTyp_countCases x1 σ).bind fun q2 => (some (.inl ((x1 + 1), q2)))))
theorem x_cTyp_check_61_s (d : Nat) (hd : 6 ≤ d) (x1 : Int32) (σ : jx_S) (t : ((Int32 × jx_S) ⊕ jx_S)) (res : Option Value × jx_S) (h : p_cTyp_check_61_s x1 σ = some t) (hK : kk_cTyp_check_61 d t res) : jE d 68 61 [(0, .ref 6), (1, .int x1)] [] σ res := by
  unfold p_cTyp_check_61_s at h
  refine jE_blk (bs := [(.iload_n 1, 0, 0), (.aload_n 0, 0, 0), (.getfield 19, 6, 2), (.getfield 33, 4, 10)]) (i := .if_icmp .ge (14)) (a1 := 0) (a2 := 0) (pc1 := 69) (l1 := [(0, .ref 6), (1, .int x1)]) (st1 := [.int (σ.1 4 10), .int x1]) (σ1 := σ) (by decide +kernel) rfl (fun hC => ?_)
  rcases Classical.em ((σ.1 4 10) ≤ x1) with hc | hc
  · rw [if_pos hc] at h
    refine jE_icT 83 hC (by decide) hc ?_
    obtain ⟨t9_1, h9_1, h8_1⟩ := Option.map_eq_some_iff.mp h
    clear h
    subst h8_1
    have h := h9_1
    clear h9_1
    refine jE_blk (bs := []) (i := .return_) (a1 := 0) (a2 := 0) (pc1 := 83) (l1 := [(0, .ref 6), (1, .int x1)]) (st1 := []) (σ1 := σ) (by decide +kernel) rfl (fun hC => ?_)
    have h9 := Option.some.inj h
    subst h9
    have e9 : ((none, σ) : Option Value × jx_S) = res := hK
    subst e9
    exact jE_ret hC rfl
  · rw [if_neg hc] at h
    refine jE_icF 83 hC (by decide) hc ?_
    refine jE_blk (bs := [(.aload_n 0, 0, 0), (.iload_n 1, 0, 0)]) (i := .invokevirtual 46) (a1 := 75) (a2 := 0) (pc1 := 74) (l1 := [(0, .ref 6), (1, .int x1)]) (st1 := [.int x1, .ref 6]) (σ1 := σ) (by decide +kernel) rfl (fun hC => ?_)
    obtain ⟨q2, hq, h⟩ := Option.bind_eq_some_iff.mp h
    refine jE_call (as := [.ref 6, .int x1]) (pc1 := 77) (st1 := []) hC rfl (by decide) (by omega) (x_cTyp_countCases (d - 1) (by omega) x1 σ q2 (none, q2) hq rfl) ?_
    refine jE_blk (bs := [(.iinc 1 (1), 2, 2), (.goto (-19), 0, 0)]) (i := .iload_n 1) (a1 := 0) (a2 := 0) (pc1 := 61) (l1 := [(1, .int (x1 + 1)), (0, .ref 6)]) (st1 := []) (σ1 := q2) (by decide +kernel) rfl (fun hC => ?_)
    have h9 := Option.some.inj h
    subst h9
    exact jE_loc (l := [(0, .ref 6), (1, .int (x1 + 1))]) (ks := [0, 1]) rfl (by decide) ⟨rfl, rfl, trivial⟩ hK
def p_cTyp_check_61 (x1 : Int32) (σ : jx_S) : Option jx_S := jx_loop 100000000 (fun s => p_cTyp_check_61_s s.1 (s.2)) (x1, σ)
theorem x_cTyp_check_61 (d : Nat) (hd : 6 ≤ d) (x1 : Int32) (σ : jx_S) (t : jx_S) (res : Option Value × jx_S) (h : p_cTyp_check_61 x1 σ = some t) (hK : kkV t res) : jE d 68 61 [(0, .ref 6), (1, .int x1)] [] σ res := by
  refine jx_loop_ok (E := fun s t => ∀ res, kkV t res → jE d 68 61 [(0, .ref 6), (1, .int s.1)] [] s.2 res) (fun s t hs => ?_) _ _ _ h res hK
  cases t with
  | inl s1 => exact fun b hb res hk => x_cTyp_check_61_s d hd (s.1) (s.2) _ res hs (hb res hk)
  | inr b => exact fun res hk => x_cTyp_check_61_s d hd (s.1) (s.2) _ res hs hk
def p_cTyp_check_37_s (x1 : Int32) (σ : jx_S) : Option ((Int32 × jx_S) ⊕ jx_S) := (if (σ.1 4 10) ≤ x1 then (Option.map Sum.inr (p_cTyp_check_61 (0 : Int32) σ)) else ((p_cTyp_checkBody x1 σ).bind fun q4 => (some (.inl ((x1 + 1), q4)))))
theorem x_cTyp_check_37_s (d : Nat) (hd : 6 ≤ d) (x1 : Int32) (σ : jx_S) (t : ((Int32 × jx_S) ⊕ jx_S)) (res : Option Value × jx_S) (h : p_cTyp_check_37_s x1 σ = some t) (hK : kk_cTyp_check_37 d t res) : jE d 68 37 [(0, .ref 6), (1, .int x1)] [] σ res := by
  unfold p_cTyp_check_37_s at h
  refine jE_blk (bs := [(.iload_n 1, 0, 0), (.aload_n 0, 0, 0), (.getfield 19, 6, 2), (.getfield 33, 4, 10)]) (i := .if_icmp .ge (14)) (a1 := 0) (a2 := 0) (pc1 := 45) (l1 := [(0, .ref 6), (1, .int x1)]) (st1 := [.int (σ.1 4 10), .int x1]) (σ1 := σ) (by decide +kernel) rfl (fun hC => ?_)
  rcases Classical.em ((σ.1 4 10) ≤ x1) with hc | hc
  · rw [if_pos hc] at h
    refine jE_icT 59 hC (by decide) hc ?_
    obtain ⟨t9_3, h9_3, h8_3⟩ := Option.map_eq_some_iff.mp h
    clear h
    subst h8_3
    have h := h9_3
    clear h9_3
    refine jE_blk (bs := [(.iconst (0), 0, 0), (.istore_n 1, 2, 0)]) (i := .iload_n 1) (a1 := 0) (a2 := 0) (pc1 := 61) (l1 := [(1, .int (0 : Int32)), (0, .ref 6)]) (st1 := []) (σ1 := σ) (by decide +kernel) rfl (fun hC => ?_)
    exact jE_loc (l := [(0, .ref 6), (1, .int (0 : Int32))]) (ks := [0, 1]) rfl (by decide) ⟨rfl, rfl, trivial⟩ (x_cTyp_check_61 d hd (0 : Int32) σ _ res h hK)
  · rw [if_neg hc] at h
    refine jE_icF 59 hC (by decide) hc ?_
    refine jE_blk (bs := [(.aload_n 0, 0, 0), (.iload_n 1, 0, 0)]) (i := .invokevirtual 43) (a1 := 70) (a2 := 0) (pc1 := 50) (l1 := [(0, .ref 6), (1, .int x1)]) (st1 := [.int x1, .ref 6]) (σ1 := σ) (by decide +kernel) rfl (fun hC => ?_)
    obtain ⟨q4, hq, h⟩ := Option.bind_eq_some_iff.mp h
    refine jE_call (as := [.ref 6, .int x1]) (pc1 := 53) (st1 := []) hC rfl (by decide) (by omega) (x_cTyp_checkBody (d - 1) (by omega) x1 σ q4 (none, q4) hq rfl) ?_
    refine jE_blk (bs := [(.iinc 1 (1), 2, 2), (.goto (-19), 0, 0)]) (i := .iload_n 1) (a1 := 0) (a2 := 0) (pc1 := 37) (l1 := [(1, .int (x1 + 1)), (0, .ref 6)]) (st1 := []) (σ1 := q4) (by decide +kernel) rfl (fun hC => ?_)
    have h9 := Option.some.inj h
    subst h9
    exact jE_loc (l := [(0, .ref 6), (1, .int (x1 + 1))]) (ks := [0, 1]) rfl (by decide) ⟨rfl, rfl, trivial⟩ hK
def p_cTyp_check_37 (x1 : Int32) (σ : jx_S) : Option jx_S := jx_loop 100000000 (fun s => p_cTyp_check_37_s s.1 (s.2)) (x1, σ)
theorem x_cTyp_check_37 (d : Nat) (hd : 6 ≤ d) (x1 : Int32) (σ : jx_S) (t : jx_S) (res : Option Value × jx_S) (h : p_cTyp_check_37 x1 σ = some t) (hK : kkV t res) : jE d 68 37 [(0, .ref 6), (1, .int x1)] [] σ res := by
  refine jx_loop_ok (E := fun s t => ∀ res, kkV t res → jE d 68 37 [(0, .ref 6), (1, .int s.1)] [] s.2 res) (fun s t hs => ?_) _ _ _ h res hK
  cases t with
  | inl s1 => exact fun b hb res hk => x_cTyp_check_37_s d hd (s.1) (s.2) _ res hs (hb res hk)
  | inr b => exact fun res hk => x_cTyp_check_37_s d hd (s.1) (s.2) _ res hs hk
def p_cTyp_check_13_s (x1 : Int32) (σ : jx_S) : Option ((Int32 × jx_S) ⊕ jx_S) := (if (σ.1 4 10) ≤ x1 then (Option.map Sum.inr (p_cTyp_check_37 (0 : Int32) σ)) else ((p_cTyp_checkNames x1 σ).bind fun q6 => (some (.inl ((x1 + 1), q6)))))
theorem x_cTyp_check_13_s (d : Nat) (hd : 6 ≤ d) (x1 : Int32) (σ : jx_S) (t : ((Int32 × jx_S) ⊕ jx_S)) (res : Option Value × jx_S) (h : p_cTyp_check_13_s x1 σ = some t) (hK : kk_cTyp_check_13 d t res) : jE d 68 13 [(0, .ref 6), (1, .int x1)] [] σ res := by
  unfold p_cTyp_check_13_s at h
  refine jE_blk (bs := [(.iload_n 1, 0, 0), (.aload_n 0, 0, 0), (.getfield 19, 6, 2), (.getfield 33, 4, 10)]) (i := .if_icmp .ge (14)) (a1 := 0) (a2 := 0) (pc1 := 21) (l1 := [(0, .ref 6), (1, .int x1)]) (st1 := [.int (σ.1 4 10), .int x1]) (σ1 := σ) (by decide +kernel) rfl (fun hC => ?_)
  rcases Classical.em ((σ.1 4 10) ≤ x1) with hc | hc
  · rw [if_pos hc] at h
    refine jE_icT 35 hC (by decide) hc ?_
    obtain ⟨t9_5, h9_5, h8_5⟩ := Option.map_eq_some_iff.mp h
    clear h
    subst h8_5
    have h := h9_5
    clear h9_5
    refine jE_blk (bs := [(.iconst (0), 0, 0), (.istore_n 1, 2, 0)]) (i := .iload_n 1) (a1 := 0) (a2 := 0) (pc1 := 37) (l1 := [(1, .int (0 : Int32)), (0, .ref 6)]) (st1 := []) (σ1 := σ) (by decide +kernel) rfl (fun hC => ?_)
    exact jE_loc (l := [(0, .ref 6), (1, .int (0 : Int32))]) (ks := [0, 1]) rfl (by decide) ⟨rfl, rfl, trivial⟩ (x_cTyp_check_37 d hd (0 : Int32) σ _ res h hK)
  · rw [if_neg hc] at h
    refine jE_icF 35 hC (by decide) hc ?_
    refine jE_blk (bs := [(.aload_n 0, 0, 0), (.iload_n 1, 0, 0)]) (i := .invokevirtual 39) (a1 := 69) (a2 := 0) (pc1 := 26) (l1 := [(0, .ref 6), (1, .int x1)]) (st1 := [.int x1, .ref 6]) (σ1 := σ) (by decide +kernel) rfl (fun hC => ?_)
    obtain ⟨q6, hq, h⟩ := Option.bind_eq_some_iff.mp h
    refine jE_call (as := [.ref 6, .int x1]) (pc1 := 29) (st1 := []) hC rfl (by decide) (by omega) (x_cTyp_checkNames (d - 1) (by omega) x1 σ q6 (none, q6) hq rfl) ?_
    refine jE_blk (bs := [(.iinc 1 (1), 2, 2), (.goto (-19), 0, 0)]) (i := .iload_n 1) (a1 := 0) (a2 := 0) (pc1 := 13) (l1 := [(1, .int (x1 + 1)), (0, .ref 6)]) (st1 := []) (σ1 := q6) (by decide +kernel) rfl (fun hC => ?_)
    have h9 := Option.some.inj h
    subst h9
    exact jE_loc (l := [(0, .ref 6), (1, .int (x1 + 1))]) (ks := [0, 1]) rfl (by decide) ⟨rfl, rfl, trivial⟩ hK
def p_cTyp_check_13 (x1 : Int32) (σ : jx_S) : Option jx_S := jx_loop 100000000 (fun s => p_cTyp_check_13_s s.1 (s.2)) (x1, σ)
theorem x_cTyp_check_13 (d : Nat) (hd : 6 ≤ d) (x1 : Int32) (σ : jx_S) (t : jx_S) (res : Option Value × jx_S) (h : p_cTyp_check_13 x1 σ = some t) (hK : kkV t res) : jE d 68 13 [(0, .ref 6), (1, .int x1)] [] σ res := by
  refine jx_loop_ok (E := fun s t => ∀ res, kkV t res → jE d 68 13 [(0, .ref 6), (1, .int s.1)] [] s.2 res) (fun s t hs => ?_) _ _ _ h res hK
  cases t with
  | inl s1 => exact fun b hb res hk => x_cTyp_check_13_s d hd (s.1) (s.2) _ res hs (hb res hk)
  | inr b => exact fun res hk => x_cTyp_check_13_s d hd (s.1) (s.2) _ res hs hk
def p_cTyp_check (σ : jx_S) : Option jx_S := (if (v_cFau_isTold σ) = 0 then (p_cTyp_check_13 (0 : Int32) σ) else (some (σ)))
theorem x_cTyp_check (d : Nat) (hd : 6 ≤ d) (σ : jx_S) (t : jx_S) (res : Option Value × jx_S) (h : p_cTyp_check σ = some t) (hK : kkV t res) : jE d 68 0 [(0, .ref 6)] [] σ res := by
  unfold p_cTyp_check at h
  refine jE_blk (bs := [(.aload_n 0, 0, 0), (.getfield 23, 6, 3)]) (i := .invokevirtual 27) (a1 := 17) (a2 := 0) (pc1 := 4) (l1 := [(0, .ref 6)]) (st1 := [.ref 1]) (σ1 := σ) (by decide +kernel) rfl (fun hC => ?_)
  refine jE_call (as := [.ref 1]) (pc1 := 7) (st1 := []) hC rfl (by decide) (by omega) (xv_cFau_isTold (d - 1) (by omega) σ) ?_
  refine jE_blk (bs := []) (i := .ifCond .eq (4)) (a1 := 0) (a2 := 0) (pc1 := 7) (l1 := [(0, .ref 6)]) (st1 := [.int (v_cFau_isTold σ)]) (σ1 := σ) (by decide +kernel) rfl (fun hC => ?_)
  rcases Classical.em ((v_cFau_isTold σ) = 0) with hc | hc
  · rw [if_pos hc] at h
    refine jE_ifT 11 hC (by decide) hc ?_
    refine jE_blk (bs := [(.iconst (0), 0, 0), (.istore_n 1, 2, 0)]) (i := .iload_n 1) (a1 := 0) (a2 := 0) (pc1 := 13) (l1 := [(1, .int (0 : Int32)), (0, .ref 6)]) (st1 := []) (σ1 := σ) (by decide +kernel) rfl (fun hC => ?_)
    exact jE_loc (l := [(0, .ref 6), (1, .int (0 : Int32))]) (ks := [0, 1]) rfl (by decide) ⟨rfl, rfl, trivial⟩ (x_cTyp_check_13 d hd (0 : Int32) σ _ res h hK)
  · rw [if_neg hc] at h
    refine jE_ifF 11 hC (by decide) hc ?_
    refine jE_blk (bs := []) (i := .return_) (a1 := 0) (a2 := 0) (pc1 := 10) (l1 := [(0, .ref 6)]) (st1 := []) (σ1 := σ) (by decide +kernel) rfl (fun hC => ?_)
    have h9 := Option.some.inj h
    subst h9
    have e9 : ((none, σ) : Option Value × jx_S) = res := hK
    subst e9
    exact jE_ret hC rfl
def kk_cAna_clear_7 (d : Nat) (t : ((Int32 × jx_S) ⊕ jx_S)) (res : Option Value × jx_S) : Prop := match t with
  | .inl s => jE d 89 7 [(0, .ref 7), (1, .int s.1)] [] s.2 res
  | .inr t => kkV t res
def kk_cAna_clear_29 (d : Nat) (t : ((Int32 × Int32 × jx_S) ⊕ ((Int32 × jx_S) ⊕ jx_S))) (res : Option Value × jx_S) : Prop := match t with
  | .inl s => jE d 89 29 [(0, .ref 7), (1, .int s.1), (2, .int s.2.1)] [] s.2.2 res
  | .inr t => kk_cAna_clear_7 d t res
def p_cAna_clear_29_s (x1 : Int32) (x2 : Int32) (σ : jx_S) : Option ((Int32 × Int32 × jx_S) ⊕ ((Int32 × jx_S) ⊕ jx_S)) := (if (jI_at 40 (σ.1 53) x1) ≤ x2 then (Option.map Sum.inr (some (.inl ((x1 + 1), σ)))) else (some (.inl (x1, (x2 + 1), (jI_put 40000 σ 63 ((x1 * (1000 : Int32)) + x2) (0 : Int32))))))
theorem x_cAna_clear_29_s (d : Nat) (hd : 1 ≤ d) (x1 : Int32) (x2 : Int32) (σ : jx_S) (t : ((Int32 × Int32 × jx_S) ⊕ ((Int32 × jx_S) ⊕ jx_S))) (res : Option Value × jx_S) (h : p_cAna_clear_29_s x1 x2 σ = some t) (hK : kk_cAna_clear_29 d t res) : jE d 89 29 [(0, .ref 7), (1, .int x1), (2, .int x2)] [] σ res := by
  unfold p_cAna_clear_29_s at h
  refine jE_blk (bs := [(.iload_n 2, 0, 0), (.aload_n 0, 0, 0), (.getfield 34, 7, 1), (.getfield 91, 4, 6), (.iload_n 1, 0, 0)]) (i := .invokevirtual 73) (a1 := 136) (a2 := 0) (pc1 := 38) (l1 := [(0, .ref 7), (1, .int x1), (2, .int x2)]) (st1 := [.int x1, .ref 52, .int x2]) (σ1 := σ) (by decide +kernel) rfl (fun hC => ?_)
  refine jE_call (as := [.ref 52, .int x1]) (pc1 := 41) (st1 := [.int x2]) hC rfl (by decide) (by omega) (xI_at (d - 1) 52 40 x1 σ (by decide) rfl rfl) ?_
  refine jE_blk (bs := []) (i := .if_icmp .ge (24)) (a1 := 0) (a2 := 0) (pc1 := 41) (l1 := [(0, .ref 7), (1, .int x1), (2, .int x2)]) (st1 := [.int (jI_at 40 (σ.1 53) x1), .int x2]) (σ1 := σ) (by decide +kernel) rfl (fun hC => ?_)
  rcases Classical.em ((jI_at 40 (σ.1 53) x1) ≤ x2) with hc | hc
  · rw [if_pos hc] at h
    refine jE_icT 65 hC (by decide) hc ?_
    obtain ⟨t9_2, h9_2, h8_2⟩ := Option.map_eq_some_iff.mp h
    clear h
    subst h8_2
    have h := h9_2
    clear h9_2
    refine jE_blk (bs := [(.iinc 1 (1), 3, 2), (.goto (-61), 0, 0)]) (i := .iload_n 1) (a1 := 0) (a2 := 0) (pc1 := 7) (l1 := [(1, .int (x1 + 1)), (0, .ref 7), (2, .int x2)]) (st1 := []) (σ1 := σ) (by decide +kernel) rfl (fun hC => ?_)
    have h9 := Option.some.inj h
    subst h9
    exact jE_loc (l := [(0, .ref 7), (1, .int (x1 + 1))]) (ks := [0, 1]) rfl (by decide) ⟨rfl, rfl, trivial⟩ hK
  · rw [if_neg hc] at h
    refine jE_icF 65 hC (by decide) hc ?_
    refine jE_blk (bs := [(.aload_n 0, 0, 0), (.getfield 15, 7, 2), (.iload_n 1, 0, 0), (.sipush (1000), 1000, 0), (.imul, 0, 0), (.iload_n 2, 0, 0), (.iadd, 0, 0), (.iconst (0), 0, 0)]) (i := .invokevirtual 63) (a1 := 137) (a2 := 0) (pc1 := 56) (l1 := [(0, .ref 7), (1, .int x1), (2, .int x2)]) (st1 := [.int (0 : Int32), .int ((x1 * (1000 : Int32)) + x2), .ref 62]) (σ1 := σ) (by decide +kernel) rfl (fun hC => ?_)
    refine jE_call (as := [.ref 62, .int ((x1 * (1000 : Int32)) + x2), .int (0 : Int32)]) (pc1 := 59) (st1 := []) hC rfl (by decide) (by omega) (xI_put (d - 1) 62 40000 ((x1 * (1000 : Int32)) + x2) (0 : Int32) σ (by decide) rfl rfl) ?_
    refine jE_blk (bs := [(.iinc 2 (1), 3, 2), (.goto (-33), 0, 0)]) (i := .iload_n 2) (a1 := 0) (a2 := 0) (pc1 := 29) (l1 := [(2, .int (x2 + 1)), (0, .ref 7), (1, .int x1)]) (st1 := []) (σ1 := (jI_put 40000 σ 63 ((x1 * (1000 : Int32)) + x2) (0 : Int32))) (by decide +kernel) rfl (fun hC => ?_)
    have h9 := Option.some.inj h
    subst h9
    exact jE_loc (l := [(0, .ref 7), (1, .int x1), (2, .int (x2 + 1))]) (ks := [0, 1, 2]) rfl (by decide) ⟨rfl, rfl, rfl, trivial⟩ hK
def p_cAna_clear_29 (x1 : Int32) (x2 : Int32) (σ : jx_S) : Option ((Int32 × jx_S) ⊕ jx_S) := jx_loop 100000000 (fun s => p_cAna_clear_29_s s.1 s.2.1 (s.2.2)) (x1, x2, σ)
theorem x_cAna_clear_29 (d : Nat) (hd : 1 ≤ d) (x1 : Int32) (x2 : Int32) (σ : jx_S) (t : ((Int32 × jx_S) ⊕ jx_S)) (res : Option Value × jx_S) (h : p_cAna_clear_29 x1 x2 σ = some t) (hK : kk_cAna_clear_7 d t res) : jE d 89 29 [(0, .ref 7), (1, .int x1), (2, .int x2)] [] σ res := by
  refine jx_loop_ok (E := fun s t => ∀ res, kk_cAna_clear_7 d t res → jE d 89 29 [(0, .ref 7), (1, .int s.1), (2, .int s.2.1)] [] s.2.2 res) (fun s t hs => ?_) _ _ _ h res hK
  cases t with
  | inl s1 => exact fun b hb res hk => x_cAna_clear_29_s d hd (s.1) (s.2.1) (s.2.2) _ res hs (hb res hk)
  | inr b => exact fun res hk => x_cAna_clear_29_s d hd (s.1) (s.2.1) (s.2.2) _ res hs hk
def p_cAna_clear_7_s (x1 : Int32) (σ : jx_S) : Option ((Int32 × jx_S) ⊕ jx_S) := (if (σ.1 4 10) ≤ x1 then (Option.map Sum.inr (some (σ))) else (p_cAna_clear_29 x1 (0 : Int32) (jI_put 40 σ 65 x1 (0 : Int32))))
theorem x_cAna_clear_7_s (d : Nat) (hd : 1 ≤ d) (x1 : Int32) (σ : jx_S) (t : ((Int32 × jx_S) ⊕ jx_S)) (res : Option Value × jx_S) (h : p_cAna_clear_7_s x1 σ = some t) (hK : kk_cAna_clear_7 d t res) : jE d 89 7 [(0, .ref 7), (1, .int x1)] [] σ res := by
  unfold p_cAna_clear_7_s at h
  refine jE_blk (bs := [(.iload_n 1, 0, 0), (.aload_n 0, 0, 0), (.getfield 34, 7, 1), (.getfield 51, 4, 10)]) (i := .if_icmp .ge (56)) (a1 := 0) (a2 := 0) (pc1 := 15) (l1 := [(0, .ref 7), (1, .int x1)]) (st1 := [.int (σ.1 4 10), .int x1]) (σ1 := σ) (by decide +kernel) rfl (fun hC => ?_)
  rcases Classical.em ((σ.1 4 10) ≤ x1) with hc | hc
  · rw [if_pos hc] at h
    refine jE_icT 71 hC (by decide) hc ?_
    obtain ⟨t9_1, h9_1, h8_1⟩ := Option.map_eq_some_iff.mp h
    clear h
    subst h8_1
    have h := h9_1
    clear h9_1
    refine jE_blk (bs := []) (i := .return_) (a1 := 0) (a2 := 0) (pc1 := 71) (l1 := [(0, .ref 7), (1, .int x1)]) (st1 := []) (σ1 := σ) (by decide +kernel) rfl (fun hC => ?_)
    have h9 := Option.some.inj h
    subst h9
    have e9 : ((none, σ) : Option Value × jx_S) = res := hK
    subst e9
    exact jE_ret hC rfl
  · rw [if_neg hc] at h
    refine jE_icF 71 hC (by decide) hc ?_
    refine jE_blk (bs := [(.aload_n 0, 0, 0), (.getfield 21, 7, 3), (.iload_n 1, 0, 0), (.iconst (0), 0, 0)]) (i := .invokevirtual 63) (a1 := 137) (a2 := 0) (pc1 := 24) (l1 := [(0, .ref 7), (1, .int x1)]) (st1 := [.int (0 : Int32), .int x1, .ref 64]) (σ1 := σ) (by decide +kernel) rfl (fun hC => ?_)
    refine jE_call (as := [.ref 64, .int x1, .int (0 : Int32)]) (pc1 := 27) (st1 := []) hC rfl (by decide) (by omega) (xI_put (d - 1) 64 40 x1 (0 : Int32) σ (by decide) rfl rfl) ?_
    refine jE_blk (bs := [(.iconst (0), 0, 0), (.istore_n 2, 3, 0)]) (i := .iload_n 2) (a1 := 0) (a2 := 0) (pc1 := 29) (l1 := [(2, .int (0 : Int32)), (0, .ref 7), (1, .int x1)]) (st1 := []) (σ1 := (jI_put 40 σ 65 x1 (0 : Int32))) (by decide +kernel) rfl (fun hC => ?_)
    exact jE_loc (l := [(0, .ref 7), (1, .int x1), (2, .int (0 : Int32))]) (ks := [0, 1, 2]) rfl (by decide) ⟨rfl, rfl, rfl, trivial⟩ (x_cAna_clear_29 d hd x1 (0 : Int32) (jI_put 40 σ 65 x1 (0 : Int32)) _ res h hK)
def p_cAna_clear_7 (x1 : Int32) (σ : jx_S) : Option jx_S := jx_loop 100000000 (fun s => p_cAna_clear_7_s s.1 (s.2)) (x1, σ)
theorem x_cAna_clear_7 (d : Nat) (hd : 1 ≤ d) (x1 : Int32) (σ : jx_S) (t : jx_S) (res : Option Value × jx_S) (h : p_cAna_clear_7 x1 σ = some t) (hK : kkV t res) : jE d 89 7 [(0, .ref 7), (1, .int x1)] [] σ res := by
  refine jx_loop_ok (E := fun s t => ∀ res, kkV t res → jE d 89 7 [(0, .ref 7), (1, .int s.1)] [] s.2 res) (fun s t hs => ?_) _ _ _ h res hK
  cases t with
  | inl s1 => exact fun b hb res hk => x_cAna_clear_7_s d hd (s.1) (s.2) _ res hs (hb res hk)
  | inr b => exact fun res hk => x_cAna_clear_7_s d hd (s.1) (s.2) _ res hs hk
def p_cAna_clear (σ : jx_S) : Option jx_S := (p_cAna_clear_7 (0 : Int32) (jx_i σ 7 6 (0 : Int32)))
theorem x_cAna_clear (d : Nat) (hd : 1 ≤ d) (σ : jx_S) (t : jx_S) (res : Option Value × jx_S) (h : p_cAna_clear σ = some t) (hK : kkV t res) : jE d 89 0 [(0, .ref 7)] [] σ res := by
  unfold p_cAna_clear at h
  refine jE_blk (bs := [(.aload_n 0, 0, 0), (.iconst (0), 0, 0), (.putfield 47, 7, 6), (.iconst (0), 0, 0), (.istore_n 1, 3, 0)]) (i := .iload_n 1) (a1 := 0) (a2 := 0) (pc1 := 7) (l1 := [(1, .int (0 : Int32)), (0, .ref 7)]) (st1 := []) (σ1 := (jx_i σ 7 6 (0 : Int32))) (by decide +kernel) rfl (fun hC => ?_)
  exact jE_loc (l := [(0, .ref 7), (1, .int (0 : Int32))]) (ks := [0, 1]) rfl (by decide) ⟨rfl, rfl, trivial⟩ (x_cAna_clear_7 d hd (0 : Int32) (jx_i σ 7 6 (0 : Int32)) _ res h hK)
def kk_cAna_mayChange_22 (d : Nat) (t : ((Int32 × Int32 × jx_S) ⊕ (Int32 × jx_S))) (res : Option Value × jx_S) : Prop := match t with
  | .inl s => jE d 90 22 [(0, .ref 7), (1, .int s.1), (2, .int s.2.1)] [] s.2.2 res
  | .inr t => kkI t res
def p_cAna_mayChange_82 (x1 : Int32) (x2 : Int32) (σ : jx_S) : Option ((Int32 × Int32 × jx_S) ⊕ (Int32 × jx_S)) := (some (.inl (x1, (x2 + 1), σ)))
theorem x_cAna_mayChange_82 (d : Nat) (hd : 1 ≤ d) (x1 : Int32) (x2 : Int32) (σ : jx_S) (t : ((Int32 × Int32 × jx_S) ⊕ (Int32 × jx_S))) (res : Option Value × jx_S) (h : p_cAna_mayChange_82 x1 x2 σ = some t) (hK : kk_cAna_mayChange_22 d t res) : jE d 90 82 [(0, .ref 7), (1, .int x1), (2, .int x2)] [] σ res := by
  unfold p_cAna_mayChange_82 at h
  refine jE_blk (bs := [(.iinc 2 (1), 3, 2), (.goto (-63), 0, 0)]) (i := .iload_n 2) (a1 := 0) (a2 := 0) (pc1 := 22) (l1 := [(2, .int (x2 + 1)), (0, .ref 7), (1, .int x1)]) (st1 := []) (σ1 := σ) (by decide +kernel) rfl (fun hC => ?_)
  have h9 := Option.some.inj h
  subst h9
  exact jE_loc (l := [(0, .ref 7), (1, .int x1), (2, .int (x2 + 1))]) (ks := [0, 1, 2]) rfl (by decide) ⟨rfl, rfl, rfl, trivial⟩ hK
def p_cAna_mayChange_22_s (x1 : Int32) (x2 : Int32) (σ : jx_S) : Option ((Int32 × Int32 × jx_S) ⊕ (Int32 × jx_S)) := (if (jI_at 40 (σ.1 51) x1) < x2 then (Option.map Sum.inr (some (((0 : Int32), σ)))) else (if ¬ (jI_at 1201 (σ.1 23) x2) = (29 : Int32) then (p_cAna_mayChange_82 x1 x2 σ) else (if (jI_at 40 (σ.1 65) (jI_at 1201 (σ.1 33) x2)) < ((σ.1 7 6) - (1 : Int32)) then (p_cAna_mayChange_82 x1 x2 σ) else (Option.map Sum.inr (some (((1 : Int32), σ)))))))
theorem x_cAna_mayChange_22_s (d : Nat) (hd : 1 ≤ d) (x1 : Int32) (x2 : Int32) (σ : jx_S) (t : ((Int32 × Int32 × jx_S) ⊕ (Int32 × jx_S))) (res : Option Value × jx_S) (h : p_cAna_mayChange_22_s x1 x2 σ = some t) (hK : kk_cAna_mayChange_22 d t res) : jE d 90 22 [(0, .ref 7), (1, .int x1), (2, .int x2)] [] σ res := by
  unfold p_cAna_mayChange_22_s at h
  refine jE_blk (bs := [(.iload_n 2, 0, 0), (.aload_n 0, 0, 0), (.getfield 34, 7, 1), (.getfield 80, 4, 5), (.iload_n 1, 0, 0)]) (i := .invokevirtual 73) (a1 := 136) (a2 := 0) (pc1 := 31) (l1 := [(0, .ref 7), (1, .int x1), (2, .int x2)]) (st1 := [.int x1, .ref 50, .int x2]) (σ1 := σ) (by decide +kernel) rfl (fun hC => ?_)
  refine jE_call (as := [.ref 50, .int x1]) (pc1 := 34) (st1 := [.int x2]) hC rfl (by decide) (by omega) (xI_at (d - 1) 50 40 x1 σ (by decide) rfl rfl) ?_
  refine jE_blk (bs := []) (i := .if_icmp .gt (54)) (a1 := 0) (a2 := 0) (pc1 := 34) (l1 := [(0, .ref 7), (1, .int x1), (2, .int x2)]) (st1 := [.int (jI_at 40 (σ.1 51) x1), .int x2]) (σ1 := σ) (by decide +kernel) rfl (fun hC => ?_)
  rcases Classical.em ((jI_at 40 (σ.1 51) x1) < x2) with hc | hc
  · rw [if_pos hc] at h
    refine jE_icT 88 hC (by decide) hc ?_
    obtain ⟨t9_1, h9_1, h8_1⟩ := Option.map_eq_some_iff.mp h
    clear h
    subst h8_1
    have h := h9_1
    clear h9_1
    refine jE_blk (bs := [(.iconst (0), 0, 0)]) (i := .ireturn) (a1 := 1) (a2 := 0) (pc1 := 89) (l1 := [(0, .ref 7), (1, .int x1), (2, .int x2)]) (st1 := [.int (0 : Int32)]) (σ1 := σ) (by decide +kernel) rfl (fun hC => ?_)
    have h9 := Option.some.inj h
    subst h9
    have e9 : ((some (.int (0 : Int32)), σ) : Option Value × jx_S) = res := hK
    subst e9
    exact jE_ret hC rfl
  · rw [if_neg hc] at h
    refine jE_icF 88 hC (by decide) hc ?_
    refine jE_blk (bs := [(.aload_n 0, 0, 0), (.getfield 30, 7, 0), (.getfield 83, 3, 0), (.iload_n 2, 0, 0)]) (i := .invokevirtual 73) (a1 := 136) (a2 := 0) (pc1 := 45) (l1 := [(0, .ref 7), (1, .int x1), (2, .int x2)]) (st1 := [.int x2, .ref 22]) (σ1 := σ) (by decide +kernel) rfl (fun hC => ?_)
    refine jE_call (as := [.ref 22, .int x2]) (pc1 := 48) (st1 := []) hC rfl (by decide) (by omega) (xI_at (d - 1) 22 1201 x2 σ (by decide) rfl rfl) ?_
    refine jE_blk (bs := [(.bipush (29), 29, 0)]) (i := .if_icmp .ne (32)) (a1 := 0) (a2 := 0) (pc1 := 50) (l1 := [(0, .ref 7), (1, .int x1), (2, .int x2)]) (st1 := [.int (29 : Int32), .int (jI_at 1201 (σ.1 23) x2)]) (σ1 := σ) (by decide +kernel) rfl (fun hC => ?_)
    rcases Classical.em (¬ (jI_at 1201 (σ.1 23) x2) = (29 : Int32)) with hc | hc
    · rw [if_pos hc] at h
      refine jE_icT 82 hC (by decide) hc ?_
      exact jE_loc (l := [(0, .ref 7), (1, .int x1), (2, .int x2)]) (ks := [0, 1, 2]) rfl (by decide) ⟨rfl, rfl, rfl, trivial⟩ (x_cAna_mayChange_82 d hd x1 x2 σ _ res h hK)
    · rw [if_neg hc] at h
      refine jE_icF 82 hC (by decide) hc ?_
      refine jE_blk (bs := [(.aload_n 0, 0, 0), (.getfield 21, 7, 3), (.aload_n 0, 0, 0), (.getfield 30, 7, 0), (.getfield 94, 3, 5), (.iload_n 2, 0, 0)]) (i := .invokevirtual 73) (a1 := 136) (a2 := 0) (pc1 := 65) (l1 := [(0, .ref 7), (1, .int x1), (2, .int x2)]) (st1 := [.int x2, .ref 32, .ref 64]) (σ1 := σ) (by decide +kernel) rfl (fun hC => ?_)
      refine jE_call (as := [.ref 32, .int x2]) (pc1 := 68) (st1 := [.ref 64]) hC rfl (by decide) (by omega) (xI_at (d - 1) 32 1201 x2 σ (by decide) rfl rfl) ?_
      refine jE_blk (bs := []) (i := .invokevirtual 73) (a1 := 136) (a2 := 0) (pc1 := 68) (l1 := [(0, .ref 7), (1, .int x1), (2, .int x2)]) (st1 := [.int (jI_at 1201 (σ.1 33) x2), .ref 64]) (σ1 := σ) (by decide +kernel) rfl (fun hC => ?_)
      refine jE_call (as := [.ref 64, .int (jI_at 1201 (σ.1 33) x2)]) (pc1 := 71) (st1 := []) hC rfl (by decide) (by omega) (xI_at (d - 1) 64 40 (jI_at 1201 (σ.1 33) x2) σ (by decide) rfl rfl) ?_
      refine jE_blk (bs := [(.aload_n 0, 0, 0), (.getfield 47, 7, 6), (.iconst (1), 1, 0), (.isub, 0, 0)]) (i := .if_icmp .lt (5)) (a1 := 0) (a2 := 0) (pc1 := 77) (l1 := [(0, .ref 7), (1, .int x1), (2, .int x2)]) (st1 := [.int ((σ.1 7 6) - (1 : Int32)), .int (jI_at 40 (σ.1 65) (jI_at 1201 (σ.1 33) x2))]) (σ1 := σ) (by decide +kernel) rfl (fun hC => ?_)
      rcases Classical.em ((jI_at 40 (σ.1 65) (jI_at 1201 (σ.1 33) x2)) < ((σ.1 7 6) - (1 : Int32))) with hc | hc
      · rw [if_pos hc] at h
        refine jE_icT 82 hC (by decide) hc ?_
        exact jE_loc (l := [(0, .ref 7), (1, .int x1), (2, .int x2)]) (ks := [0, 1, 2]) rfl (by decide) ⟨rfl, rfl, rfl, trivial⟩ (x_cAna_mayChange_82 d hd x1 x2 σ _ res h hK)
      · rw [if_neg hc] at h
        refine jE_icF 82 hC (by decide) hc ?_
        obtain ⟨t9_2, h9_2, h8_2⟩ := Option.map_eq_some_iff.mp h
        clear h
        subst h8_2
        have h := h9_2
        clear h9_2
        refine jE_blk (bs := [(.iconst (1), 1, 0)]) (i := .ireturn) (a1 := 1) (a2 := 0) (pc1 := 81) (l1 := [(0, .ref 7), (1, .int x1), (2, .int x2)]) (st1 := [.int (1 : Int32)]) (σ1 := σ) (by decide +kernel) rfl (fun hC => ?_)
        have h9 := Option.some.inj h
        subst h9
        have e9 : ((some (.int (1 : Int32)), σ) : Option Value × jx_S) = res := hK
        subst e9
        exact jE_ret hC rfl
def p_cAna_mayChange_22 (x1 : Int32) (x2 : Int32) (σ : jx_S) : Option (Int32 × jx_S) := jx_loop 100000000 (fun s => p_cAna_mayChange_22_s s.1 s.2.1 (s.2.2)) (x1, x2, σ)
theorem x_cAna_mayChange_22 (d : Nat) (hd : 1 ≤ d) (x1 : Int32) (x2 : Int32) (σ : jx_S) (t : (Int32 × jx_S)) (res : Option Value × jx_S) (h : p_cAna_mayChange_22 x1 x2 σ = some t) (hK : kkI t res) : jE d 90 22 [(0, .ref 7), (1, .int x1), (2, .int x2)] [] σ res := by
  refine jx_loop_ok (E := fun s t => ∀ res, kkI t res → jE d 90 22 [(0, .ref 7), (1, .int s.1), (2, .int s.2.1)] [] s.2.2 res) (fun s t hs => ?_) _ _ _ h res hK
  cases t with
  | inl s1 => exact fun b hb res hk => x_cAna_mayChange_22_s d hd (s.1) (s.2.1) (s.2.2) _ res hs (hb res hk)
  | inr b => exact fun res hk => x_cAna_mayChange_22_s d hd (s.1) (s.2.1) (s.2.2) _ res hs hk
def p_cAna_mayChange (x1 : Int32) (σ : jx_S) : Option (Int32 × jx_S) := (if ¬ (σ.1 7 6) = (1 : Int32) then (p_cAna_mayChange_22 x1 (jI_at 40 (σ.1 49) x1) σ) else (some (((1 : Int32), σ))))
theorem x_cAna_mayChange (d : Nat) (hd : 1 ≤ d) (x1 : Int32) (σ : jx_S) (t : (Int32 × jx_S)) (res : Option Value × jx_S) (h : p_cAna_mayChange x1 σ = some t) (hK : kkI t res) : jE d 90 0 [(0, .ref 7), (1, .int x1)] [] σ res := by
  unfold p_cAna_mayChange at h
  refine jE_blk (bs := [(.aload_n 0, 0, 0), (.getfield 47, 7, 6), (.iconst (1), 1, 0)]) (i := .if_icmp .ne (5)) (a1 := 0) (a2 := 0) (pc1 := 5) (l1 := [(0, .ref 7), (1, .int x1)]) (st1 := [.int (1 : Int32), .int (σ.1 7 6)]) (σ1 := σ) (by decide +kernel) rfl (fun hC => ?_)
  rcases Classical.em (¬ (σ.1 7 6) = (1 : Int32)) with hc | hc
  · rw [if_pos hc] at h
    refine jE_icT 10 hC (by decide) hc ?_
    refine jE_blk (bs := [(.aload_n 0, 0, 0), (.getfield 34, 7, 1), (.getfield 77, 4, 4), (.iload_n 1, 0, 0)]) (i := .invokevirtual 73) (a1 := 136) (a2 := 0) (pc1 := 18) (l1 := [(0, .ref 7), (1, .int x1)]) (st1 := [.int x1, .ref 48]) (σ1 := σ) (by decide +kernel) rfl (fun hC => ?_)
    refine jE_call (as := [.ref 48, .int x1]) (pc1 := 21) (st1 := []) hC rfl (by decide) (by omega) (xI_at (d - 1) 48 40 x1 σ (by decide) rfl rfl) ?_
    refine jE_blk (bs := [(.istore_n 2, 3, 0)]) (i := .iload_n 2) (a1 := 0) (a2 := 0) (pc1 := 22) (l1 := [(2, .int (jI_at 40 (σ.1 49) x1)), (0, .ref 7), (1, .int x1)]) (st1 := []) (σ1 := σ) (by decide +kernel) rfl (fun hC => ?_)
    exact jE_loc (l := [(0, .ref 7), (1, .int x1), (2, .int (jI_at 40 (σ.1 49) x1))]) (ks := [0, 1, 2]) rfl (by decide) ⟨rfl, rfl, rfl, trivial⟩ (x_cAna_mayChange_22 d hd x1 (jI_at 40 (σ.1 49) x1) σ _ res h hK)
  · rw [if_neg hc] at h
    refine jE_icF 10 hC (by decide) hc ?_
    refine jE_blk (bs := [(.iconst (1), 1, 0)]) (i := .ireturn) (a1 := 1) (a2 := 0) (pc1 := 9) (l1 := [(0, .ref 7), (1, .int x1)]) (st1 := [.int (1 : Int32)]) (σ1 := σ) (by decide +kernel) rfl (fun hC => ?_)
    have h9 := Option.some.inj h
    subst h9
    have e9 : ((some (.int (1 : Int32)), σ) : Option Value × jx_S) = res := hK
    subst e9
    exact jE_ret hC rfl
def kk_cAna_bindGreatest_2 (d : Nat) (t : ((Int32 × Int32 × jx_S) ⊕ jx_S)) (res : Option Value × jx_S) : Prop := match t with
  | .inl s => jE d 93 2 [(0, .ref 7), (1, .int s.1), (2, .int s.2.1)] [] s.2.2 res
  | .inr t => kkV t res
def p_cAna_bindGreatest_2_s (x1 : Int32) (x2 : Int32) (σ : jx_S) : Option ((Int32 × Int32 × jx_S) ⊕ jx_S) := (if (jI_at 40 (σ.1 47) x1) ≤ x2 then (Option.map Sum.inr (some (σ))) else (some (.inl (x1, (x2 + 1), (jI_put 30 σ 69 x2 ((v_cTyp_pointsOf (v_cFun_typeOf x1 x2 σ) σ) - (1 : Int32)))))))
theorem x_cAna_bindGreatest_2_s (d : Nat) (hd : 2 ≤ d) (x1 : Int32) (x2 : Int32) (σ : jx_S) (t : ((Int32 × Int32 × jx_S) ⊕ jx_S)) (res : Option Value × jx_S) (h : p_cAna_bindGreatest_2_s x1 x2 σ = some t) (hK : kk_cAna_bindGreatest_2 d t res) : jE d 93 2 [(0, .ref 7), (1, .int x1), (2, .int x2)] [] σ res := by
  unfold p_cAna_bindGreatest_2_s at h
  refine jE_blk (bs := [(.iload_n 2, 0, 0), (.aload_n 0, 0, 0), (.getfield 34, 7, 1), (.getfield 124, 4, 3), (.iload_n 1, 0, 0)]) (i := .invokevirtual 73) (a1 := 136) (a2 := 0) (pc1 := 11) (l1 := [(0, .ref 7), (1, .int x1), (2, .int x2)]) (st1 := [.int x1, .ref 46, .int x2]) (σ1 := σ) (by decide +kernel) rfl (fun hC => ?_)
  refine jE_call (as := [.ref 46, .int x1]) (pc1 := 14) (st1 := [.int x2]) hC rfl (by decide) (by omega) (xI_at (d - 1) 46 40 x1 σ (by decide) rfl rfl) ?_
  refine jE_blk (bs := []) (i := .if_icmp .ge (31)) (a1 := 0) (a2 := 0) (pc1 := 14) (l1 := [(0, .ref 7), (1, .int x1), (2, .int x2)]) (st1 := [.int (jI_at 40 (σ.1 47) x1), .int x2]) (σ1 := σ) (by decide +kernel) rfl (fun hC => ?_)
  rcases Classical.em ((jI_at 40 (σ.1 47) x1) ≤ x2) with hc | hc
  · rw [if_pos hc] at h
    refine jE_icT 45 hC (by decide) hc ?_
    obtain ⟨t9_1, h9_1, h8_1⟩ := Option.map_eq_some_iff.mp h
    clear h
    subst h8_1
    have h := h9_1
    clear h9_1
    refine jE_blk (bs := []) (i := .return_) (a1 := 0) (a2 := 0) (pc1 := 45) (l1 := [(0, .ref 7), (1, .int x1), (2, .int x2)]) (st1 := []) (σ1 := σ) (by decide +kernel) rfl (fun hC => ?_)
    have h9 := Option.some.inj h
    subst h9
    have e9 : ((none, σ) : Option Value × jx_S) = res := hK
    subst e9
    exact jE_ret hC rfl
  · rw [if_neg hc] at h
    refine jE_icF 45 hC (by decide) hc ?_
    refine jE_blk (bs := [(.aload_n 0, 0, 0), (.getfield 27, 7, 5), (.iload_n 2, 0, 0), (.aload_n 0, 0, 0), (.getfield 34, 7, 1), (.iload_n 1, 0, 0), (.iload_n 2, 0, 0)]) (i := .invokevirtual 110) (a1 := 40) (a2 := 0) (pc1 := 28) (l1 := [(0, .ref 7), (1, .int x1), (2, .int x2)]) (st1 := [.int x2, .int x1, .ref 4, .int x2, .ref 68]) (σ1 := σ) (by decide +kernel) rfl (fun hC => ?_)
    refine jE_call (as := [.ref 4, .int x1, .int x2]) (pc1 := 31) (st1 := [.int x2, .ref 68]) hC rfl (by decide) (by omega) (xv_cFun_typeOf (d - 1) (by omega) x1 x2 σ) ?_
    refine jE_blk (bs := []) (i := .invokestatic 114) (a1 := 83) (a2 := 0) (pc1 := 31) (l1 := [(0, .ref 7), (1, .int x1), (2, .int x2)]) (st1 := [.int (v_cFun_typeOf x1 x2 σ), .int x2, .ref 68]) (σ1 := σ) (by decide +kernel) rfl (fun hC => ?_)
    refine jE_call (as := [.int (v_cFun_typeOf x1 x2 σ)]) (pc1 := 34) (st1 := [.int x2, .ref 68]) hC rfl (by decide) (by omega) (xv_cTyp_pointsOf (d - 1) (by omega) (v_cFun_typeOf x1 x2 σ) σ) ?_
    refine jE_blk (bs := [(.iconst (1), 1, 0), (.isub, 0, 0)]) (i := .invokevirtual 63) (a1 := 137) (a2 := 0) (pc1 := 36) (l1 := [(0, .ref 7), (1, .int x1), (2, .int x2)]) (st1 := [.int ((v_cTyp_pointsOf (v_cFun_typeOf x1 x2 σ) σ) - (1 : Int32)), .int x2, .ref 68]) (σ1 := σ) (by decide +kernel) rfl (fun hC => ?_)
    refine jE_call (as := [.ref 68, .int x2, .int ((v_cTyp_pointsOf (v_cFun_typeOf x1 x2 σ) σ) - (1 : Int32))]) (pc1 := 39) (st1 := []) hC rfl (by decide) (by omega) (xI_put (d - 1) 68 30 x2 ((v_cTyp_pointsOf (v_cFun_typeOf x1 x2 σ) σ) - (1 : Int32)) σ (by decide) rfl rfl) ?_
    refine jE_blk (bs := [(.iinc 2 (1), 3, 2), (.goto (-40), 0, 0)]) (i := .iload_n 2) (a1 := 0) (a2 := 0) (pc1 := 2) (l1 := [(2, .int (x2 + 1)), (0, .ref 7), (1, .int x1)]) (st1 := []) (σ1 := (jI_put 30 σ 69 x2 ((v_cTyp_pointsOf (v_cFun_typeOf x1 x2 σ) σ) - (1 : Int32)))) (by decide +kernel) rfl (fun hC => ?_)
    have h9 := Option.some.inj h
    subst h9
    exact jE_loc (l := [(0, .ref 7), (1, .int x1), (2, .int (x2 + 1))]) (ks := [0, 1, 2]) rfl (by decide) ⟨rfl, rfl, rfl, trivial⟩ hK
def p_cAna_bindGreatest_2 (x1 : Int32) (x2 : Int32) (σ : jx_S) : Option jx_S := jx_loop 100000000 (fun s => p_cAna_bindGreatest_2_s s.1 s.2.1 (s.2.2)) (x1, x2, σ)
theorem x_cAna_bindGreatest_2 (d : Nat) (hd : 2 ≤ d) (x1 : Int32) (x2 : Int32) (σ : jx_S) (t : jx_S) (res : Option Value × jx_S) (h : p_cAna_bindGreatest_2 x1 x2 σ = some t) (hK : kkV t res) : jE d 93 2 [(0, .ref 7), (1, .int x1), (2, .int x2)] [] σ res := by
  refine jx_loop_ok (E := fun s t => ∀ res, kkV t res → jE d 93 2 [(0, .ref 7), (1, .int s.1), (2, .int s.2.1)] [] s.2.2 res) (fun s t hs => ?_) _ _ _ h res hK
  cases t with
  | inl s1 => exact fun b hb res hk => x_cAna_bindGreatest_2_s d hd (s.1) (s.2.1) (s.2.2) _ res hs (hb res hk)
  | inr b => exact fun res hk => x_cAna_bindGreatest_2_s d hd (s.1) (s.2.1) (s.2.2) _ res hs hk
def p_cAna_bindGreatest (x1 : Int32) (σ : jx_S) : Option jx_S := (p_cAna_bindGreatest_2 x1 (0 : Int32) σ)
theorem x_cAna_bindGreatest (d : Nat) (hd : 2 ≤ d) (x1 : Int32) (σ : jx_S) (t : jx_S) (res : Option Value × jx_S) (h : p_cAna_bindGreatest x1 σ = some t) (hK : kkV t res) : jE d 93 0 [(0, .ref 7), (1, .int x1)] [] σ res := by
  unfold p_cAna_bindGreatest at h
  refine jE_blk (bs := [(.iconst (0), 0, 0), (.istore_n 2, 3, 0)]) (i := .iload_n 2) (a1 := 0) (a2 := 0) (pc1 := 2) (l1 := [(2, .int (0 : Int32)), (0, .ref 7), (1, .int x1)]) (st1 := []) (σ1 := σ) (by decide +kernel) rfl (fun hC => ?_)
  exact jE_loc (l := [(0, .ref 7), (1, .int x1), (2, .int (0 : Int32))]) (ks := [0, 1, 2]) rfl (by decide) ⟨rfl, rfl, rfl, trivial⟩ (x_cAna_bindGreatest_2 d hd x1 (0 : Int32) σ _ res h hK)
def kk_cAna_bindCase_22 (d : Nat) (t : ((Int32 × Int32 × Int32 × jx_S) ⊕ jx_S)) (res : Option Value × jx_S) : Prop := match t with
  | .inl s => jE d 92 22 [(0, .ref 7), (1, .int s.1), (3, .int s.2.1), (4, .int s.2.2.1)] [] s.2.2.2 res
  | .inr t => kkV t res
def p_cAna_bindCase_22_s (x1 : Int32) (x3 : Int32) (x4 : Int32) (σ : jx_S) : Option ((Int32 × Int32 × Int32 × jx_S) ⊕ jx_S) := (if x4 < 0 then (Option.map Sum.inr (some (σ))) else (if (if (1 : Int32) < (v_cTyp_pointsOf (v_cFun_typeOf x1 x4 σ) σ) then (v_cTyp_pointsOf (v_cFun_typeOf x1 x4 σ) σ) else (1 : Int32)) = 0 then none else (if (if (1 : Int32) < (v_cTyp_pointsOf (v_cFun_typeOf x1 x4 σ) σ) then (v_cTyp_pointsOf (v_cFun_typeOf x1 x4 σ) σ) else (1 : Int32)) = 0 then none else (some (.inl (x1, (x3 / (if (1 : Int32) < (v_cTyp_pointsOf (v_cFun_typeOf x1 x4 σ) σ) then (v_cTyp_pointsOf (v_cFun_typeOf x1 x4 σ) σ) else (1 : Int32))), (x4 + (-1)), (jI_put 30 σ 69 x4 (x3 - x3 / (if (1 : Int32) < (v_cTyp_pointsOf (v_cFun_typeOf x1 x4 σ) σ) then (v_cTyp_pointsOf (v_cFun_typeOf x1 x4 σ) σ) else (1 : Int32)) * (if (1 : Int32) < (v_cTyp_pointsOf (v_cFun_typeOf x1 x4 σ) σ) then (v_cTyp_pointsOf (v_cFun_typeOf x1 x4 σ) σ) else (1 : Int32))))))))))
theorem x_cAna_bindCase_22_s (d : Nat) (hd : 3 ≤ d) (x1 : Int32) (x3 : Int32) (x4 : Int32) (σ : jx_S) (t : ((Int32 × Int32 × Int32 × jx_S) ⊕ jx_S)) (res : Option Value × jx_S) (h : p_cAna_bindCase_22_s x1 x3 x4 σ = some t) (hK : kk_cAna_bindCase_22 d t res) : jE d 92 22 [(0, .ref 7), (1, .int x1), (3, .int x3), (4, .int x4)] [] σ res := by
  unfold p_cAna_bindCase_22_s at h
  refine jE_blk (bs := [(.iload 4, 0, 0)]) (i := .ifCond .lt (46)) (a1 := 0) (a2 := 0) (pc1 := 24) (l1 := [(0, .ref 7), (1, .int x1), (3, .int x3), (4, .int x4)]) (st1 := [.int x4]) (σ1 := σ) (by decide +kernel) rfl (fun hC => ?_)
  rcases Classical.em (x4 < 0) with hc | hc
  · rw [if_pos hc] at h
    refine jE_ifT 70 hC (by decide) hc ?_
    obtain ⟨t9_2, h9_2, h8_2⟩ := Option.map_eq_some_iff.mp h
    clear h
    subst h8_2
    have h := h9_2
    clear h9_2
    refine jE_blk (bs := []) (i := .return_) (a1 := 0) (a2 := 0) (pc1 := 70) (l1 := [(0, .ref 7), (1, .int x1), (3, .int x3), (4, .int x4)]) (st1 := []) (σ1 := σ) (by decide +kernel) rfl (fun hC => ?_)
    have h9 := Option.some.inj h
    subst h9
    have e9 : ((none, σ) : Option Value × jx_S) = res := hK
    subst e9
    exact jE_ret hC rfl
  · rw [if_neg hc] at h
    refine jE_ifF 70 hC (by decide) hc ?_
    refine jE_blk (bs := [(.iconst (1), 1, 0), (.aload_n 0, 0, 0), (.getfield 34, 7, 1), (.iload_n 1, 0, 0), (.iload 4, 0, 0)]) (i := .invokevirtual 110) (a1 := 40) (a2 := 0) (pc1 := 35) (l1 := [(0, .ref 7), (1, .int x1), (3, .int x3), (4, .int x4)]) (st1 := [.int x4, .int x1, .ref 4, .int (1 : Int32)]) (σ1 := σ) (by decide +kernel) rfl (fun hC => ?_)
    refine jE_call (as := [.ref 4, .int x1, .int x4]) (pc1 := 38) (st1 := [.int (1 : Int32)]) hC rfl (by decide) (by omega) (xv_cFun_typeOf (d - 1) (by omega) x1 x4 σ) ?_
    refine jE_blk (bs := []) (i := .invokestatic 114) (a1 := 83) (a2 := 0) (pc1 := 38) (l1 := [(0, .ref 7), (1, .int x1), (3, .int x3), (4, .int x4)]) (st1 := [.int (v_cFun_typeOf x1 x4 σ), .int (1 : Int32)]) (σ1 := σ) (by decide +kernel) rfl (fun hC => ?_)
    refine jE_call (as := [.int (v_cFun_typeOf x1 x4 σ)]) (pc1 := 41) (st1 := [.int (1 : Int32)]) hC rfl (by decide) (by omega) (xv_cTyp_pointsOf (d - 1) (by omega) (v_cFun_typeOf x1 x4 σ) σ) ?_
    refine jE_blk (bs := []) (i := .invokestatic 119) (a1 := 10000) (a2 := 0) (pc1 := 41) (l1 := [(0, .ref 7), (1, .int x1), (3, .int x3), (4, .int x4)]) (st1 := [.int (v_cTyp_pointsOf (v_cFun_typeOf x1 x4 σ) σ), .int (1 : Int32)]) (σ1 := σ) (by decide +kernel) rfl (fun hC => ?_)
    refine jE_prim (as := [.int (1 : Int32), .int (v_cTyp_pointsOf (v_cFun_typeOf x1 x4 σ) σ)]) (pc1 := 44) (st1 := []) (v := .int (if (1 : Int32) < (v_cTyp_pointsOf (v_cFun_typeOf x1 x4 σ) σ) then (v_cTyp_pointsOf (v_cFun_typeOf x1 x4 σ) σ) else (1 : Int32))) hC rfl rfl (by omega) ?_
    refine jE_blk (bs := [(.istore 5, 6, 0), (.aload_n 0, 0, 0), (.getfield 27, 7, 5), (.iload 4, 0, 0), (.iload_n 3, 0, 0), (.iload 5, 0, 0)]) (i := .irem) (a1 := 0) (a2 := 0) (pc1 := 55) (l1 := [(5, .int (if (1 : Int32) < (v_cTyp_pointsOf (v_cFun_typeOf x1 x4 σ) σ) then (v_cTyp_pointsOf (v_cFun_typeOf x1 x4 σ) σ) else (1 : Int32))), (0, .ref 7), (1, .int x1), (3, .int x3), (4, .int x4)]) (st1 := [.int (if (1 : Int32) < (v_cTyp_pointsOf (v_cFun_typeOf x1 x4 σ) σ) then (v_cTyp_pointsOf (v_cFun_typeOf x1 x4 σ) σ) else (1 : Int32)), .int x3, .int x4, .ref 68]) (σ1 := σ) (by decide +kernel) rfl (fun hC => ?_)
    obtain ⟨hi, h⟩ := jx_ite0_inv h
    refine jE_irem hC hi ?_
    refine jE_blk (bs := []) (i := .invokevirtual 63) (a1 := 137) (a2 := 0) (pc1 := 56) (l1 := [(5, .int (if (1 : Int32) < (v_cTyp_pointsOf (v_cFun_typeOf x1 x4 σ) σ) then (v_cTyp_pointsOf (v_cFun_typeOf x1 x4 σ) σ) else (1 : Int32))), (0, .ref 7), (1, .int x1), (3, .int x3), (4, .int x4)]) (st1 := [.int (x3 - x3 / (if (1 : Int32) < (v_cTyp_pointsOf (v_cFun_typeOf x1 x4 σ) σ) then (v_cTyp_pointsOf (v_cFun_typeOf x1 x4 σ) σ) else (1 : Int32)) * (if (1 : Int32) < (v_cTyp_pointsOf (v_cFun_typeOf x1 x4 σ) σ) then (v_cTyp_pointsOf (v_cFun_typeOf x1 x4 σ) σ) else (1 : Int32))), .int x4, .ref 68]) (σ1 := σ) (by decide +kernel) rfl (fun hC => ?_)
    refine jE_call (as := [.ref 68, .int x4, .int (x3 - x3 / (if (1 : Int32) < (v_cTyp_pointsOf (v_cFun_typeOf x1 x4 σ) σ) then (v_cTyp_pointsOf (v_cFun_typeOf x1 x4 σ) σ) else (1 : Int32)) * (if (1 : Int32) < (v_cTyp_pointsOf (v_cFun_typeOf x1 x4 σ) σ) then (v_cTyp_pointsOf (v_cFun_typeOf x1 x4 σ) σ) else (1 : Int32)))]) (pc1 := 59) (st1 := []) hC rfl (by decide) (by omega) (xI_put (d - 1) 68 30 x4 (x3 - x3 / (if (1 : Int32) < (v_cTyp_pointsOf (v_cFun_typeOf x1 x4 σ) σ) then (v_cTyp_pointsOf (v_cFun_typeOf x1 x4 σ) σ) else (1 : Int32)) * (if (1 : Int32) < (v_cTyp_pointsOf (v_cFun_typeOf x1 x4 σ) σ) then (v_cTyp_pointsOf (v_cFun_typeOf x1 x4 σ) σ) else (1 : Int32))) σ (by decide) rfl rfl) ?_
    refine jE_blk (bs := [(.iload_n 3, 0, 0), (.iload 5, 0, 0)]) (i := .idiv) (a1 := 0) (a2 := 0) (pc1 := 62) (l1 := [(5, .int (if (1 : Int32) < (v_cTyp_pointsOf (v_cFun_typeOf x1 x4 σ) σ) then (v_cTyp_pointsOf (v_cFun_typeOf x1 x4 σ) σ) else (1 : Int32))), (0, .ref 7), (1, .int x1), (3, .int x3), (4, .int x4)]) (st1 := [.int (if (1 : Int32) < (v_cTyp_pointsOf (v_cFun_typeOf x1 x4 σ) σ) then (v_cTyp_pointsOf (v_cFun_typeOf x1 x4 σ) σ) else (1 : Int32)), .int x3]) (σ1 := (jI_put 30 σ 69 x4 (x3 - x3 / (if (1 : Int32) < (v_cTyp_pointsOf (v_cFun_typeOf x1 x4 σ) σ) then (v_cTyp_pointsOf (v_cFun_typeOf x1 x4 σ) σ) else (1 : Int32)) * (if (1 : Int32) < (v_cTyp_pointsOf (v_cFun_typeOf x1 x4 σ) σ) then (v_cTyp_pointsOf (v_cFun_typeOf x1 x4 σ) σ) else (1 : Int32))))) (by decide +kernel) rfl (fun hC => ?_)
    obtain ⟨hi, h⟩ := jx_ite0_inv h
    refine jE_idiv hC hi ?_
    refine jE_blk (bs := [(.istore_n 3, 6, 0), (.iinc 4 (-1), 6, 3), (.goto (-45), 0, 0)]) (i := .iload 4) (a1 := 0) (a2 := 0) (pc1 := 22) (l1 := [(4, .int (x4 + (-1))), (3, .int (x3 / (if (1 : Int32) < (v_cTyp_pointsOf (v_cFun_typeOf x1 x4 σ) σ) then (v_cTyp_pointsOf (v_cFun_typeOf x1 x4 σ) σ) else (1 : Int32)))), (5, .int (if (1 : Int32) < (v_cTyp_pointsOf (v_cFun_typeOf x1 x4 σ) σ) then (v_cTyp_pointsOf (v_cFun_typeOf x1 x4 σ) σ) else (1 : Int32))), (0, .ref 7), (1, .int x1)]) (st1 := []) (σ1 := (jI_put 30 σ 69 x4 (x3 - x3 / (if (1 : Int32) < (v_cTyp_pointsOf (v_cFun_typeOf x1 x4 σ) σ) then (v_cTyp_pointsOf (v_cFun_typeOf x1 x4 σ) σ) else (1 : Int32)) * (if (1 : Int32) < (v_cTyp_pointsOf (v_cFun_typeOf x1 x4 σ) σ) then (v_cTyp_pointsOf (v_cFun_typeOf x1 x4 σ) σ) else (1 : Int32))))) (by decide +kernel) rfl (fun hC => ?_)
    have h9 := Option.some.inj h
    subst h9
    exact jE_loc (l := [(0, .ref 7), (1, .int x1), (3, .int (x3 / (if (1 : Int32) < (v_cTyp_pointsOf (v_cFun_typeOf x1 x4 σ) σ) then (v_cTyp_pointsOf (v_cFun_typeOf x1 x4 σ) σ) else (1 : Int32)))), (4, .int (x4 + (-1)))]) (ks := [0, 1, 3, 4]) rfl (by decide) ⟨rfl, rfl, rfl, rfl, trivial⟩ hK
def p_cAna_bindCase_22 (x1 : Int32) (x3 : Int32) (x4 : Int32) (σ : jx_S) : Option jx_S := jx_loop 100000000 (fun s => p_cAna_bindCase_22_s s.1 s.2.1 s.2.2.1 (s.2.2.2)) (x1, x3, x4, σ)
theorem x_cAna_bindCase_22 (d : Nat) (hd : 3 ≤ d) (x1 : Int32) (x3 : Int32) (x4 : Int32) (σ : jx_S) (t : jx_S) (res : Option Value × jx_S) (h : p_cAna_bindCase_22 x1 x3 x4 σ = some t) (hK : kkV t res) : jE d 92 22 [(0, .ref 7), (1, .int x1), (3, .int x3), (4, .int x4)] [] σ res := by
  refine jx_loop_ok (E := fun s t => ∀ res, kkV t res → jE d 92 22 [(0, .ref 7), (1, .int s.1), (3, .int s.2.1), (4, .int s.2.2.1)] [] s.2.2.2 res) (fun s t hs => ?_) _ _ _ h res hK
  cases t with
  | inl s1 => exact fun b hb res hk => x_cAna_bindCase_22_s d hd (s.1) (s.2.1) (s.2.2.1) (s.2.2.2) _ res hs (hb res hk)
  | inr b => exact fun res hk => x_cAna_bindCase_22_s d hd (s.1) (s.2.1) (s.2.2.1) (s.2.2.2) _ res hs hk
def p_cAna_bindCase (x1 : Int32) (x2 : Int32) (σ : jx_S) : Option jx_S := ((p_cAna_bindGreatest x1 σ).bind fun q1 => (p_cAna_bindCase_22 x1 x2 ((jI_at 40 (q1.1 43) x1) - (1 : Int32)) q1))
theorem x_cAna_bindCase (d : Nat) (hd : 3 ≤ d) (x1 : Int32) (x2 : Int32) (σ : jx_S) (t : jx_S) (res : Option Value × jx_S) (h : p_cAna_bindCase x1 x2 σ = some t) (hK : kkV t res) : jE d 92 0 [(0, .ref 7), (1, .int x1), (2, .int x2)] [] σ res := by
  unfold p_cAna_bindCase at h
  refine jE_blk (bs := [(.aload_n 0, 0, 0), (.iload_n 1, 0, 0)]) (i := .invokevirtual 104) (a1 := 93) (a2 := 0) (pc1 := 2) (l1 := [(0, .ref 7), (1, .int x1), (2, .int x2)]) (st1 := [.int x1, .ref 7]) (σ1 := σ) (by decide +kernel) rfl (fun hC => ?_)
  obtain ⟨q1, hq, h⟩ := Option.bind_eq_some_iff.mp h
  refine jE_call (as := [.ref 7, .int x1]) (pc1 := 5) (st1 := []) hC rfl (by decide) (by omega) (x_cAna_bindGreatest (d - 1) (by omega) x1 σ q1 (none, q1) hq rfl) ?_
  refine jE_blk (bs := [(.iload_n 2, 0, 0), (.istore_n 3, 6, 0), (.aload_n 0, 0, 0), (.getfield 34, 7, 1), (.getfield 107, 4, 1), (.iload_n 1, 0, 0)]) (i := .invokevirtual 73) (a1 := 136) (a2 := 0) (pc1 := 15) (l1 := [(3, .int x2), (0, .ref 7), (1, .int x1), (2, .int x2)]) (st1 := [.int x1, .ref 42]) (σ1 := q1) (by decide +kernel) rfl (fun hC => ?_)
  refine jE_call (as := [.ref 42, .int x1]) (pc1 := 18) (st1 := []) hC rfl (by decide) (by omega) (xI_at (d - 1) 42 40 x1 q1 (by decide) rfl rfl) ?_
  refine jE_blk (bs := [(.iconst (1), 1, 0), (.isub, 0, 0), (.istore 4, 6, 0)]) (i := .iload 4) (a1 := 0) (a2 := 0) (pc1 := 22) (l1 := [(4, .int ((jI_at 40 (q1.1 43) x1) - (1 : Int32))), (3, .int x2), (0, .ref 7), (1, .int x1), (2, .int x2)]) (st1 := []) (σ1 := q1) (by decide +kernel) rfl (fun hC => ?_)
  exact jE_loc (l := [(0, .ref 7), (1, .int x1), (3, .int x2), (4, .int ((jI_at 40 (q1.1 43) x1) - (1 : Int32)))]) (ks := [0, 1, 3, 4]) rfl (by decide) ⟨rfl, rfl, rfl, rfl, trivial⟩ (x_cAna_bindCase_22 d hd x1 x2 ((jI_at 40 (q1.1 43) x1) - (1 : Int32)) q1 _ res h hK)
