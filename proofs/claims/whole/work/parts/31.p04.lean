def kk_cAna_pointOfCall_43 (d : Nat) (t : ((Int32 × Int32 × Int32 × Int32 × Int32 × jx_S) ⊕ (Int32 × jx_S))) (res : Option Value × jx_S) : Prop := match t with
  | .inl s => jE d 97 43 [(0, .ref 7), (2, .int s.1), (3, .int s.2.1), (4, .int s.2.2.1), (5, .int s.2.2.2.1), (6, .int s.2.2.2.2.1)] [] s.2.2.2.2.2 res
  | .inr t => kkI t res
def p_cAna_pointOfCall_43_s (x2 : Int32) (x3 : Int32) (x4 : Int32) (x5 : Int32) (x6 : Int32) (σ : jx_S) : Option ((Int32 × Int32 × Int32 × Int32 × Int32 × jx_S) ⊕ (Int32 × jx_S)) := (if x3 ≤ x6 then (Option.map Sum.inr (if ((jI_at 40 (σ.1 43) x2) - x3) = 0 then (some (((v_cAna_pointOfCase x2 x4 σ), σ))) else (if ((jI_at 40 (σ.1 43) x2) - x3) = 1 then (some ((((v_cAna_pointOfCase x2 ((2 : Int32) * x4) σ) + (v_cAna_pointOfCase x2 (((2 : Int32) * x4) + (1 : Int32)) σ)), σ))) else (some (((v_cAna_findShape (v_cAna_pointOfCase x2 ((4 : Int32) * x4) σ) (v_cAna_pointOfCase x2 (((4 : Int32) * x4) + (1 : Int32)) σ) (v_cAna_pointOfCase x2 (((4 : Int32) * x4) + (2 : Int32)) σ) (v_cAna_pointOfCase x2 (((4 : Int32) * x4) + (3 : Int32)) σ) σ), σ)))))) else (some (.inl (x2, x3, ((x4 * (v_cTyp_pointsOf (v_cFun_typeOf x2 x6 σ) σ)) + (jI_at 1201 (σ.1 67) x5)), (jI_at 1201 (σ.1 29) x5), (x6 + 1), σ))))
theorem x_cAna_pointOfCall_43_s (d : Nat) (hd : 2 ≤ d) (x2 : Int32) (x3 : Int32) (x4 : Int32) (x5 : Int32) (x6 : Int32) (σ : jx_S) (t : ((Int32 × Int32 × Int32 × Int32 × Int32 × jx_S) ⊕ (Int32 × jx_S))) (res : Option Value × jx_S) (h : p_cAna_pointOfCall_43_s x2 x3 x4 x5 x6 σ = some t) (hK : kk_cAna_pointOfCall_43 d t res) : jE d 97 43 [(0, .ref 7), (2, .int x2), (3, .int x3), (4, .int x4), (5, .int x5), (6, .int x6)] [] σ res := by
  unfold p_cAna_pointOfCall_43_s at h
  refine jE_blk (bs := [(.iload 6, 0, 0), (.iload_n 3, 0, 0)]) (i := .if_icmp .ge (51)) (a1 := 0) (a2 := 0) (pc1 := 46) (l1 := [(0, .ref 7), (2, .int x2), (3, .int x3), (4, .int x4), (5, .int x5), (6, .int x6)]) (st1 := [.int x3, .int x6]) (σ1 := σ) (by decide +kernel) rfl (fun hC => ?_)
  rcases Classical.em (x3 ≤ x6) with hc | hc
  · rw [if_pos hc] at h
    refine jE_icT 97 hC (by decide) hc ?_
    obtain ⟨t9_1, h9_1, h8_1⟩ := Option.map_eq_some_iff.mp h
    clear h
    subst h8_1
    have h := h9_1
    clear h9_1
    refine jE_blk (bs := [(.aload_n 0, 0, 0), (.getfield 34, 7, 1), (.getfield 107, 4, 1), (.iload_n 2, 0, 0)]) (i := .invokevirtual 73) (a1 := 136) (a2 := 0) (pc1 := 105) (l1 := [(0, .ref 7), (2, .int x2), (3, .int x3), (4, .int x4), (5, .int x5), (6, .int x6)]) (st1 := [.int x2, .ref 42]) (σ1 := σ) (by decide +kernel) rfl (fun hC => ?_)
    refine jE_call (as := [.ref 42, .int x2]) (pc1 := 108) (st1 := []) hC rfl (by decide) (by omega) (xI_at (d - 1) 42 40 x2 σ (by decide) rfl rfl) ?_
    refine jE_blk (bs := [(.iload_n 3, 0, 0), (.isub, 0, 0)]) (i := .lookupswitch (56) #[(0, 26), (1, 34)]) (a1 := 0) (a2 := 0) (pc1 := 110) (l1 := [(0, .ref 7), (2, .int x2), (3, .int x3), (4, .int x4), (5, .int x5), (6, .int x6)]) (st1 := [.int ((jI_at 40 (σ.1 43) x2) - x3)]) (σ1 := σ) (by decide +kernel) rfl (fun hC => ?_)
    rcases Classical.em (((jI_at 40 (σ.1 43) x2) - x3) = 0) with hc0 | hc0
    · rw [if_pos hc0] at h
      refine jE_lsw 136 0 hC hc0 (by decide +kernel) ?_
      refine jE_blk (bs := [(.aload_n 0, 0, 0), (.iload_n 2, 0, 0), (.iload 4, 0, 0)]) (i := .invokevirtual 155) (a1 := 87) (a2 := 0) (pc1 := 140) (l1 := [(0, .ref 7), (2, .int x2), (3, .int x3), (4, .int x4), (5, .int x5), (6, .int x6)]) (st1 := [.int x4, .int x2, .ref 7]) (σ1 := σ) (by decide +kernel) rfl (fun hC => ?_)
      refine jE_call (as := [.ref 7, .int x2, .int x4]) (pc1 := 143) (st1 := []) hC rfl (by decide) (by omega) (xv_cAna_pointOfCase (d - 1) (by omega) x2 x4 σ) ?_
      refine jE_blk (bs := []) (i := .ireturn) (a1 := 0) (a2 := 0) (pc1 := 143) (l1 := [(0, .ref 7), (2, .int x2), (3, .int x3), (4, .int x4), (5, .int x5), (6, .int x6)]) (st1 := [.int (v_cAna_pointOfCase x2 x4 σ)]) (σ1 := σ) (by decide +kernel) rfl (fun hC => ?_)
      have h9 := Option.some.inj h
      subst h9
      have e9 : ((some (.int (v_cAna_pointOfCase x2 x4 σ)), σ) : Option Value × jx_S) = res := hK
      subst e9
      exact jE_ret hC rfl
    · rw [if_neg hc0] at h
      rcases Classical.em (((jI_at 40 (σ.1 43) x2) - x3) = 1) with hc1 | hc1
      · rw [if_pos hc1] at h
        refine jE_lsw 144 1 hC hc1 (by decide +kernel) ?_
        refine jE_blk (bs := [(.aload_n 0, 0, 0), (.iload_n 2, 0, 0), (.iconst (2), 2, 0), (.iload 4, 0, 0), (.imul, 0, 0)]) (i := .invokevirtual 155) (a1 := 87) (a2 := 0) (pc1 := 150) (l1 := [(0, .ref 7), (2, .int x2), (3, .int x3), (4, .int x4), (5, .int x5), (6, .int x6)]) (st1 := [.int ((2 : Int32) * x4), .int x2, .ref 7]) (σ1 := σ) (by decide +kernel) rfl (fun hC => ?_)
        refine jE_call (as := [.ref 7, .int x2, .int ((2 : Int32) * x4)]) (pc1 := 153) (st1 := []) hC rfl (by decide) (by omega) (xv_cAna_pointOfCase (d - 1) (by omega) x2 ((2 : Int32) * x4) σ) ?_
        refine jE_blk (bs := [(.aload_n 0, 0, 0), (.iload_n 2, 0, 0), (.iconst (2), 2, 0), (.iload 4, 0, 0), (.imul, 0, 0), (.iconst (1), 1, 0), (.iadd, 0, 0)]) (i := .invokevirtual 155) (a1 := 87) (a2 := 0) (pc1 := 161) (l1 := [(0, .ref 7), (2, .int x2), (3, .int x3), (4, .int x4), (5, .int x5), (6, .int x6)]) (st1 := [.int (((2 : Int32) * x4) + (1 : Int32)), .int x2, .ref 7, .int (v_cAna_pointOfCase x2 ((2 : Int32) * x4) σ)]) (σ1 := σ) (by decide +kernel) rfl (fun hC => ?_)
        refine jE_call (as := [.ref 7, .int x2, .int (((2 : Int32) * x4) + (1 : Int32))]) (pc1 := 164) (st1 := [.int (v_cAna_pointOfCase x2 ((2 : Int32) * x4) σ)]) hC rfl (by decide) (by omega) (xv_cAna_pointOfCase (d - 1) (by omega) x2 (((2 : Int32) * x4) + (1 : Int32)) σ) ?_
        refine jE_blk (bs := [(.iadd, 0, 0)]) (i := .ireturn) (a1 := 0) (a2 := 0) (pc1 := 165) (l1 := [(0, .ref 7), (2, .int x2), (3, .int x3), (4, .int x4), (5, .int x5), (6, .int x6)]) (st1 := [.int ((v_cAna_pointOfCase x2 ((2 : Int32) * x4) σ) + (v_cAna_pointOfCase x2 (((2 : Int32) * x4) + (1 : Int32)) σ))]) (σ1 := σ) (by decide +kernel) rfl (fun hC => ?_)
        have h9 := Option.some.inj h
        subst h9
        have e9 : ((some (.int ((v_cAna_pointOfCase x2 ((2 : Int32) * x4) σ) + (v_cAna_pointOfCase x2 (((2 : Int32) * x4) + (1 : Int32)) σ))), σ) : Option Value × jx_S) = res := hK
        subst e9
        exact jE_ret hC rfl
      · rw [if_neg hc1] at h
        refine jE_lswD 166 [0, 1] hC (by decide +kernel) ⟨hc0, hc1, trivial⟩ ?_
        refine jE_blk (bs := [(.aload_n 0, 0, 0), (.iload_n 2, 0, 0), (.iconst (4), 4, 0), (.iload 4, 0, 0), (.imul, 0, 0)]) (i := .invokevirtual 155) (a1 := 87) (a2 := 0) (pc1 := 172) (l1 := [(0, .ref 7), (2, .int x2), (3, .int x3), (4, .int x4), (5, .int x5), (6, .int x6)]) (st1 := [.int ((4 : Int32) * x4), .int x2, .ref 7]) (σ1 := σ) (by decide +kernel) rfl (fun hC => ?_)
        refine jE_call (as := [.ref 7, .int x2, .int ((4 : Int32) * x4)]) (pc1 := 175) (st1 := []) hC rfl (by decide) (by omega) (xv_cAna_pointOfCase (d - 1) (by omega) x2 ((4 : Int32) * x4) σ) ?_
        refine jE_blk (bs := [(.aload_n 0, 0, 0), (.iload_n 2, 0, 0), (.iconst (4), 4, 0), (.iload 4, 0, 0), (.imul, 0, 0), (.iconst (1), 1, 0), (.iadd, 0, 0)]) (i := .invokevirtual 155) (a1 := 87) (a2 := 0) (pc1 := 183) (l1 := [(0, .ref 7), (2, .int x2), (3, .int x3), (4, .int x4), (5, .int x5), (6, .int x6)]) (st1 := [.int (((4 : Int32) * x4) + (1 : Int32)), .int x2, .ref 7, .int (v_cAna_pointOfCase x2 ((4 : Int32) * x4) σ)]) (σ1 := σ) (by decide +kernel) rfl (fun hC => ?_)
        refine jE_call (as := [.ref 7, .int x2, .int (((4 : Int32) * x4) + (1 : Int32))]) (pc1 := 186) (st1 := [.int (v_cAna_pointOfCase x2 ((4 : Int32) * x4) σ)]) hC rfl (by decide) (by omega) (xv_cAna_pointOfCase (d - 1) (by omega) x2 (((4 : Int32) * x4) + (1 : Int32)) σ) ?_
        refine jE_blk (bs := [(.aload_n 0, 0, 0), (.iload_n 2, 0, 0), (.iconst (4), 4, 0), (.iload 4, 0, 0), (.imul, 0, 0), (.iconst (2), 2, 0), (.iadd, 0, 0)]) (i := .invokevirtual 155) (a1 := 87) (a2 := 0) (pc1 := 194) (l1 := [(0, .ref 7), (2, .int x2), (3, .int x3), (4, .int x4), (5, .int x5), (6, .int x6)]) (st1 := [.int (((4 : Int32) * x4) + (2 : Int32)), .int x2, .ref 7, .int (v_cAna_pointOfCase x2 (((4 : Int32) * x4) + (1 : Int32)) σ), .int (v_cAna_pointOfCase x2 ((4 : Int32) * x4) σ)]) (σ1 := σ) (by decide +kernel) rfl (fun hC => ?_)
        refine jE_call (as := [.ref 7, .int x2, .int (((4 : Int32) * x4) + (2 : Int32))]) (pc1 := 197) (st1 := [.int (v_cAna_pointOfCase x2 (((4 : Int32) * x4) + (1 : Int32)) σ), .int (v_cAna_pointOfCase x2 ((4 : Int32) * x4) σ)]) hC rfl (by decide) (by omega) (xv_cAna_pointOfCase (d - 1) (by omega) x2 (((4 : Int32) * x4) + (2 : Int32)) σ) ?_
        refine jE_blk (bs := [(.aload_n 0, 0, 0), (.iload_n 2, 0, 0), (.iconst (4), 4, 0), (.iload 4, 0, 0), (.imul, 0, 0), (.iconst (3), 3, 0), (.iadd, 0, 0)]) (i := .invokevirtual 155) (a1 := 87) (a2 := 0) (pc1 := 205) (l1 := [(0, .ref 7), (2, .int x2), (3, .int x3), (4, .int x4), (5, .int x5), (6, .int x6)]) (st1 := [.int (((4 : Int32) * x4) + (3 : Int32)), .int x2, .ref 7, .int (v_cAna_pointOfCase x2 (((4 : Int32) * x4) + (2 : Int32)) σ), .int (v_cAna_pointOfCase x2 (((4 : Int32) * x4) + (1 : Int32)) σ), .int (v_cAna_pointOfCase x2 ((4 : Int32) * x4) σ)]) (σ1 := σ) (by decide +kernel) rfl (fun hC => ?_)
        refine jE_call (as := [.ref 7, .int x2, .int (((4 : Int32) * x4) + (3 : Int32))]) (pc1 := 208) (st1 := [.int (v_cAna_pointOfCase x2 (((4 : Int32) * x4) + (2 : Int32)) σ), .int (v_cAna_pointOfCase x2 (((4 : Int32) * x4) + (1 : Int32)) σ), .int (v_cAna_pointOfCase x2 ((4 : Int32) * x4) σ)]) hC rfl (by decide) (by omega) (xv_cAna_pointOfCase (d - 1) (by omega) x2 (((4 : Int32) * x4) + (3 : Int32)) σ) ?_
        refine jE_blk (bs := []) (i := .invokestatic 158) (a1 := 98) (a2 := 0) (pc1 := 208) (l1 := [(0, .ref 7), (2, .int x2), (3, .int x3), (4, .int x4), (5, .int x5), (6, .int x6)]) (st1 := [.int (v_cAna_pointOfCase x2 (((4 : Int32) * x4) + (3 : Int32)) σ), .int (v_cAna_pointOfCase x2 (((4 : Int32) * x4) + (2 : Int32)) σ), .int (v_cAna_pointOfCase x2 (((4 : Int32) * x4) + (1 : Int32)) σ), .int (v_cAna_pointOfCase x2 ((4 : Int32) * x4) σ)]) (σ1 := σ) (by decide +kernel) rfl (fun hC => ?_)
        refine jE_call (as := [.int (v_cAna_pointOfCase x2 ((4 : Int32) * x4) σ), .int (v_cAna_pointOfCase x2 (((4 : Int32) * x4) + (1 : Int32)) σ), .int (v_cAna_pointOfCase x2 (((4 : Int32) * x4) + (2 : Int32)) σ), .int (v_cAna_pointOfCase x2 (((4 : Int32) * x4) + (3 : Int32)) σ)]) (pc1 := 211) (st1 := []) hC rfl (by decide) (by omega) (xv_cAna_findShape (d - 1) (by omega) (v_cAna_pointOfCase x2 ((4 : Int32) * x4) σ) (v_cAna_pointOfCase x2 (((4 : Int32) * x4) + (1 : Int32)) σ) (v_cAna_pointOfCase x2 (((4 : Int32) * x4) + (2 : Int32)) σ) (v_cAna_pointOfCase x2 (((4 : Int32) * x4) + (3 : Int32)) σ) σ) ?_
        refine jE_blk (bs := []) (i := .ireturn) (a1 := 0) (a2 := 0) (pc1 := 211) (l1 := [(0, .ref 7), (2, .int x2), (3, .int x3), (4, .int x4), (5, .int x5), (6, .int x6)]) (st1 := [.int (v_cAna_findShape (v_cAna_pointOfCase x2 ((4 : Int32) * x4) σ) (v_cAna_pointOfCase x2 (((4 : Int32) * x4) + (1 : Int32)) σ) (v_cAna_pointOfCase x2 (((4 : Int32) * x4) + (2 : Int32)) σ) (v_cAna_pointOfCase x2 (((4 : Int32) * x4) + (3 : Int32)) σ) σ)]) (σ1 := σ) (by decide +kernel) rfl (fun hC => ?_)
        have h9 := Option.some.inj h
        subst h9
        have e9 : ((some (.int (v_cAna_findShape (v_cAna_pointOfCase x2 ((4 : Int32) * x4) σ) (v_cAna_pointOfCase x2 (((4 : Int32) * x4) + (1 : Int32)) σ) (v_cAna_pointOfCase x2 (((4 : Int32) * x4) + (2 : Int32)) σ) (v_cAna_pointOfCase x2 (((4 : Int32) * x4) + (3 : Int32)) σ) σ)), σ) : Option Value × jx_S) = res := hK
        subst e9
        exact jE_ret hC rfl
  · rw [if_neg hc] at h
    refine jE_icF 97 hC (by decide) hc ?_
    refine jE_blk (bs := [(.iload 4, 0, 0), (.aload_n 0, 0, 0), (.getfield 34, 7, 1), (.iload_n 2, 0, 0), (.iload 6, 0, 0)]) (i := .invokevirtual 110) (a1 := 40) (a2 := 0) (pc1 := 58) (l1 := [(0, .ref 7), (2, .int x2), (3, .int x3), (4, .int x4), (5, .int x5), (6, .int x6)]) (st1 := [.int x6, .int x2, .ref 4, .int x4]) (σ1 := σ) (by decide +kernel) rfl (fun hC => ?_)
    refine jE_call (as := [.ref 4, .int x2, .int x6]) (pc1 := 61) (st1 := [.int x4]) hC rfl (by decide) (by omega) (xv_cFun_typeOf (d - 1) (by omega) x2 x6 σ) ?_
    refine jE_blk (bs := []) (i := .invokestatic 114) (a1 := 83) (a2 := 0) (pc1 := 61) (l1 := [(0, .ref 7), (2, .int x2), (3, .int x3), (4, .int x4), (5, .int x5), (6, .int x6)]) (st1 := [.int (v_cFun_typeOf x2 x6 σ), .int x4]) (σ1 := σ) (by decide +kernel) rfl (fun hC => ?_)
    refine jE_call (as := [.int (v_cFun_typeOf x2 x6 σ)]) (pc1 := 64) (st1 := [.int x4]) hC rfl (by decide) (by omega) (xv_cTyp_pointsOf (d - 1) (by omega) (v_cFun_typeOf x2 x6 σ) σ) ?_
    refine jE_blk (bs := [(.imul, 0, 0), (.aload_n 0, 0, 0), (.getfield 24, 7, 4), (.iload 5, 0, 0)]) (i := .invokevirtual 73) (a1 := 136) (a2 := 0) (pc1 := 71) (l1 := [(0, .ref 7), (2, .int x2), (3, .int x3), (4, .int x4), (5, .int x5), (6, .int x6)]) (st1 := [.int x5, .ref 66, .int (x4 * (v_cTyp_pointsOf (v_cFun_typeOf x2 x6 σ) σ))]) (σ1 := σ) (by decide +kernel) rfl (fun hC => ?_)
    refine jE_call (as := [.ref 66, .int x5]) (pc1 := 74) (st1 := [.int (x4 * (v_cTyp_pointsOf (v_cFun_typeOf x2 x6 σ) σ))]) hC rfl (by decide) (by omega) (xI_at (d - 1) 66 1201 x5 σ (by decide) rfl rfl) ?_
    refine jE_blk (bs := [(.iadd, 0, 0), (.istore 4, 7, 0), (.aload_n 0, 0, 0), (.getfield 30, 7, 0), (.getfield 134, 3, 3), (.iload 5, 0, 0)]) (i := .invokevirtual 73) (a1 := 136) (a2 := 0) (pc1 := 86) (l1 := [(4, .int ((x4 * (v_cTyp_pointsOf (v_cFun_typeOf x2 x6 σ) σ)) + (jI_at 1201 (σ.1 67) x5))), (0, .ref 7), (2, .int x2), (3, .int x3), (5, .int x5), (6, .int x6)]) (st1 := [.int x5, .ref 28]) (σ1 := σ) (by decide +kernel) rfl (fun hC => ?_)
    refine jE_call (as := [.ref 28, .int x5]) (pc1 := 89) (st1 := []) hC rfl (by decide) (by omega) (xI_at (d - 1) 28 1201 x5 σ (by decide) rfl rfl) ?_
    refine jE_blk (bs := [(.istore 5, 7, 0), (.iinc 6 (1), 7, 2), (.goto (-51), 0, 0)]) (i := .iload 6) (a1 := 0) (a2 := 0) (pc1 := 43) (l1 := [(6, .int (x6 + 1)), (5, .int (jI_at 1201 (σ.1 29) x5)), (4, .int ((x4 * (v_cTyp_pointsOf (v_cFun_typeOf x2 x6 σ) σ)) + (jI_at 1201 (σ.1 67) x5))), (0, .ref 7), (2, .int x2), (3, .int x3)]) (st1 := []) (σ1 := σ) (by decide +kernel) rfl (fun hC => ?_)
    have h9 := Option.some.inj h
    subst h9
    exact jE_loc (l := [(0, .ref 7), (2, .int x2), (3, .int x3), (4, .int ((x4 * (v_cTyp_pointsOf (v_cFun_typeOf x2 x6 σ) σ)) + (jI_at 1201 (σ.1 67) x5))), (5, .int (jI_at 1201 (σ.1 29) x5)), (6, .int (x6 + 1))]) (ks := [0, 2, 3, 4, 5, 6]) rfl (by decide) ⟨rfl, rfl, rfl, rfl, rfl, rfl, trivial⟩ hK
def p_cAna_pointOfCall_43 (x2 : Int32) (x3 : Int32) (x4 : Int32) (x5 : Int32) (x6 : Int32) (σ : jx_S) : Option (Int32 × jx_S) := jx_loop 100000000 (fun s => p_cAna_pointOfCall_43_s s.1 s.2.1 s.2.2.1 s.2.2.2.1 s.2.2.2.2.1 (s.2.2.2.2.2)) (x2, x3, x4, x5, x6, σ)
theorem x_cAna_pointOfCall_43 (d : Nat) (hd : 2 ≤ d) (x2 : Int32) (x3 : Int32) (x4 : Int32) (x5 : Int32) (x6 : Int32) (σ : jx_S) (t : (Int32 × jx_S)) (res : Option Value × jx_S) (h : p_cAna_pointOfCall_43 x2 x3 x4 x5 x6 σ = some t) (hK : kkI t res) : jE d 97 43 [(0, .ref 7), (2, .int x2), (3, .int x3), (4, .int x4), (5, .int x5), (6, .int x6)] [] σ res := by
  refine jx_loop_ok (E := fun s t => ∀ res, kkI t res → jE d 97 43 [(0, .ref 7), (2, .int s.1), (3, .int s.2.1), (4, .int s.2.2.1), (5, .int s.2.2.2.1), (6, .int s.2.2.2.2.1)] [] s.2.2.2.2.2 res) (fun s t hs => ?_) _ _ _ h res hK
  cases t with
  | inl s1 => exact fun b hb res hk => x_cAna_pointOfCall_43_s d hd (s.1) (s.2.1) (s.2.2.1) (s.2.2.2.1) (s.2.2.2.2.1) (s.2.2.2.2.2) _ res hs (hb res hk)
  | inr b => exact fun res hk => x_cAna_pointOfCall_43_s d hd (s.1) (s.2.1) (s.2.2.1) (s.2.2.2.1) (s.2.2.2.2.1) (s.2.2.2.2.2) _ res hs hk
def p_cAna_pointOfCall (x1 : Int32) (σ : jx_S) : Option (Int32 × jx_S) := (p_cAna_pointOfCall_43 (jI_at 1201 (σ.1 33) x1) (jI_at 1201 (σ.1 35) x1) (0 : Int32) (jI_at 1201 (σ.1 27) x1) (0 : Int32) σ)
theorem x_cAna_pointOfCall (d : Nat) (hd : 2 ≤ d) (x1 : Int32) (σ : jx_S) (t : (Int32 × jx_S)) (res : Option Value × jx_S) (h : p_cAna_pointOfCall x1 σ = some t) (hK : kkI t res) : jE d 97 0 [(0, .ref 7), (1, .int x1)] [] σ res := by
  unfold p_cAna_pointOfCall at h
  refine jE_blk (bs := [(.aload_n 0, 0, 0), (.getfield 30, 7, 0), (.getfield 94, 3, 5), (.iload_n 1, 0, 0)]) (i := .invokevirtual 73) (a1 := 136) (a2 := 0) (pc1 := 8) (l1 := [(0, .ref 7), (1, .int x1)]) (st1 := [.int x1, .ref 32]) (σ1 := σ) (by decide +kernel) rfl (fun hC => ?_)
  refine jE_call (as := [.ref 32, .int x1]) (pc1 := 11) (st1 := []) hC rfl (by decide) (by omega) (xI_at (d - 1) 32 1201 x1 σ (by decide) rfl rfl) ?_
  refine jE_blk (bs := [(.istore_n 2, 7, 0), (.aload_n 0, 0, 0), (.getfield 30, 7, 0), (.getfield 146, 3, 6), (.iload_n 1, 0, 0)]) (i := .invokevirtual 73) (a1 := 136) (a2 := 0) (pc1 := 20) (l1 := [(2, .int (jI_at 1201 (σ.1 33) x1)), (0, .ref 7), (1, .int x1)]) (st1 := [.int x1, .ref 34]) (σ1 := σ) (by decide +kernel) rfl (fun hC => ?_)
  refine jE_call (as := [.ref 34, .int x1]) (pc1 := 23) (st1 := []) hC rfl (by decide) (by omega) (xI_at (d - 1) 34 1201 x1 σ (by decide) rfl rfl) ?_
  refine jE_blk (bs := [(.istore_n 3, 7, 0), (.iconst (0), 0, 0), (.istore 4, 7, 0), (.aload_n 0, 0, 0), (.getfield 30, 7, 0), (.getfield 131, 3, 2), (.iload_n 1, 0, 0)]) (i := .invokevirtual 73) (a1 := 136) (a2 := 0) (pc1 := 35) (l1 := [(4, .int (0 : Int32)), (3, .int (jI_at 1201 (σ.1 35) x1)), (2, .int (jI_at 1201 (σ.1 33) x1)), (0, .ref 7), (1, .int x1)]) (st1 := [.int x1, .ref 26]) (σ1 := σ) (by decide +kernel) rfl (fun hC => ?_)
  refine jE_call (as := [.ref 26, .int x1]) (pc1 := 38) (st1 := []) hC rfl (by decide) (by omega) (xI_at (d - 1) 26 1201 x1 σ (by decide) rfl rfl) ?_
  refine jE_blk (bs := [(.istore 5, 7, 0), (.iconst (0), 0, 0), (.istore 6, 7, 0)]) (i := .iload 6) (a1 := 0) (a2 := 0) (pc1 := 43) (l1 := [(6, .int (0 : Int32)), (5, .int (jI_at 1201 (σ.1 27) x1)), (4, .int (0 : Int32)), (3, .int (jI_at 1201 (σ.1 35) x1)), (2, .int (jI_at 1201 (σ.1 33) x1)), (0, .ref 7), (1, .int x1)]) (st1 := []) (σ1 := σ) (by decide +kernel) rfl (fun hC => ?_)
  exact jE_loc (l := [(0, .ref 7), (2, .int (jI_at 1201 (σ.1 33) x1)), (3, .int (jI_at 1201 (σ.1 35) x1)), (4, .int (0 : Int32)), (5, .int (jI_at 1201 (σ.1 27) x1)), (6, .int (0 : Int32))]) (ks := [0, 2, 3, 4, 5, 6]) rfl (by decide) ⟨rfl, rfl, rfl, rfl, rfl, rfl, trivial⟩ (x_cAna_pointOfCall_43 d hd (jI_at 1201 (σ.1 33) x1) (jI_at 1201 (σ.1 35) x1) (0 : Int32) (jI_at 1201 (σ.1 27) x1) (0 : Int32) σ _ res h hK)
def p_cAna_pointOf_191 (x3 : Int32) (x4 : Int32) (σ : jx_S) : Option (Int32 × jx_S) := (some ((((jI_at 1201 (σ.1 67) x3) &&& ((jI_at 1201 (σ.1 67) x4) ||| (jI_at 1201 (σ.1 67) (jI_at 1201 (σ.1 29) x4)))), σ)))
theorem x_cAna_pointOf_191 (d : Nat) (hd : 3 ≤ d) (x3 : Int32) (x4 : Int32) (σ : jx_S) (t : (Int32 × jx_S)) (res : Option Value × jx_S) (h : p_cAna_pointOf_191 x3 x4 σ = some t) (hK : kkI t res) : jE d 95 191 [(0, .ref 7), (3, .int x3), (4, .int x4)] [] σ res := by
  unfold p_cAna_pointOf_191 at h
  refine jE_blk (bs := [(.aload_n 0, 0, 0), (.getfield 24, 7, 4), (.iload_n 3, 0, 0)]) (i := .invokevirtual 73) (a1 := 136) (a2 := 0) (pc1 := 196) (l1 := [(0, .ref 7), (3, .int x3), (4, .int x4)]) (st1 := [.int x3, .ref 66]) (σ1 := σ) (by decide +kernel) rfl (fun hC => ?_)
  refine jE_call (as := [.ref 66, .int x3]) (pc1 := 199) (st1 := []) hC rfl (by decide) (by omega) (xI_at (d - 1) 66 1201 x3 σ (by decide) rfl rfl) ?_
  refine jE_blk (bs := [(.aload_n 0, 0, 0), (.getfield 24, 7, 4), (.iload 4, 0, 0)]) (i := .invokevirtual 73) (a1 := 136) (a2 := 0) (pc1 := 205) (l1 := [(0, .ref 7), (3, .int x3), (4, .int x4)]) (st1 := [.int x4, .ref 66, .int (jI_at 1201 (σ.1 67) x3)]) (σ1 := σ) (by decide +kernel) rfl (fun hC => ?_)
  refine jE_call (as := [.ref 66, .int x4]) (pc1 := 208) (st1 := [.int (jI_at 1201 (σ.1 67) x3)]) hC rfl (by decide) (by omega) (xI_at (d - 1) 66 1201 x4 σ (by decide) rfl rfl) ?_
  refine jE_blk (bs := [(.aload_n 0, 0, 0), (.getfield 24, 7, 4), (.aload_n 0, 0, 0), (.getfield 30, 7, 0), (.getfield 134, 3, 3), (.iload 4, 0, 0)]) (i := .invokevirtual 73) (a1 := 136) (a2 := 0) (pc1 := 221) (l1 := [(0, .ref 7), (3, .int x3), (4, .int x4)]) (st1 := [.int x4, .ref 28, .ref 66, .int (jI_at 1201 (σ.1 67) x4), .int (jI_at 1201 (σ.1 67) x3)]) (σ1 := σ) (by decide +kernel) rfl (fun hC => ?_)
  refine jE_call (as := [.ref 28, .int x4]) (pc1 := 224) (st1 := [.ref 66, .int (jI_at 1201 (σ.1 67) x4), .int (jI_at 1201 (σ.1 67) x3)]) hC rfl (by decide) (by omega) (xI_at (d - 1) 28 1201 x4 σ (by decide) rfl rfl) ?_
  refine jE_blk (bs := []) (i := .invokevirtual 73) (a1 := 136) (a2 := 0) (pc1 := 224) (l1 := [(0, .ref 7), (3, .int x3), (4, .int x4)]) (st1 := [.int (jI_at 1201 (σ.1 29) x4), .ref 66, .int (jI_at 1201 (σ.1 67) x4), .int (jI_at 1201 (σ.1 67) x3)]) (σ1 := σ) (by decide +kernel) rfl (fun hC => ?_)
  refine jE_call (as := [.ref 66, .int (jI_at 1201 (σ.1 29) x4)]) (pc1 := 227) (st1 := [.int (jI_at 1201 (σ.1 67) x4), .int (jI_at 1201 (σ.1 67) x3)]) hC rfl (by decide) (by omega) (xI_at (d - 1) 66 1201 (jI_at 1201 (σ.1 29) x4) σ (by decide) rfl rfl) ?_
  refine jE_blk (bs := [(.ior, 0, 0), (.iand, 0, 0)]) (i := .ireturn) (a1 := 0) (a2 := 0) (pc1 := 229) (l1 := [(0, .ref 7), (3, .int x3), (4, .int x4)]) (st1 := [.int ((jI_at 1201 (σ.1 67) x3) &&& ((jI_at 1201 (σ.1 67) x4) ||| (jI_at 1201 (σ.1 67) (jI_at 1201 (σ.1 29) x4))))]) (σ1 := σ) (by decide +kernel) rfl (fun hC => ?_)
  have h9 := Option.some.inj h
  subst h9
  have e9 : ((some (.int ((jI_at 1201 (σ.1 67) x3) &&& ((jI_at 1201 (σ.1 67) x4) ||| (jI_at 1201 (σ.1 67) (jI_at 1201 (σ.1 29) x4))))), σ) : Option Value × jx_S) = res := hK
  subst e9
  exact jE_ret hC rfl
def p_cAna_pointOf_230 (x3 : Int32) (x4 : Int32) (σ : jx_S) : Option (Int32 × jx_S) := (some ((((jI_at 1201 (σ.1 67) x3) &&& (jI_at 1201 (σ.1 67) x4)), σ)))
theorem x_cAna_pointOf_230 (d : Nat) (hd : 3 ≤ d) (x3 : Int32) (x4 : Int32) (σ : jx_S) (t : (Int32 × jx_S)) (res : Option Value × jx_S) (h : p_cAna_pointOf_230 x3 x4 σ = some t) (hK : kkI t res) : jE d 95 230 [(0, .ref 7), (3, .int x3), (4, .int x4)] [] σ res := by
  unfold p_cAna_pointOf_230 at h
  refine jE_blk (bs := [(.aload_n 0, 0, 0), (.getfield 24, 7, 4), (.iload_n 3, 0, 0)]) (i := .invokevirtual 73) (a1 := 136) (a2 := 0) (pc1 := 235) (l1 := [(0, .ref 7), (3, .int x3), (4, .int x4)]) (st1 := [.int x3, .ref 66]) (σ1 := σ) (by decide +kernel) rfl (fun hC => ?_)
  refine jE_call (as := [.ref 66, .int x3]) (pc1 := 238) (st1 := []) hC rfl (by decide) (by omega) (xI_at (d - 1) 66 1201 x3 σ (by decide) rfl rfl) ?_
  refine jE_blk (bs := [(.aload_n 0, 0, 0), (.getfield 24, 7, 4), (.iload 4, 0, 0)]) (i := .invokevirtual 73) (a1 := 136) (a2 := 0) (pc1 := 244) (l1 := [(0, .ref 7), (3, .int x3), (4, .int x4)]) (st1 := [.int x4, .ref 66, .int (jI_at 1201 (σ.1 67) x3)]) (σ1 := σ) (by decide +kernel) rfl (fun hC => ?_)
  refine jE_call (as := [.ref 66, .int x4]) (pc1 := 247) (st1 := [.int (jI_at 1201 (σ.1 67) x3)]) hC rfl (by decide) (by omega) (xI_at (d - 1) 66 1201 x4 σ (by decide) rfl rfl) ?_
  refine jE_blk (bs := [(.iand, 0, 0)]) (i := .ireturn) (a1 := 0) (a2 := 0) (pc1 := 248) (l1 := [(0, .ref 7), (3, .int x3), (4, .int x4)]) (st1 := [.int ((jI_at 1201 (σ.1 67) x3) &&& (jI_at 1201 (σ.1 67) x4))]) (σ1 := σ) (by decide +kernel) rfl (fun hC => ?_)
  have h9 := Option.some.inj h
  subst h9
  have e9 : ((some (.int ((jI_at 1201 (σ.1 67) x3) &&& (jI_at 1201 (σ.1 67) x4))), σ) : Option Value × jx_S) = res := hK
  subst e9
  exact jE_ret hC rfl
def p_cAna_pointOf (x1 : Int32) (x2 : Int32) (σ : jx_S) : Option (Int32 × jx_S) := (if (jI_at 1201 (σ.1 23) x2) = 2 then (some (((1 : Int32), σ))) else (if (jI_at 1201 (σ.1 23) x2) = 5 then (some (((jI_at 1201 (σ.1 67) (jI_at 1201 (σ.1 29) (jI_at 1201 (σ.1 27) x2))), σ))) else (if (jI_at 1201 (σ.1 23) x2) = 7 then (p_cAna_pointOf_191 (jI_at 1201 (σ.1 27) x2) (jI_at 1201 (σ.1 29) (jI_at 1201 (σ.1 27) x2)) σ) else (if (jI_at 1201 (σ.1 23) x2) = 10 then (p_cAna_pointOf_191 (jI_at 1201 (σ.1 27) x2) (jI_at 1201 (σ.1 29) (jI_at 1201 (σ.1 27) x2)) σ) else (if (jI_at 1201 (σ.1 23) x2) = 13 then (some (((1 : Int32), σ))) else (if (jI_at 1201 (σ.1 23) x2) = 14 then (some (((1 : Int32), σ))) else (if (jI_at 1201 (σ.1 23) x2) = 15 then (some (((0 : Int32), σ))) else (if (jI_at 1201 (σ.1 23) x2) = 28 then (some (((v_cAna_pointOfLocal x1 x2 σ), σ))) else (if (jI_at 1201 (σ.1 23) x2) = 29 then ((p_cAna_pointOfCall x2 σ).bind fun q1 => (some ((q1.1, q1.2)))) else (p_cAna_pointOf_230 (jI_at 1201 (σ.1 27) x2) (jI_at 1201 (σ.1 29) (jI_at 1201 (σ.1 27) x2)) σ))))))))))
theorem x_cAna_pointOf (d : Nat) (hd : 3 ≤ d) (x1 : Int32) (x2 : Int32) (σ : jx_S) (t : (Int32 × jx_S)) (res : Option Value × jx_S) (h : p_cAna_pointOf x1 x2 σ = some t) (hK : kkI t res) : jE d 95 0 [(0, .ref 7), (1, .int x1), (2, .int x2)] [] σ res := by
  unfold p_cAna_pointOf at h
  refine jE_blk (bs := [(.aload_n 0, 0, 0), (.getfield 30, 7, 0), (.getfield 131, 3, 2), (.iload_n 2, 0, 0)]) (i := .invokevirtual 73) (a1 := 136) (a2 := 0) (pc1 := 8) (l1 := [(0, .ref 7), (1, .int x1), (2, .int x2)]) (st1 := [.int x2, .ref 26]) (σ1 := σ) (by decide +kernel) rfl (fun hC => ?_)
  refine jE_call (as := [.ref 26, .int x2]) (pc1 := 11) (st1 := []) hC rfl (by decide) (by omega) (xI_at (d - 1) 26 1201 x2 σ (by decide) rfl rfl) ?_
  refine jE_blk (bs := [(.istore_n 3, 5, 0), (.aload_n 0, 0, 0), (.getfield 30, 7, 0), (.getfield 134, 3, 3), (.iload_n 3, 0, 0)]) (i := .invokevirtual 73) (a1 := 136) (a2 := 0) (pc1 := 20) (l1 := [(3, .int (jI_at 1201 (σ.1 27) x2)), (0, .ref 7), (1, .int x1), (2, .int x2)]) (st1 := [.int (jI_at 1201 (σ.1 27) x2), .ref 28]) (σ1 := σ) (by decide +kernel) rfl (fun hC => ?_)
  refine jE_call (as := [.ref 28, .int (jI_at 1201 (σ.1 27) x2)]) (pc1 := 23) (st1 := []) hC rfl (by decide) (by omega) (xI_at (d - 1) 28 1201 (jI_at 1201 (σ.1 27) x2) σ (by decide) rfl rfl) ?_
  refine jE_blk (bs := [(.istore 4, 5, 0), (.aload_n 0, 0, 0), (.getfield 30, 7, 0), (.getfield 83, 3, 0), (.iload_n 2, 0, 0)]) (i := .invokevirtual 73) (a1 := 136) (a2 := 0) (pc1 := 33) (l1 := [(4, .int (jI_at 1201 (σ.1 29) (jI_at 1201 (σ.1 27) x2))), (3, .int (jI_at 1201 (σ.1 27) x2)), (0, .ref 7), (1, .int x1), (2, .int x2)]) (st1 := [.int x2, .ref 22]) (σ1 := σ) (by decide +kernel) rfl (fun hC => ?_)
  refine jE_call (as := [.ref 22, .int x2]) (pc1 := 36) (st1 := []) hC rfl (by decide) (by omega) (xI_at (d - 1) 22 1201 x2 σ (by decide) rfl rfl) ?_
  refine jE_blk (bs := []) (i := .tableswitch (194) (2) (29) #[128, 194, 194, 145, 194, 155, 194, 194, 155, 194, 194, 128, 128, 130, 194, 194, 194, 194, 194, 194, 194, 194, 194, 194, 194, 194, 132, 139]) (a1 := 0) (a2 := 0) (pc1 := 36) (l1 := [(4, .int (jI_at 1201 (σ.1 29) (jI_at 1201 (σ.1 27) x2))), (3, .int (jI_at 1201 (σ.1 27) x2)), (0, .ref 7), (1, .int x1), (2, .int x2)]) (st1 := [.int (jI_at 1201 (σ.1 23) x2)]) (σ1 := σ) (by decide +kernel) rfl (fun hC => ?_)
  rcases Classical.em ((jI_at 1201 (σ.1 23) x2) = 2) with hc0 | hc0
  · rw [if_pos hc0] at h
    refine jE_tsw 164 2 hC hc0 (by decide +kernel) ?_
    refine jE_blk (bs := [(.iconst (1), 1, 0)]) (i := .ireturn) (a1 := 0) (a2 := 0) (pc1 := 165) (l1 := [(4, .int (jI_at 1201 (σ.1 29) (jI_at 1201 (σ.1 27) x2))), (3, .int (jI_at 1201 (σ.1 27) x2)), (0, .ref 7), (1, .int x1), (2, .int x2)]) (st1 := [.int (1 : Int32)]) (σ1 := σ) (by decide +kernel) rfl (fun hC => ?_)
    have h9 := Option.some.inj h
    subst h9
    have e9 : ((some (.int (1 : Int32)), σ) : Option Value × jx_S) = res := hK
    subst e9
    exact jE_ret hC rfl
  · rw [if_neg hc0] at h
    rcases Classical.em ((jI_at 1201 (σ.1 23) x2) = 5) with hc1 | hc1
    · rw [if_pos hc1] at h
      refine jE_tsw 181 5 hC hc1 (by decide +kernel) ?_
      refine jE_blk (bs := [(.aload_n 0, 0, 0), (.getfield 24, 7, 4), (.iload 4, 0, 0)]) (i := .invokevirtual 73) (a1 := 136) (a2 := 0) (pc1 := 187) (l1 := [(4, .int (jI_at 1201 (σ.1 29) (jI_at 1201 (σ.1 27) x2))), (3, .int (jI_at 1201 (σ.1 27) x2)), (0, .ref 7), (1, .int x1), (2, .int x2)]) (st1 := [.int (jI_at 1201 (σ.1 29) (jI_at 1201 (σ.1 27) x2)), .ref 66]) (σ1 := σ) (by decide +kernel) rfl (fun hC => ?_)
      refine jE_call (as := [.ref 66, .int (jI_at 1201 (σ.1 29) (jI_at 1201 (σ.1 27) x2))]) (pc1 := 190) (st1 := []) hC rfl (by decide) (by omega) (xI_at (d - 1) 66 1201 (jI_at 1201 (σ.1 29) (jI_at 1201 (σ.1 27) x2)) σ (by decide) rfl rfl) ?_
      refine jE_blk (bs := []) (i := .ireturn) (a1 := 0) (a2 := 0) (pc1 := 190) (l1 := [(4, .int (jI_at 1201 (σ.1 29) (jI_at 1201 (σ.1 27) x2))), (3, .int (jI_at 1201 (σ.1 27) x2)), (0, .ref 7), (1, .int x1), (2, .int x2)]) (st1 := [.int (jI_at 1201 (σ.1 67) (jI_at 1201 (σ.1 29) (jI_at 1201 (σ.1 27) x2)))]) (σ1 := σ) (by decide +kernel) rfl (fun hC => ?_)
      have h9 := Option.some.inj h
      subst h9
      have e9 : ((some (.int (jI_at 1201 (σ.1 67) (jI_at 1201 (σ.1 29) (jI_at 1201 (σ.1 27) x2)))), σ) : Option Value × jx_S) = res := hK
      subst e9
      exact jE_ret hC rfl
    · rw [if_neg hc1] at h
      rcases Classical.em ((jI_at 1201 (σ.1 23) x2) = 7) with hc2 | hc2
      · rw [if_pos hc2] at h
        refine jE_tsw 191 7 hC hc2 (by decide +kernel) ?_
        exact jE_loc (l := [(0, .ref 7), (3, .int (jI_at 1201 (σ.1 27) x2)), (4, .int (jI_at 1201 (σ.1 29) (jI_at 1201 (σ.1 27) x2)))]) (ks := [0, 3, 4]) rfl (by decide) ⟨rfl, rfl, rfl, trivial⟩ (x_cAna_pointOf_191 d hd (jI_at 1201 (σ.1 27) x2) (jI_at 1201 (σ.1 29) (jI_at 1201 (σ.1 27) x2)) σ _ res h hK)
      · rw [if_neg hc2] at h
        rcases Classical.em ((jI_at 1201 (σ.1 23) x2) = 10) with hc3 | hc3
        · rw [if_pos hc3] at h
          refine jE_tsw 191 10 hC hc3 (by decide +kernel) ?_
          exact jE_loc (l := [(0, .ref 7), (3, .int (jI_at 1201 (σ.1 27) x2)), (4, .int (jI_at 1201 (σ.1 29) (jI_at 1201 (σ.1 27) x2)))]) (ks := [0, 3, 4]) rfl (by decide) ⟨rfl, rfl, rfl, trivial⟩ (x_cAna_pointOf_191 d hd (jI_at 1201 (σ.1 27) x2) (jI_at 1201 (σ.1 29) (jI_at 1201 (σ.1 27) x2)) σ _ res h hK)
        · rw [if_neg hc3] at h
          rcases Classical.em ((jI_at 1201 (σ.1 23) x2) = 13) with hc4 | hc4
          · rw [if_pos hc4] at h
            refine jE_tsw 164 13 hC hc4 (by decide +kernel) ?_
            refine jE_blk (bs := [(.iconst (1), 1, 0)]) (i := .ireturn) (a1 := 0) (a2 := 0) (pc1 := 165) (l1 := [(4, .int (jI_at 1201 (σ.1 29) (jI_at 1201 (σ.1 27) x2))), (3, .int (jI_at 1201 (σ.1 27) x2)), (0, .ref 7), (1, .int x1), (2, .int x2)]) (st1 := [.int (1 : Int32)]) (σ1 := σ) (by decide +kernel) rfl (fun hC => ?_)
            have h9 := Option.some.inj h
            subst h9
            have e9 : ((some (.int (1 : Int32)), σ) : Option Value × jx_S) = res := hK
            subst e9
            exact jE_ret hC rfl
          · rw [if_neg hc4] at h
            rcases Classical.em ((jI_at 1201 (σ.1 23) x2) = 14) with hc5 | hc5
            · rw [if_pos hc5] at h
              refine jE_tsw 164 14 hC hc5 (by decide +kernel) ?_
              refine jE_blk (bs := [(.iconst (1), 1, 0)]) (i := .ireturn) (a1 := 0) (a2 := 0) (pc1 := 165) (l1 := [(4, .int (jI_at 1201 (σ.1 29) (jI_at 1201 (σ.1 27) x2))), (3, .int (jI_at 1201 (σ.1 27) x2)), (0, .ref 7), (1, .int x1), (2, .int x2)]) (st1 := [.int (1 : Int32)]) (σ1 := σ) (by decide +kernel) rfl (fun hC => ?_)
              have h9 := Option.some.inj h
              subst h9
              have e9 : ((some (.int (1 : Int32)), σ) : Option Value × jx_S) = res := hK
              subst e9
              exact jE_ret hC rfl
            · rw [if_neg hc5] at h
              rcases Classical.em ((jI_at 1201 (σ.1 23) x2) = 15) with hc6 | hc6
              · rw [if_pos hc6] at h
                refine jE_tsw 166 15 hC hc6 (by decide +kernel) ?_
                refine jE_blk (bs := [(.iconst (0), 0, 0)]) (i := .ireturn) (a1 := 0) (a2 := 0) (pc1 := 167) (l1 := [(4, .int (jI_at 1201 (σ.1 29) (jI_at 1201 (σ.1 27) x2))), (3, .int (jI_at 1201 (σ.1 27) x2)), (0, .ref 7), (1, .int x1), (2, .int x2)]) (st1 := [.int (0 : Int32)]) (σ1 := σ) (by decide +kernel) rfl (fun hC => ?_)
                have h9 := Option.some.inj h
                subst h9
                have e9 : ((some (.int (0 : Int32)), σ) : Option Value × jx_S) = res := hK
                subst e9
                exact jE_ret hC rfl
              · rw [if_neg hc6] at h
                rcases Classical.em ((jI_at 1201 (σ.1 23) x2) = 28) with hc7 | hc7
                · rw [if_pos hc7] at h
                  refine jE_tsw 168 28 hC hc7 (by decide +kernel) ?_
                  refine jE_blk (bs := [(.aload_n 0, 0, 0), (.iload_n 1, 0, 0), (.iload_n 2, 0, 0)]) (i := .invokevirtual 137) (a1 := 96) (a2 := 0) (pc1 := 171) (l1 := [(4, .int (jI_at 1201 (σ.1 29) (jI_at 1201 (σ.1 27) x2))), (3, .int (jI_at 1201 (σ.1 27) x2)), (0, .ref 7), (1, .int x1), (2, .int x2)]) (st1 := [.int x2, .int x1, .ref 7]) (σ1 := σ) (by decide +kernel) rfl (fun hC => ?_)
                  refine jE_call (as := [.ref 7, .int x1, .int x2]) (pc1 := 174) (st1 := []) hC rfl (by decide) (by omega) (xv_cAna_pointOfLocal (d - 1) (by omega) x1 x2 σ) ?_
                  refine jE_blk (bs := []) (i := .ireturn) (a1 := 0) (a2 := 0) (pc1 := 174) (l1 := [(4, .int (jI_at 1201 (σ.1 29) (jI_at 1201 (σ.1 27) x2))), (3, .int (jI_at 1201 (σ.1 27) x2)), (0, .ref 7), (1, .int x1), (2, .int x2)]) (st1 := [.int (v_cAna_pointOfLocal x1 x2 σ)]) (σ1 := σ) (by decide +kernel) rfl (fun hC => ?_)
                  have h9 := Option.some.inj h
                  subst h9
                  have e9 : ((some (.int (v_cAna_pointOfLocal x1 x2 σ)), σ) : Option Value × jx_S) = res := hK
                  subst e9
                  exact jE_ret hC rfl
                · rw [if_neg hc7] at h
                  rcases Classical.em ((jI_at 1201 (σ.1 23) x2) = 29) with hc8 | hc8
                  · rw [if_pos hc8] at h
                    refine jE_tsw 175 29 hC hc8 (by decide +kernel) ?_
                    refine jE_blk (bs := [(.aload_n 0, 0, 0), (.iload_n 2, 0, 0)]) (i := .invokevirtual 140) (a1 := 97) (a2 := 0) (pc1 := 177) (l1 := [(4, .int (jI_at 1201 (σ.1 29) (jI_at 1201 (σ.1 27) x2))), (3, .int (jI_at 1201 (σ.1 27) x2)), (0, .ref 7), (1, .int x1), (2, .int x2)]) (st1 := [.int x2, .ref 7]) (σ1 := σ) (by decide +kernel) rfl (fun hC => ?_)
                    obtain ⟨q1, hq, h⟩ := Option.bind_eq_some_iff.mp h
                    refine jE_call (as := [.ref 7, .int x2]) (pc1 := 180) (st1 := []) hC rfl (by decide) (by omega) (x_cAna_pointOfCall (d - 1) (by omega) x2 σ q1 (some (.int q1.1), q1.2) hq rfl) ?_
                    refine jE_blk (bs := []) (i := .ireturn) (a1 := 0) (a2 := 0) (pc1 := 180) (l1 := [(4, .int (jI_at 1201 (σ.1 29) (jI_at 1201 (σ.1 27) x2))), (3, .int (jI_at 1201 (σ.1 27) x2)), (0, .ref 7), (1, .int x1), (2, .int x2)]) (st1 := [.int q1.1]) (σ1 := q1.2) (by decide +kernel) rfl (fun hC => ?_)
                    have h9 := Option.some.inj h
                    subst h9
                    have e9 : ((some (.int q1.1), q1.2) : Option Value × jx_S) = res := hK
                    subst e9
                    exact jE_ret hC rfl
                  · rw [if_neg hc8] at h
                    refine jE_tswD 230 [2, 5, 7, 10, 13, 14, 15, 28, 29] hC (by decide +kernel) ⟨hc0, hc1, hc2, hc3, hc4, hc5, hc6, hc7, hc8, trivial⟩ ?_
                    exact jE_loc (l := [(0, .ref 7), (3, .int (jI_at 1201 (σ.1 27) x2)), (4, .int (jI_at 1201 (σ.1 29) (jI_at 1201 (σ.1 27) x2)))]) (ks := [0, 3, 4]) rfl (by decide) ⟨rfl, rfl, rfl, trivial⟩ (x_cAna_pointOf_230 d hd (jI_at 1201 (σ.1 27) x2) (jI_at 1201 (σ.1 29) (jI_at 1201 (σ.1 27) x2)) σ _ res h hK)
def kk_cAna_pointBetween_3 (d : Nat) (t : ((Int32 × Int32 × Int32 × jx_S) ⊕ (Int32 × jx_S))) (res : Option Value × jx_S) : Prop := match t with
  | .inl s => jE d 94 3 [(0, .ref 7), (1, .int s.1), (3, .int s.2.1), (4, .int s.2.2.1)] [] s.2.2.2 res
  | .inr t => kkI t res
def p_cAna_pointBetween_60 (x1 : Int32) (x3 : Int32) (x4 : Int32) (σ : jx_S) : Option ((Int32 × Int32 × Int32 × jx_S) ⊕ (Int32 × jx_S)) := (some (.inl (x1, x3, (x4 + 1), σ)))
theorem x_cAna_pointBetween_60 (d : Nat) (hd : 4 ≤ d) (x1 : Int32) (x3 : Int32) (x4 : Int32) (σ : jx_S) (t : ((Int32 × Int32 × Int32 × jx_S) ⊕ (Int32 × jx_S))) (res : Option Value × jx_S) (h : p_cAna_pointBetween_60 x1 x3 x4 σ = some t) (hK : kk_cAna_pointBetween_3 d t res) : jE d 94 60 [(0, .ref 7), (1, .int x1), (3, .int x3), (4, .int x4)] [] σ res := by
  unfold p_cAna_pointBetween_60 at h
  refine jE_blk (bs := [(.iinc 4 (1), 6, 2), (.goto (-60), 0, 0)]) (i := .iload 4) (a1 := 0) (a2 := 0) (pc1 := 3) (l1 := [(4, .int (x4 + 1)), (0, .ref 7), (1, .int x1), (3, .int x3)]) (st1 := []) (σ1 := σ) (by decide +kernel) rfl (fun hC => ?_)
  have h9 := Option.some.inj h
  subst h9
  exact jE_loc (l := [(0, .ref 7), (1, .int x1), (3, .int x3), (4, .int (x4 + 1))]) (ks := [0, 1, 3, 4]) rfl (by decide) ⟨rfl, rfl, rfl, rfl, trivial⟩ hK
def p_cAna_pointBetween_3_s (x1 : Int32) (x3 : Int32) (x4 : Int32) (σ : jx_S) : Option ((Int32 × Int32 × Int32 × jx_S) ⊕ (Int32 × jx_S)) := (if x3 < x4 then (Option.map Sum.inr (some (((jI_at 1201 (σ.1 67) x3), σ)))) else ((p_cAna_pointOf x1 x4 σ).bind fun q2 => (if (v_cTre_boundBy x4 (jI_put 1201 q2.2 67 x4 q2.1)) = (-1 : Int32) then (p_cAna_pointBetween_60 x1 x3 x4 (jI_put 1201 q2.2 67 x4 q2.1)) else (p_cAna_pointBetween_60 x1 x3 x4 (jI_put 30 (jI_put 1201 q2.2 67 x4 q2.1) 69 (v_cTre_boundBy x4 (jI_put 1201 q2.2 67 x4 q2.1)) (jI_at 1201 (jI_up 1201 (q2.2.1 67) x4 q2.1) x4))))))
theorem x_cAna_pointBetween_3_s (d : Nat) (hd : 4 ≤ d) (x1 : Int32) (x3 : Int32) (x4 : Int32) (σ : jx_S) (t : ((Int32 × Int32 × Int32 × jx_S) ⊕ (Int32 × jx_S))) (res : Option Value × jx_S) (h : p_cAna_pointBetween_3_s x1 x3 x4 σ = some t) (hK : kk_cAna_pointBetween_3 d t res) : jE d 94 3 [(0, .ref 7), (1, .int x1), (3, .int x3), (4, .int x4)] [] σ res := by
  unfold p_cAna_pointBetween_3_s at h
  refine jE_blk (bs := [(.iload 4, 0, 0), (.iload_n 3, 0, 0)]) (i := .if_icmp .gt (60)) (a1 := 0) (a2 := 0) (pc1 := 6) (l1 := [(0, .ref 7), (1, .int x1), (3, .int x3), (4, .int x4)]) (st1 := [.int x3, .int x4]) (σ1 := σ) (by decide +kernel) rfl (fun hC => ?_)
  rcases Classical.em (x3 < x4) with hc | hc
  · rw [if_pos hc] at h
    refine jE_icT 66 hC (by decide) hc ?_
    obtain ⟨t9_1, h9_1, h8_1⟩ := Option.map_eq_some_iff.mp h
    clear h
    subst h8_1
    have h := h9_1
    clear h9_1
    refine jE_blk (bs := [(.aload_n 0, 0, 0), (.getfield 24, 7, 4), (.iload_n 3, 0, 0)]) (i := .invokevirtual 73) (a1 := 136) (a2 := 0) (pc1 := 71) (l1 := [(0, .ref 7), (1, .int x1), (3, .int x3), (4, .int x4)]) (st1 := [.int x3, .ref 66]) (σ1 := σ) (by decide +kernel) rfl (fun hC => ?_)
    refine jE_call (as := [.ref 66, .int x3]) (pc1 := 74) (st1 := []) hC rfl (by decide) (by omega) (xI_at (d - 1) 66 1201 x3 σ (by decide) rfl rfl) ?_
    refine jE_blk (bs := []) (i := .ireturn) (a1 := 0) (a2 := 0) (pc1 := 74) (l1 := [(0, .ref 7), (1, .int x1), (3, .int x3), (4, .int x4)]) (st1 := [.int (jI_at 1201 (σ.1 67) x3)]) (σ1 := σ) (by decide +kernel) rfl (fun hC => ?_)
    have h9 := Option.some.inj h
    subst h9
    have e9 : ((some (.int (jI_at 1201 (σ.1 67) x3)), σ) : Option Value × jx_S) = res := hK
    subst e9
    exact jE_ret hC rfl
  · rw [if_neg hc] at h
    refine jE_icF 66 hC (by decide) hc ?_
    refine jE_blk (bs := [(.aload_n 0, 0, 0), (.getfield 24, 7, 4), (.iload 4, 0, 0), (.aload_n 0, 0, 0), (.iload_n 1, 0, 0), (.iload 4, 0, 0)]) (i := .invokevirtual 125) (a1 := 95) (a2 := 0) (pc1 := 19) (l1 := [(0, .ref 7), (1, .int x1), (3, .int x3), (4, .int x4)]) (st1 := [.int x4, .int x1, .ref 7, .int x4, .ref 66]) (σ1 := σ) (by decide +kernel) rfl (fun hC => ?_)
    obtain ⟨q2, hq, h⟩ := Option.bind_eq_some_iff.mp h
    refine jE_call (as := [.ref 7, .int x1, .int x4]) (pc1 := 22) (st1 := [.int x4, .ref 66]) hC rfl (by decide) (by omega) (x_cAna_pointOf (d - 1) (by omega) x1 x4 σ q2 (some (.int q2.1), q2.2) hq rfl) ?_
    refine jE_blk (bs := []) (i := .invokevirtual 63) (a1 := 137) (a2 := 0) (pc1 := 22) (l1 := [(0, .ref 7), (1, .int x1), (3, .int x3), (4, .int x4)]) (st1 := [.int q2.1, .int x4, .ref 66]) (σ1 := q2.2) (by decide +kernel) rfl (fun hC => ?_)
    refine jE_call (as := [.ref 66, .int x4, .int q2.1]) (pc1 := 25) (st1 := []) hC rfl (by decide) (by omega) (xI_put (d - 1) 66 1201 x4 q2.1 q2.2 (by decide) rfl rfl) ?_
    refine jE_blk (bs := [(.aload_n 0, 0, 0), (.getfield 30, 7, 0), (.iload 4, 0, 0)]) (i := .invokevirtual 128) (a1 := 33) (a2 := 0) (pc1 := 31) (l1 := [(0, .ref 7), (1, .int x1), (3, .int x3), (4, .int x4)]) (st1 := [.int x4, .ref 3]) (σ1 := (jI_put 1201 q2.2 67 x4 q2.1)) (by decide +kernel) rfl (fun hC => ?_)
    refine jE_call (as := [.ref 3, .int x4]) (pc1 := 34) (st1 := []) hC rfl (by decide) (by omega) (xv_cTre_boundBy (d - 1) (by omega) x4 (jI_put 1201 q2.2 67 x4 q2.1)) ?_
    refine jE_blk (bs := [(.istore 5, 6, 0), (.iload 5, 0, 0), (.iconst (-1), 1, 1)]) (i := .if_icmp .eq (21)) (a1 := 0) (a2 := 0) (pc1 := 39) (l1 := [(5, .int (v_cTre_boundBy x4 (jI_put 1201 q2.2 67 x4 q2.1))), (0, .ref 7), (1, .int x1), (3, .int x3), (4, .int x4)]) (st1 := [.int (-1 : Int32), .int (v_cTre_boundBy x4 (jI_put 1201 q2.2 67 x4 q2.1))]) (σ1 := (jI_put 1201 q2.2 67 x4 q2.1)) (by decide +kernel) rfl (fun hC => ?_)
    rcases Classical.em ((v_cTre_boundBy x4 (jI_put 1201 q2.2 67 x4 q2.1)) = (-1 : Int32)) with hc | hc
    · rw [if_pos hc] at h
      refine jE_icT 60 hC (by decide) hc ?_
      exact jE_loc (l := [(0, .ref 7), (1, .int x1), (3, .int x3), (4, .int x4)]) (ks := [0, 1, 3, 4]) rfl (by decide) ⟨rfl, rfl, rfl, rfl, trivial⟩ (x_cAna_pointBetween_60 d hd x1 x3 x4 (jI_put 1201 q2.2 67 x4 q2.1) _ res h hK)
    · rw [if_neg hc] at h
      refine jE_icF 60 hC (by decide) hc ?_
      refine jE_blk (bs := [(.aload_n 0, 0, 0), (.getfield 27, 7, 5), (.iload 5, 0, 0), (.aload_n 0, 0, 0), (.getfield 24, 7, 4), (.iload 4, 0, 0)]) (i := .invokevirtual 73) (a1 := 136) (a2 := 0) (pc1 := 54) (l1 := [(5, .int (v_cTre_boundBy x4 (jI_put 1201 q2.2 67 x4 q2.1))), (0, .ref 7), (1, .int x1), (3, .int x3), (4, .int x4)]) (st1 := [.int x4, .ref 66, .int (v_cTre_boundBy x4 (jI_put 1201 q2.2 67 x4 q2.1)), .ref 68]) (σ1 := (jI_put 1201 q2.2 67 x4 q2.1)) (by decide +kernel) rfl (fun hC => ?_)
      refine jE_call (as := [.ref 66, .int x4]) (pc1 := 57) (st1 := [.int (v_cTre_boundBy x4 (jI_put 1201 q2.2 67 x4 q2.1)), .ref 68]) hC rfl (by decide) (by omega) (xI_at (d - 1) 66 1201 x4 (jI_put 1201 q2.2 67 x4 q2.1) (by decide) rfl rfl) ?_
      refine jE_blk (bs := []) (i := .invokevirtual 63) (a1 := 137) (a2 := 0) (pc1 := 57) (l1 := [(5, .int (v_cTre_boundBy x4 (jI_put 1201 q2.2 67 x4 q2.1))), (0, .ref 7), (1, .int x1), (3, .int x3), (4, .int x4)]) (st1 := [.int (jI_at 1201 (jI_up 1201 (q2.2.1 67) x4 q2.1) x4), .int (v_cTre_boundBy x4 (jI_put 1201 q2.2 67 x4 q2.1)), .ref 68]) (σ1 := (jI_put 1201 q2.2 67 x4 q2.1)) (by decide +kernel) rfl (fun hC => ?_)
      refine jE_call (as := [.ref 68, .int (v_cTre_boundBy x4 (jI_put 1201 q2.2 67 x4 q2.1)), .int (jI_at 1201 (jI_up 1201 (q2.2.1 67) x4 q2.1) x4)]) (pc1 := 60) (st1 := []) hC rfl (by decide) (by omega) (xI_put (d - 1) 68 30 (v_cTre_boundBy x4 (jI_put 1201 q2.2 67 x4 q2.1)) (jI_at 1201 (jI_up 1201 (q2.2.1 67) x4 q2.1) x4) (jI_put 1201 q2.2 67 x4 q2.1) (by decide) rfl rfl) ?_
      exact jE_loc (l := [(0, .ref 7), (1, .int x1), (3, .int x3), (4, .int x4)]) (ks := [0, 1, 3, 4]) rfl (by decide) ⟨rfl, rfl, rfl, rfl, trivial⟩ (x_cAna_pointBetween_60 d hd x1 x3 x4 (jI_put 30 (jI_put 1201 q2.2 67 x4 q2.1) 69 (v_cTre_boundBy x4 (jI_put 1201 q2.2 67 x4 q2.1)) (jI_at 1201 (jI_up 1201 (q2.2.1 67) x4 q2.1) x4)) _ res h hK)
def p_cAna_pointBetween_3 (x1 : Int32) (x3 : Int32) (x4 : Int32) (σ : jx_S) : Option (Int32 × jx_S) := jx_loop 100000000 (fun s => p_cAna_pointBetween_3_s s.1 s.2.1 s.2.2.1 (s.2.2.2)) (x1, x3, x4, σ)
theorem x_cAna_pointBetween_3 (d : Nat) (hd : 4 ≤ d) (x1 : Int32) (x3 : Int32) (x4 : Int32) (σ : jx_S) (t : (Int32 × jx_S)) (res : Option Value × jx_S) (h : p_cAna_pointBetween_3 x1 x3 x4 σ = some t) (hK : kkI t res) : jE d 94 3 [(0, .ref 7), (1, .int x1), (3, .int x3), (4, .int x4)] [] σ res := by
  refine jx_loop_ok (E := fun s t => ∀ res, kkI t res → jE d 94 3 [(0, .ref 7), (1, .int s.1), (3, .int s.2.1), (4, .int s.2.2.1)] [] s.2.2.2 res) (fun s t hs => ?_) _ _ _ h res hK
  cases t with
  | inl s1 => exact fun b hb res hk => x_cAna_pointBetween_3_s d hd (s.1) (s.2.1) (s.2.2.1) (s.2.2.2) _ res hs (hb res hk)
  | inr b => exact fun res hk => x_cAna_pointBetween_3_s d hd (s.1) (s.2.1) (s.2.2.1) (s.2.2.2) _ res hs hk
def p_cAna_pointBetween (x1 : Int32) (x2 : Int32) (x3 : Int32) (σ : jx_S) : Option (Int32 × jx_S) := (p_cAna_pointBetween_3 x1 x3 x2 σ)
theorem x_cAna_pointBetween (d : Nat) (hd : 4 ≤ d) (x1 : Int32) (x2 : Int32) (x3 : Int32) (σ : jx_S) (t : (Int32 × jx_S)) (res : Option Value × jx_S) (h : p_cAna_pointBetween x1 x2 x3 σ = some t) (hK : kkI t res) : jE d 94 0 [(0, .ref 7), (1, .int x1), (2, .int x2), (3, .int x3)] [] σ res := by
  unfold p_cAna_pointBetween at h
  refine jE_blk (bs := [(.iload_n 2, 0, 0), (.istore 4, 6, 0)]) (i := .iload 4) (a1 := 0) (a2 := 0) (pc1 := 3) (l1 := [(4, .int x2), (0, .ref 7), (1, .int x1), (2, .int x2), (3, .int x3)]) (st1 := []) (σ1 := σ) (by decide +kernel) rfl (fun hC => ?_)
  exact jE_loc (l := [(0, .ref 7), (1, .int x1), (3, .int x3), (4, .int x2)]) (ks := [0, 1, 3, 4]) rfl (by decide) ⟨rfl, rfl, rfl, rfl, trivial⟩ (x_cAna_pointBetween_3 d hd x1 x3 x2 σ _ res h hK)
def kk_cAna_raiseCases_4 (d : Nat) (t : ((Int32 × Int32 × Int32 × jx_S) ⊕ (Int32 × jx_S))) (res : Option Value × jx_S) : Prop := match t with
  | .inl s => jE d 91 4 [(0, .ref 7), (1, .int s.1), (2, .int s.2.1), (3, .int s.2.2.1)] [] s.2.2.2 res
  | .inr t => kkI t res
def p_cAna_raiseCases_92 (x1 : Int32) (x2 : Int32) (x3 : Int32) (σ : jx_S) : Option ((Int32 × Int32 × Int32 × jx_S) ⊕ (Int32 × jx_S)) := (some (.inl (x1, x2, (x3 + 1), σ)))
theorem x_cAna_raiseCases_92 (d : Nat) (hd : 5 ≤ d) (x1 : Int32) (x2 : Int32) (x3 : Int32) (σ : jx_S) (t : ((Int32 × Int32 × Int32 × jx_S) ⊕ (Int32 × jx_S))) (res : Option Value × jx_S) (h : p_cAna_raiseCases_92 x1 x2 x3 σ = some t) (hK : kk_cAna_raiseCases_4 d t res) : jE d 91 92 [(0, .ref 7), (1, .int x1), (2, .int x2), (3, .int x3)] [] σ res := by
  unfold p_cAna_raiseCases_92 at h
  refine jE_blk (bs := [(.iinc 3 (1), 5, 2), (.goto (-91), 0, 0)]) (i := .iload_n 3) (a1 := 0) (a2 := 0) (pc1 := 4) (l1 := [(3, .int (x3 + 1)), (0, .ref 7), (1, .int x1), (2, .int x2)]) (st1 := []) (σ1 := σ) (by decide +kernel) rfl (fun hC => ?_)
  have h9 := Option.some.inj h
  subst h9
  exact jE_loc (l := [(0, .ref 7), (1, .int x1), (2, .int x2), (3, .int (x3 + 1))]) (ks := [0, 1, 2, 3]) rfl (by decide) ⟨rfl, rfl, rfl, rfl, trivial⟩ hK
def p_cAna_raiseCases_4_s (x1 : Int32) (x2 : Int32) (x3 : Int32) (σ : jx_S) : Option ((Int32 × Int32 × Int32 × jx_S) ⊕ (Int32 × jx_S)) := (if (jI_at 40 (σ.1 53) x1) ≤ x3 then (Option.map Sum.inr (if x2 = 0 ∨ x2 = 1 then (some ((x2, σ))) else none)) else (if ¬ (jI_at 40000 (σ.1 63) ((x1 * (1000 : Int32)) + x3)) = 0 then (p_cAna_raiseCases_92 x1 x2 x3 σ) else ((p_cAna_bindCase x1 x3 σ).bind fun q2 => ((p_cAna_pointBetween x1 (jI_at 40 (q2.1 49) x1) (jI_at 40 (q2.1 51) x1) q2).bind fun q3 => (if ¬ q3.1 = (1 : Int32) then (p_cAna_raiseCases_92 x1 x2 x3 q3.2) else (p_cAna_raiseCases_92 x1 (1 : Int32) x3 (jI_put 40000 q3.2 63 ((x1 * (1000 : Int32)) + x3) (q3.2.1 7 6))))))))
theorem x_cAna_raiseCases_4_s (d : Nat) (hd : 5 ≤ d) (x1 : Int32) (x2 : Int32) (x3 : Int32) (σ : jx_S) (t : ((Int32 × Int32 × Int32 × jx_S) ⊕ (Int32 × jx_S))) (res : Option Value × jx_S) (h : p_cAna_raiseCases_4_s x1 x2 x3 σ = some t) (hK : kk_cAna_raiseCases_4 d t res) : jE d 91 4 [(0, .ref 7), (1, .int x1), (2, .int x2), (3, .int x3)] [] σ res := by
  unfold p_cAna_raiseCases_4_s at h
  refine jE_blk (bs := [(.iload_n 3, 0, 0), (.aload_n 0, 0, 0), (.getfield 34, 7, 1), (.getfield 91, 4, 6), (.iload_n 1, 0, 0)]) (i := .invokevirtual 73) (a1 := 136) (a2 := 0) (pc1 := 13) (l1 := [(0, .ref 7), (1, .int x1), (2, .int x2), (3, .int x3)]) (st1 := [.int x1, .ref 52, .int x3]) (σ1 := σ) (by decide +kernel) rfl (fun hC => ?_)
  refine jE_call (as := [.ref 52, .int x1]) (pc1 := 16) (st1 := [.int x3]) hC rfl (by decide) (by omega) (xI_at (d - 1) 52 40 x1 σ (by decide) rfl rfl) ?_
  refine jE_blk (bs := []) (i := .if_icmp .ge (82)) (a1 := 0) (a2 := 0) (pc1 := 16) (l1 := [(0, .ref 7), (1, .int x1), (2, .int x2), (3, .int x3)]) (st1 := [.int (jI_at 40 (σ.1 53) x1), .int x3]) (σ1 := σ) (by decide +kernel) rfl (fun hC => ?_)
  rcases Classical.em ((jI_at 40 (σ.1 53) x1) ≤ x3) with hc | hc
  · rw [if_pos hc] at h
    refine jE_icT 98 hC (by decide) hc ?_
    obtain ⟨t9_1, h9_1, h8_1⟩ := Option.map_eq_some_iff.mp h
    clear h
    subst h8_1
    have h := h9_1
    clear h9_1
    refine jE_blk (bs := [(.iload_n 2, 0, 0)]) (i := .ireturn) (a1 := 1) (a2 := 0) (pc1 := 99) (l1 := [(0, .ref 7), (1, .int x1), (2, .int x2), (3, .int x3)]) (st1 := [.int x2]) (σ1 := σ) (by decide +kernel) rfl (fun hC => ?_)
    obtain ⟨hb, h⟩ := jx_ite_inv h
    have h9 := Option.some.inj h
    subst h9
    have e9 : ((some (.int x2), σ) : Option Value × jx_S) = res := hK
    subst e9
    exact jE_bret hC hb
  · rw [if_neg hc] at h
    refine jE_icF 98 hC (by decide) hc ?_
    refine jE_blk (bs := [(.iload_n 1, 0, 0), (.sipush (1000), 1000, 0), (.imul, 0, 0), (.iload_n 3, 0, 0), (.iadd, 0, 0), (.istore 4, 5, 0), (.aload_n 0, 0, 0), (.getfield 15, 7, 2), (.iload 4, 0, 0)]) (i := .invokevirtual 73) (a1 := 136) (a2 := 0) (pc1 := 34) (l1 := [(4, .int ((x1 * (1000 : Int32)) + x3)), (0, .ref 7), (1, .int x1), (2, .int x2), (3, .int x3)]) (st1 := [.int ((x1 * (1000 : Int32)) + x3), .ref 62]) (σ1 := σ) (by decide +kernel) rfl (fun hC => ?_)
    refine jE_call (as := [.ref 62, .int ((x1 * (1000 : Int32)) + x3)]) (pc1 := 37) (st1 := []) hC rfl (by decide) (by omega) (xI_at (d - 1) 62 40000 ((x1 * (1000 : Int32)) + x3) σ (by decide) rfl rfl) ?_
    refine jE_blk (bs := []) (i := .ifCond .ne (55)) (a1 := 0) (a2 := 0) (pc1 := 37) (l1 := [(4, .int ((x1 * (1000 : Int32)) + x3)), (0, .ref 7), (1, .int x1), (2, .int x2), (3, .int x3)]) (st1 := [.int (jI_at 40000 (σ.1 63) ((x1 * (1000 : Int32)) + x3))]) (σ1 := σ) (by decide +kernel) rfl (fun hC => ?_)
    rcases Classical.em (¬ (jI_at 40000 (σ.1 63) ((x1 * (1000 : Int32)) + x3)) = 0) with hc | hc
    · rw [if_pos hc] at h
      refine jE_ifT 92 hC (by decide) hc ?_
      exact jE_loc (l := [(0, .ref 7), (1, .int x1), (2, .int x2), (3, .int x3)]) (ks := [0, 1, 2, 3]) rfl (by decide) ⟨rfl, rfl, rfl, rfl, trivial⟩ (x_cAna_raiseCases_92 d hd x1 x2 x3 σ _ res h hK)
    · rw [if_neg hc] at h
      refine jE_ifF 92 hC (by decide) hc ?_
      refine jE_blk (bs := [(.aload_n 0, 0, 0), (.iload_n 1, 0, 0), (.iload_n 3, 0, 0)]) (i := .invokevirtual 97) (a1 := 92) (a2 := 0) (pc1 := 43) (l1 := [(4, .int ((x1 * (1000 : Int32)) + x3)), (0, .ref 7), (1, .int x1), (2, .int x2), (3, .int x3)]) (st1 := [.int x3, .int x1, .ref 7]) (σ1 := σ) (by decide +kernel) rfl (fun hC => ?_)
      obtain ⟨q2, hq, h⟩ := Option.bind_eq_some_iff.mp h
      refine jE_call (as := [.ref 7, .int x1, .int x3]) (pc1 := 46) (st1 := []) hC rfl (by decide) (by omega) (x_cAna_bindCase (d - 1) (by omega) x1 x3 σ q2 (none, q2) hq rfl) ?_
      refine jE_blk (bs := [(.aload_n 0, 0, 0), (.iload_n 1, 0, 0), (.aload_n 0, 0, 0), (.getfield 34, 7, 1), (.getfield 77, 4, 4), (.iload_n 1, 0, 0)]) (i := .invokevirtual 73) (a1 := 136) (a2 := 0) (pc1 := 56) (l1 := [(4, .int ((x1 * (1000 : Int32)) + x3)), (0, .ref 7), (1, .int x1), (2, .int x2), (3, .int x3)]) (st1 := [.int x1, .ref 48, .int x1, .ref 7]) (σ1 := q2) (by decide +kernel) rfl (fun hC => ?_)
      refine jE_call (as := [.ref 48, .int x1]) (pc1 := 59) (st1 := [.int x1, .ref 7]) hC rfl (by decide) (by omega) (xI_at (d - 1) 48 40 x1 q2 (by decide) rfl rfl) ?_
      refine jE_blk (bs := [(.aload_n 0, 0, 0), (.getfield 34, 7, 1), (.getfield 80, 4, 5), (.iload_n 1, 0, 0)]) (i := .invokevirtual 73) (a1 := 136) (a2 := 0) (pc1 := 67) (l1 := [(4, .int ((x1 * (1000 : Int32)) + x3)), (0, .ref 7), (1, .int x1), (2, .int x2), (3, .int x3)]) (st1 := [.int x1, .ref 50, .int (jI_at 40 (q2.1 49) x1), .int x1, .ref 7]) (σ1 := q2) (by decide +kernel) rfl (fun hC => ?_)
      refine jE_call (as := [.ref 50, .int x1]) (pc1 := 70) (st1 := [.int (jI_at 40 (q2.1 49) x1), .int x1, .ref 7]) hC rfl (by decide) (by omega) (xI_at (d - 1) 50 40 x1 q2 (by decide) rfl rfl) ?_
      refine jE_blk (bs := []) (i := .invokevirtual 100) (a1 := 94) (a2 := 0) (pc1 := 70) (l1 := [(4, .int ((x1 * (1000 : Int32)) + x3)), (0, .ref 7), (1, .int x1), (2, .int x2), (3, .int x3)]) (st1 := [.int (jI_at 40 (q2.1 51) x1), .int (jI_at 40 (q2.1 49) x1), .int x1, .ref 7]) (σ1 := q2) (by decide +kernel) rfl (fun hC => ?_)
      obtain ⟨q3, hq, h⟩ := Option.bind_eq_some_iff.mp h
      refine jE_call (as := [.ref 7, .int x1, .int (jI_at 40 (q2.1 49) x1), .int (jI_at 40 (q2.1 51) x1)]) (pc1 := 73) (st1 := []) hC rfl (by decide) (by omega) (x_cAna_pointBetween (d - 1) (by omega) x1 (jI_at 40 (q2.1 49) x1) (jI_at 40 (q2.1 51) x1) q2 q3 (some (.int q3.1), q3.2) hq rfl) ?_
      refine jE_blk (bs := [(.iconst (1), 1, 0)]) (i := .if_icmp .ne (18)) (a1 := 0) (a2 := 0) (pc1 := 74) (l1 := [(4, .int ((x1 * (1000 : Int32)) + x3)), (0, .ref 7), (1, .int x1), (2, .int x2), (3, .int x3)]) (st1 := [.int (1 : Int32), .int q3.1]) (σ1 := q3.2) (by decide +kernel) rfl (fun hC => ?_)
      rcases Classical.em (¬ q3.1 = (1 : Int32)) with hc | hc
      · rw [if_pos hc] at h
        refine jE_icT 92 hC (by decide) hc ?_
        exact jE_loc (l := [(0, .ref 7), (1, .int x1), (2, .int x2), (3, .int x3)]) (ks := [0, 1, 2, 3]) rfl (by decide) ⟨rfl, rfl, rfl, rfl, trivial⟩ (x_cAna_raiseCases_92 d hd x1 x2 x3 q3.2 _ res h hK)
      · rw [if_neg hc] at h
        refine jE_icF 92 hC (by decide) hc ?_
        refine jE_blk (bs := [(.aload_n 0, 0, 0), (.getfield 15, 7, 2), (.iload 4, 0, 0), (.aload_n 0, 0, 0), (.getfield 47, 7, 6)]) (i := .invokevirtual 63) (a1 := 137) (a2 := 0) (pc1 := 87) (l1 := [(4, .int ((x1 * (1000 : Int32)) + x3)), (0, .ref 7), (1, .int x1), (2, .int x2), (3, .int x3)]) (st1 := [.int (q3.2.1 7 6), .int ((x1 * (1000 : Int32)) + x3), .ref 62]) (σ1 := q3.2) (by decide +kernel) rfl (fun hC => ?_)
        refine jE_call (as := [.ref 62, .int ((x1 * (1000 : Int32)) + x3), .int (q3.2.1 7 6)]) (pc1 := 90) (st1 := []) hC rfl (by decide) (by omega) (xI_put (d - 1) 62 40000 ((x1 * (1000 : Int32)) + x3) (q3.2.1 7 6) q3.2 (by decide) rfl rfl) ?_
        refine jE_blk (bs := [(.iconst (1), 1, 0), (.istore_n 2, 5, 0)]) (i := .iinc 3 (1)) (a1 := 5) (a2 := 2) (pc1 := 92) (l1 := [(2, .int (1 : Int32)), (4, .int ((x1 * (1000 : Int32)) + x3)), (0, .ref 7), (1, .int x1), (3, .int x3)]) (st1 := []) (σ1 := (jI_put 40000 q3.2 63 ((x1 * (1000 : Int32)) + x3) (q3.2.1 7 6))) (by decide +kernel) rfl (fun hC => ?_)
        exact jE_loc (l := [(0, .ref 7), (1, .int x1), (2, .int (1 : Int32)), (3, .int x3)]) (ks := [0, 1, 2, 3]) rfl (by decide) ⟨rfl, rfl, rfl, rfl, trivial⟩ (x_cAna_raiseCases_92 d hd x1 (1 : Int32) x3 (jI_put 40000 q3.2 63 ((x1 * (1000 : Int32)) + x3) (q3.2.1 7 6)) _ res h hK)
def p_cAna_raiseCases_4 (x1 : Int32) (x2 : Int32) (x3 : Int32) (σ : jx_S) : Option (Int32 × jx_S) := jx_loop 100000000 (fun s => p_cAna_raiseCases_4_s s.1 s.2.1 s.2.2.1 (s.2.2.2)) (x1, x2, x3, σ)
theorem x_cAna_raiseCases_4 (d : Nat) (hd : 5 ≤ d) (x1 : Int32) (x2 : Int32) (x3 : Int32) (σ : jx_S) (t : (Int32 × jx_S)) (res : Option Value × jx_S) (h : p_cAna_raiseCases_4 x1 x2 x3 σ = some t) (hK : kkI t res) : jE d 91 4 [(0, .ref 7), (1, .int x1), (2, .int x2), (3, .int x3)] [] σ res := by
  refine jx_loop_ok (E := fun s t => ∀ res, kkI t res → jE d 91 4 [(0, .ref 7), (1, .int s.1), (2, .int s.2.1), (3, .int s.2.2.1)] [] s.2.2.2 res) (fun s t hs => ?_) _ _ _ h res hK
  cases t with
  | inl s1 => exact fun b hb res hk => x_cAna_raiseCases_4_s d hd (s.1) (s.2.1) (s.2.2.1) (s.2.2.2) _ res hs (hb res hk)
  | inr b => exact fun res hk => x_cAna_raiseCases_4_s d hd (s.1) (s.2.1) (s.2.2.1) (s.2.2.2) _ res hs hk
def p_cAna_raiseCases (x1 : Int32) (σ : jx_S) : Option (Int32 × jx_S) := (p_cAna_raiseCases_4 x1 (0 : Int32) (0 : Int32) σ)
theorem x_cAna_raiseCases (d : Nat) (hd : 5 ≤ d) (x1 : Int32) (σ : jx_S) (t : (Int32 × jx_S)) (res : Option Value × jx_S) (h : p_cAna_raiseCases x1 σ = some t) (hK : kkI t res) : jE d 91 0 [(0, .ref 7), (1, .int x1)] [] σ res := by
  unfold p_cAna_raiseCases at h
  refine jE_blk (bs := [(.iconst (0), 0, 0), (.istore_n 2, 5, 0), (.iconst (0), 0, 0), (.istore_n 3, 5, 0)]) (i := .iload_n 3) (a1 := 0) (a2 := 0) (pc1 := 4) (l1 := [(3, .int (0 : Int32)), (2, .int (0 : Int32)), (0, .ref 7), (1, .int x1)]) (st1 := []) (σ1 := σ) (by decide +kernel) rfl (fun hC => ?_)
  exact jE_loc (l := [(0, .ref 7), (1, .int x1), (2, .int (0 : Int32)), (3, .int (0 : Int32))]) (ks := [0, 1, 2, 3]) rfl (by decide) ⟨rfl, rfl, rfl, rfl, trivial⟩ (x_cAna_raiseCases_4 d hd x1 (0 : Int32) (0 : Int32) σ _ res h hK)
def kk_cAna_caseWithout_5 (d : Nat) (t : ((Int32 × Int32 × Int32 × Int32 × jx_S) ⊕ (Int32 × jx_S))) (res : Option Value × jx_S) : Prop := match t with
  | .inl s => jE d 102 5 [(0, .ref 7), (1, .int s.1), (2, .int s.2.1), (3, .int s.2.2.1), (4, .int s.2.2.2.1)] [] s.2.2.2.2 res
  | .inr t => kkI t res
def p_cAna_caseWithout_54 (x1 : Int32) (x2 : Int32) (x4 : Int32) (y0 : Int32) (y1 : Int32) (σ : jx_S) : Option ((Int32 × Int32 × Int32 × Int32 × jx_S) ⊕ (Int32 × jx_S)) := (some (.inl (x1, x2, (y1 + y0), (x4 + 1), σ)))
theorem x_cAna_caseWithout_54 (d : Nat) (hd : 2 ≤ d) (x1 : Int32) (x2 : Int32) (x4 : Int32) (y0 : Int32) (y1 : Int32) (σ : jx_S) (t : ((Int32 × Int32 × Int32 × Int32 × jx_S) ⊕ (Int32 × jx_S))) (res : Option Value × jx_S) (h : p_cAna_caseWithout_54 x1 x2 x4 y0 y1 σ = some t) (hK : kk_cAna_caseWithout_5 d t res) : jE d 102 54 [(0, .ref 7), (1, .int x1), (2, .int x2), (4, .int x4)] [.int y0, .int y1] σ res := by
  unfold p_cAna_caseWithout_54 at h
  refine jE_blk (bs := [(.iadd, 0, 0), (.istore_n 3, 6, 0), (.iinc 4 (1), 6, 2), (.goto (-54), 0, 0)]) (i := .iload 4) (a1 := 0) (a2 := 0) (pc1 := 5) (l1 := [(4, .int (x4 + 1)), (3, .int (y1 + y0)), (0, .ref 7), (1, .int x1), (2, .int x2)]) (st1 := []) (σ1 := σ) (by decide +kernel) rfl (fun hC => ?_)
  have h9 := Option.some.inj h
  subst h9
  exact jE_loc (l := [(0, .ref 7), (1, .int x1), (2, .int x2), (3, .int (y1 + y0)), (4, .int (x4 + 1))]) (ks := [0, 1, 2, 3, 4]) rfl (by decide) ⟨rfl, rfl, rfl, rfl, rfl, trivial⟩ hK
def p_cAna_caseWithout_5_s (x1 : Int32) (x2 : Int32) (x3 : Int32) (x4 : Int32) (σ : jx_S) : Option ((Int32 × Int32 × Int32 × Int32 × jx_S) ⊕ (Int32 × jx_S)) := (if (jI_at 40 (σ.1 43) x1) ≤ x4 then (Option.map Sum.inr (some ((x3, σ)))) else (if ¬ x4 = x2 then (p_cAna_caseWithout_54 x1 x2 x4 ((v_cTyp_pointsOf (v_cFun_typeOf x1 x4 σ) σ) - (1 : Int32)) (x3 * (v_cTyp_pointsOf (v_cFun_typeOf x1 x4 σ) σ)) σ) else (p_cAna_caseWithout_54 x1 x2 x4 (0 : Int32) (x3 * (v_cTyp_pointsOf (v_cFun_typeOf x1 x4 σ) σ)) σ)))
theorem x_cAna_caseWithout_5_s (d : Nat) (hd : 2 ≤ d) (x1 : Int32) (x2 : Int32) (x3 : Int32) (x4 : Int32) (σ : jx_S) (t : ((Int32 × Int32 × Int32 × Int32 × jx_S) ⊕ (Int32 × jx_S))) (res : Option Value × jx_S) (h : p_cAna_caseWithout_5_s x1 x2 x3 x4 σ = some t) (hK : kk_cAna_caseWithout_5 d t res) : jE d 102 5 [(0, .ref 7), (1, .int x1), (2, .int x2), (3, .int x3), (4, .int x4)] [] σ res := by
  unfold p_cAna_caseWithout_5_s at h
  refine jE_blk (bs := [(.iload 4, 0, 0), (.aload_n 0, 0, 0), (.getfield 34, 7, 1), (.getfield 107, 4, 1), (.iload_n 1, 0, 0)]) (i := .invokevirtual 73) (a1 := 136) (a2 := 0) (pc1 := 15) (l1 := [(0, .ref 7), (1, .int x1), (2, .int x2), (3, .int x3), (4, .int x4)]) (st1 := [.int x1, .ref 42, .int x4]) (σ1 := σ) (by decide +kernel) rfl (fun hC => ?_)
  refine jE_call (as := [.ref 42, .int x1]) (pc1 := 18) (st1 := [.int x4]) hC rfl (by decide) (by omega) (xI_at (d - 1) 42 40 x1 σ (by decide) rfl rfl) ?_
  refine jE_blk (bs := []) (i := .if_icmp .ge (44)) (a1 := 0) (a2 := 0) (pc1 := 18) (l1 := [(0, .ref 7), (1, .int x1), (2, .int x2), (3, .int x3), (4, .int x4)]) (st1 := [.int (jI_at 40 (σ.1 43) x1), .int x4]) (σ1 := σ) (by decide +kernel) rfl (fun hC => ?_)
  rcases Classical.em ((jI_at 40 (σ.1 43) x1) ≤ x4) with hc | hc
  · rw [if_pos hc] at h
    refine jE_icT 62 hC (by decide) hc ?_
    obtain ⟨t9_1, h9_1, h8_1⟩ := Option.map_eq_some_iff.mp h
    clear h
    subst h8_1
    have h := h9_1
    clear h9_1
    refine jE_blk (bs := [(.iload_n 3, 0, 0)]) (i := .ireturn) (a1 := 0) (a2 := 0) (pc1 := 63) (l1 := [(0, .ref 7), (1, .int x1), (2, .int x2), (3, .int x3), (4, .int x4)]) (st1 := [.int x3]) (σ1 := σ) (by decide +kernel) rfl (fun hC => ?_)
    have h9 := Option.some.inj h
    subst h9
    have e9 : ((some (.int x3), σ) : Option Value × jx_S) = res := hK
    subst e9
    exact jE_ret hC rfl
  · rw [if_neg hc] at h
    refine jE_icF 62 hC (by decide) hc ?_
    refine jE_blk (bs := [(.aload_n 0, 0, 0), (.getfield 34, 7, 1), (.iload_n 1, 0, 0), (.iload 4, 0, 0)]) (i := .invokevirtual 110) (a1 := 40) (a2 := 0) (pc1 := 28) (l1 := [(0, .ref 7), (1, .int x1), (2, .int x2), (3, .int x3), (4, .int x4)]) (st1 := [.int x4, .int x1, .ref 4]) (σ1 := σ) (by decide +kernel) rfl (fun hC => ?_)
    refine jE_call (as := [.ref 4, .int x1, .int x4]) (pc1 := 31) (st1 := []) hC rfl (by decide) (by omega) (xv_cFun_typeOf (d - 1) (by omega) x1 x4 σ) ?_
    refine jE_blk (bs := []) (i := .invokestatic 114) (a1 := 83) (a2 := 0) (pc1 := 31) (l1 := [(0, .ref 7), (1, .int x1), (2, .int x2), (3, .int x3), (4, .int x4)]) (st1 := [.int (v_cFun_typeOf x1 x4 σ)]) (σ1 := σ) (by decide +kernel) rfl (fun hC => ?_)
    refine jE_call (as := [.int (v_cFun_typeOf x1 x4 σ)]) (pc1 := 34) (st1 := []) hC rfl (by decide) (by omega) (xv_cTyp_pointsOf (d - 1) (by omega) (v_cFun_typeOf x1 x4 σ) σ) ?_
    refine jE_blk (bs := [(.istore 5, 6, 0), (.iload_n 3, 0, 0), (.iload 5, 0, 0), (.imul, 0, 0), (.iload 4, 0, 0), (.iload_n 2, 0, 0)]) (i := .if_icmp .ne (7)) (a1 := 0) (a2 := 0) (pc1 := 43) (l1 := [(5, .int (v_cTyp_pointsOf (v_cFun_typeOf x1 x4 σ) σ)), (0, .ref 7), (1, .int x1), (2, .int x2), (3, .int x3), (4, .int x4)]) (st1 := [.int x2, .int x4, .int (x3 * (v_cTyp_pointsOf (v_cFun_typeOf x1 x4 σ) σ))]) (σ1 := σ) (by decide +kernel) rfl (fun hC => ?_)
    rcases Classical.em (¬ x4 = x2) with hc | hc
    · rw [if_pos hc] at h
      refine jE_icT 50 hC (by decide) hc ?_
      refine jE_blk (bs := [(.iload 5, 0, 0), (.iconst (1), 1, 0), (.isub, 0, 0)]) (i := .iadd) (a1 := 0) (a2 := 0) (pc1 := 54) (l1 := [(5, .int (v_cTyp_pointsOf (v_cFun_typeOf x1 x4 σ) σ)), (0, .ref 7), (1, .int x1), (2, .int x2), (3, .int x3), (4, .int x4)]) (st1 := [.int ((v_cTyp_pointsOf (v_cFun_typeOf x1 x4 σ) σ) - (1 : Int32)), .int (x3 * (v_cTyp_pointsOf (v_cFun_typeOf x1 x4 σ) σ))]) (σ1 := σ) (by decide +kernel) rfl (fun hC => ?_)
      exact jE_loc (l := [(0, .ref 7), (1, .int x1), (2, .int x2), (4, .int x4)]) (ks := [0, 1, 2, 4]) rfl (by decide) ⟨rfl, rfl, rfl, rfl, trivial⟩ (x_cAna_caseWithout_54 d hd x1 x2 x4 ((v_cTyp_pointsOf (v_cFun_typeOf x1 x4 σ) σ) - (1 : Int32)) (x3 * (v_cTyp_pointsOf (v_cFun_typeOf x1 x4 σ) σ)) σ _ res h hK)
    · rw [if_neg hc] at h
      refine jE_icF 50 hC (by decide) hc ?_
      refine jE_blk (bs := [(.iconst (0), 0, 0), (.goto (7), 0, 0)]) (i := .iadd) (a1 := 0) (a2 := 0) (pc1 := 54) (l1 := [(5, .int (v_cTyp_pointsOf (v_cFun_typeOf x1 x4 σ) σ)), (0, .ref 7), (1, .int x1), (2, .int x2), (3, .int x3), (4, .int x4)]) (st1 := [.int (0 : Int32), .int (x3 * (v_cTyp_pointsOf (v_cFun_typeOf x1 x4 σ) σ))]) (σ1 := σ) (by decide +kernel) rfl (fun hC => ?_)
      exact jE_loc (l := [(0, .ref 7), (1, .int x1), (2, .int x2), (4, .int x4)]) (ks := [0, 1, 2, 4]) rfl (by decide) ⟨rfl, rfl, rfl, rfl, trivial⟩ (x_cAna_caseWithout_54 d hd x1 x2 x4 (0 : Int32) (x3 * (v_cTyp_pointsOf (v_cFun_typeOf x1 x4 σ) σ)) σ _ res h hK)
def p_cAna_caseWithout_5 (x1 : Int32) (x2 : Int32) (x3 : Int32) (x4 : Int32) (σ : jx_S) : Option (Int32 × jx_S) := jx_loop 100000000 (fun s => p_cAna_caseWithout_5_s s.1 s.2.1 s.2.2.1 s.2.2.2.1 (s.2.2.2.2)) (x1, x2, x3, x4, σ)
theorem x_cAna_caseWithout_5 (d : Nat) (hd : 2 ≤ d) (x1 : Int32) (x2 : Int32) (x3 : Int32) (x4 : Int32) (σ : jx_S) (t : (Int32 × jx_S)) (res : Option Value × jx_S) (h : p_cAna_caseWithout_5 x1 x2 x3 x4 σ = some t) (hK : kkI t res) : jE d 102 5 [(0, .ref 7), (1, .int x1), (2, .int x2), (3, .int x3), (4, .int x4)] [] σ res := by
  refine jx_loop_ok (E := fun s t => ∀ res, kkI t res → jE d 102 5 [(0, .ref 7), (1, .int s.1), (2, .int s.2.1), (3, .int s.2.2.1), (4, .int s.2.2.2.1)] [] s.2.2.2.2 res) (fun s t hs => ?_) _ _ _ h res hK
  cases t with
  | inl s1 => exact fun b hb res hk => x_cAna_caseWithout_5_s d hd (s.1) (s.2.1) (s.2.2.1) (s.2.2.2.1) (s.2.2.2.2) _ res hs (hb res hk)
  | inr b => exact fun res hk => x_cAna_caseWithout_5_s d hd (s.1) (s.2.1) (s.2.2.1) (s.2.2.2.1) (s.2.2.2.2) _ res hs hk
def p_cAna_caseWithout (x1 : Int32) (x2 : Int32) (σ : jx_S) : Option (Int32 × jx_S) := (p_cAna_caseWithout_5 x1 x2 (0 : Int32) (0 : Int32) σ)
theorem x_cAna_caseWithout (d : Nat) (hd : 2 ≤ d) (x1 : Int32) (x2 : Int32) (σ : jx_S) (t : (Int32 × jx_S)) (res : Option Value × jx_S) (h : p_cAna_caseWithout x1 x2 σ = some t) (hK : kkI t res) : jE d 102 0 [(0, .ref 7), (1, .int x1), (2, .int x2)] [] σ res := by
  unfold p_cAna_caseWithout at h
  refine jE_blk (bs := [(.iconst (0), 0, 0), (.istore_n 3, 6, 0), (.iconst (0), 0, 0), (.istore 4, 6, 0)]) (i := .iload 4) (a1 := 0) (a2 := 0) (pc1 := 5) (l1 := [(4, .int (0 : Int32)), (3, .int (0 : Int32)), (0, .ref 7), (1, .int x1), (2, .int x2)]) (st1 := []) (σ1 := σ) (by decide +kernel) rfl (fun hC => ?_)
  exact jE_loc (l := [(0, .ref 7), (1, .int x1), (2, .int x2), (3, .int (0 : Int32)), (4, .int (0 : Int32))]) (ks := [0, 1, 2, 3, 4]) rfl (by decide) ⟨rfl, rfl, rfl, rfl, rfl, trivial⟩ (x_cAna_caseWithout_5 d hd x1 x2 (0 : Int32) (0 : Int32) σ _ res h hK)
def p_cFun_setStrict (x1 : Int32) (x2 : Int32) (σ : jx_S) : Option jx_S := (some ((jI_put 1200 σ 59 ((x1 * (30 : Int32)) + x2) (1 : Int32))))
theorem x_cFun_setStrict (d : Nat) (hd : 1 ≤ d) (x1 : Int32) (x2 : Int32) (σ : jx_S) (t : jx_S) (res : Option Value × jx_S) (h : p_cFun_setStrict x1 x2 σ = some t) (hK : kkV t res) : jE d 38 0 [(0, .ref 4), (1, .int x1), (2, .int x2)] [] σ res := by
  unfold p_cFun_setStrict at h
  refine jE_blk (bs := [(.aload_n 0, 0, 0), (.getfield 44, 4, 9), (.iload_n 1, 0, 0), (.bipush (30), 30, 0), (.imul, 0, 0), (.iload_n 2, 0, 0), (.iadd, 0, 0), (.iconst (1), 1, 0)]) (i := .invokevirtual 51) (a1 := 137) (a2 := 0) (pc1 := 11) (l1 := [(0, .ref 4), (1, .int x1), (2, .int x2)]) (st1 := [.int (1 : Int32), .int ((x1 * (30 : Int32)) + x2), .ref 58]) (σ1 := σ) (by decide +kernel) rfl (fun hC => ?_)
  refine jE_call (as := [.ref 58, .int ((x1 * (30 : Int32)) + x2), .int (1 : Int32)]) (pc1 := 14) (st1 := []) hC rfl (by decide) (by omega) (xI_put (d - 1) 58 1200 ((x1 * (30 : Int32)) + x2) (1 : Int32) σ (by decide) rfl rfl) ?_
  refine jE_blk (bs := []) (i := .return_) (a1 := 0) (a2 := 0) (pc1 := 14) (l1 := [(0, .ref 4), (1, .int x1), (2, .int x2)]) (st1 := []) (σ1 := (jI_put 1200 σ 59 ((x1 * (30 : Int32)) + x2) (1 : Int32))) (by decide +kernel) rfl (fun hC => ?_)
  have h9 := Option.some.inj h
  subst h9
  have e9 : ((none, (jI_put 1200 σ 59 ((x1 * (30 : Int32)) + x2) (1 : Int32))) : Option Value × jx_S) = res := hK
  subst e9
  exact jE_ret hC rfl
def kk_cAna_judgeParameters_2 (d : Nat) (t : ((Int32 × Int32 × jx_S) ⊕ jx_S)) (res : Option Value × jx_S) : Prop := match t with
  | .inl s => jE d 101 2 [(0, .ref 7), (1, .int s.1), (2, .int s.2.1)] [] s.2.2 res
  | .inr t => kkV t res
def p_cAna_judgeParameters_55 (x1 : Int32) (x2 : Int32) (σ : jx_S) : Option ((Int32 × Int32 × jx_S) ⊕ jx_S) := (some (.inl (x1, (x2 + 1), σ)))
theorem x_cAna_judgeParameters_55 (d : Nat) (hd : 3 ≤ d) (x1 : Int32) (x2 : Int32) (σ : jx_S) (t : ((Int32 × Int32 × jx_S) ⊕ jx_S)) (res : Option Value × jx_S) (h : p_cAna_judgeParameters_55 x1 x2 σ = some t) (hK : kk_cAna_judgeParameters_2 d t res) : jE d 101 55 [(0, .ref 7), (1, .int x1), (2, .int x2)] [] σ res := by
  unfold p_cAna_judgeParameters_55 at h
  refine jE_blk (bs := [(.iinc 2 (1), 3, 2), (.goto (-56), 0, 0)]) (i := .iload_n 2) (a1 := 0) (a2 := 0) (pc1 := 2) (l1 := [(2, .int (x2 + 1)), (0, .ref 7), (1, .int x1)]) (st1 := []) (σ1 := σ) (by decide +kernel) rfl (fun hC => ?_)
  have h9 := Option.some.inj h
  subst h9
  exact jE_loc (l := [(0, .ref 7), (1, .int x1), (2, .int (x2 + 1))]) (ks := [0, 1, 2]) rfl (by decide) ⟨rfl, rfl, rfl, trivial⟩ hK
def p_cAna_judgeParameters_2_s (x1 : Int32) (x2 : Int32) (σ : jx_S) : Option ((Int32 × Int32 × jx_S) ⊕ jx_S) := (if (jI_at 40 (σ.1 43) x1) ≤ x2 then (Option.map Sum.inr (some (σ))) else (if (v_cTyp_isBase (v_cFun_typeOf x1 x2 σ) σ) = 0 then (p_cAna_judgeParameters_55 x1 x2 σ) else ((p_cAna_caseWithout x1 x2 σ).bind fun q2 => (if ¬ (v_cAna_pointOfCase x1 q2.1 q2.2) = 0 then (p_cAna_judgeParameters_55 x1 x2 q2.2) else ((p_cFun_setStrict x1 x2 q2.2).bind fun q3 => (p_cAna_judgeParameters_55 x1 x2 q3))))))
theorem x_cAna_judgeParameters_2_s (d : Nat) (hd : 3 ≤ d) (x1 : Int32) (x2 : Int32) (σ : jx_S) (t : ((Int32 × Int32 × jx_S) ⊕ jx_S)) (res : Option Value × jx_S) (h : p_cAna_judgeParameters_2_s x1 x2 σ = some t) (hK : kk_cAna_judgeParameters_2 d t res) : jE d 101 2 [(0, .ref 7), (1, .int x1), (2, .int x2)] [] σ res := by
  unfold p_cAna_judgeParameters_2_s at h
  refine jE_blk (bs := [(.iload_n 2, 0, 0), (.aload_n 0, 0, 0), (.getfield 34, 7, 1), (.getfield 107, 4, 1), (.iload_n 1, 0, 0)]) (i := .invokevirtual 73) (a1 := 136) (a2 := 0) (pc1 := 11) (l1 := [(0, .ref 7), (1, .int x1), (2, .int x2)]) (st1 := [.int x1, .ref 42, .int x2]) (σ1 := σ) (by decide +kernel) rfl (fun hC => ?_)
  refine jE_call (as := [.ref 42, .int x1]) (pc1 := 14) (st1 := [.int x2]) hC rfl (by decide) (by omega) (xI_at (d - 1) 42 40 x1 σ (by decide) rfl rfl) ?_
  refine jE_blk (bs := []) (i := .if_icmp .ge (47)) (a1 := 0) (a2 := 0) (pc1 := 14) (l1 := [(0, .ref 7), (1, .int x1), (2, .int x2)]) (st1 := [.int (jI_at 40 (σ.1 43) x1), .int x2]) (σ1 := σ) (by decide +kernel) rfl (fun hC => ?_)
  rcases Classical.em ((jI_at 40 (σ.1 43) x1) ≤ x2) with hc | hc
  · rw [if_pos hc] at h
    refine jE_icT 61 hC (by decide) hc ?_
    obtain ⟨t9_1, h9_1, h8_1⟩ := Option.map_eq_some_iff.mp h
    clear h
    subst h8_1
    have h := h9_1
    clear h9_1
    refine jE_blk (bs := []) (i := .return_) (a1 := 0) (a2 := 0) (pc1 := 61) (l1 := [(0, .ref 7), (1, .int x1), (2, .int x2)]) (st1 := []) (σ1 := σ) (by decide +kernel) rfl (fun hC => ?_)
    have h9 := Option.some.inj h
    subst h9
    have e9 : ((none, σ) : Option Value × jx_S) = res := hK
    subst e9
    exact jE_ret hC rfl
  · rw [if_neg hc] at h
    refine jE_icF 61 hC (by decide) hc ?_
    refine jE_blk (bs := [(.aload_n 0, 0, 0), (.getfield 34, 7, 1), (.iload_n 1, 0, 0), (.iload_n 2, 0, 0)]) (i := .invokevirtual 110) (a1 := 40) (a2 := 0) (pc1 := 23) (l1 := [(0, .ref 7), (1, .int x1), (2, .int x2)]) (st1 := [.int x2, .int x1, .ref 4]) (σ1 := σ) (by decide +kernel) rfl (fun hC => ?_)
    refine jE_call (as := [.ref 4, .int x1, .int x2]) (pc1 := 26) (st1 := []) hC rfl (by decide) (by omega) (xv_cFun_typeOf (d - 1) (by omega) x1 x2 σ) ?_
    refine jE_blk (bs := []) (i := .invokestatic 162) (a1 := 81) (a2 := 0) (pc1 := 26) (l1 := [(0, .ref 7), (1, .int x1), (2, .int x2)]) (st1 := [.int (v_cFun_typeOf x1 x2 σ)]) (σ1 := σ) (by decide +kernel) rfl (fun hC => ?_)
    refine jE_call (as := [.int (v_cFun_typeOf x1 x2 σ)]) (pc1 := 29) (st1 := []) hC rfl (by decide) (by omega) (xv_cTyp_isBase (d - 1) (by omega) (v_cFun_typeOf x1 x2 σ) σ) ?_
    refine jE_blk (bs := []) (i := .ifCond .eq (26)) (a1 := 0) (a2 := 0) (pc1 := 29) (l1 := [(0, .ref 7), (1, .int x1), (2, .int x2)]) (st1 := [.int (v_cTyp_isBase (v_cFun_typeOf x1 x2 σ) σ)]) (σ1 := σ) (by decide +kernel) rfl (fun hC => ?_)
    rcases Classical.em ((v_cTyp_isBase (v_cFun_typeOf x1 x2 σ) σ) = 0) with hc | hc
    · rw [if_pos hc] at h
      refine jE_ifT 55 hC (by decide) hc ?_
      exact jE_loc (l := [(0, .ref 7), (1, .int x1), (2, .int x2)]) (ks := [0, 1, 2]) rfl (by decide) ⟨rfl, rfl, rfl, trivial⟩ (x_cAna_judgeParameters_55 d hd x1 x2 σ _ res h hK)
    · rw [if_neg hc] at h
      refine jE_ifF 55 hC (by decide) hc ?_
      refine jE_blk (bs := [(.aload_n 0, 0, 0), (.iload_n 1, 0, 0), (.aload_n 0, 0, 0), (.iload_n 1, 0, 0), (.iload_n 2, 0, 0)]) (i := .invokevirtual 165) (a1 := 102) (a2 := 0) (pc1 := 37) (l1 := [(0, .ref 7), (1, .int x1), (2, .int x2)]) (st1 := [.int x2, .int x1, .ref 7, .int x1, .ref 7]) (σ1 := σ) (by decide +kernel) rfl (fun hC => ?_)
      obtain ⟨q2, hq, h⟩ := Option.bind_eq_some_iff.mp h
      refine jE_call (as := [.ref 7, .int x1, .int x2]) (pc1 := 40) (st1 := [.int x1, .ref 7]) hC rfl (by decide) (by omega) (x_cAna_caseWithout (d - 1) (by omega) x1 x2 σ q2 (some (.int q2.1), q2.2) hq rfl) ?_
      refine jE_blk (bs := []) (i := .invokevirtual 155) (a1 := 87) (a2 := 0) (pc1 := 40) (l1 := [(0, .ref 7), (1, .int x1), (2, .int x2)]) (st1 := [.int q2.1, .int x1, .ref 7]) (σ1 := q2.2) (by decide +kernel) rfl (fun hC => ?_)
      refine jE_call (as := [.ref 7, .int x1, .int q2.1]) (pc1 := 43) (st1 := []) hC rfl (by decide) (by omega) (xv_cAna_pointOfCase (d - 1) (by omega) x1 q2.1 q2.2) ?_
      refine jE_blk (bs := []) (i := .ifCond .ne (12)) (a1 := 0) (a2 := 0) (pc1 := 43) (l1 := [(0, .ref 7), (1, .int x1), (2, .int x2)]) (st1 := [.int (v_cAna_pointOfCase x1 q2.1 q2.2)]) (σ1 := q2.2) (by decide +kernel) rfl (fun hC => ?_)
      rcases Classical.em (¬ (v_cAna_pointOfCase x1 q2.1 q2.2) = 0) with hc | hc
      · rw [if_pos hc] at h
        refine jE_ifT 55 hC (by decide) hc ?_
        exact jE_loc (l := [(0, .ref 7), (1, .int x1), (2, .int x2)]) (ks := [0, 1, 2]) rfl (by decide) ⟨rfl, rfl, rfl, trivial⟩ (x_cAna_judgeParameters_55 d hd x1 x2 q2.2 _ res h hK)
      · rw [if_neg hc] at h
        refine jE_ifF 55 hC (by decide) hc ?_
        refine jE_blk (bs := [(.aload_n 0, 0, 0), (.getfield 34, 7, 1), (.iload_n 1, 0, 0), (.iload_n 2, 0, 0)]) (i := .invokevirtual 168) (a1 := 38) (a2 := 0) (pc1 := 52) (l1 := [(0, .ref 7), (1, .int x1), (2, .int x2)]) (st1 := [.int x2, .int x1, .ref 4]) (σ1 := q2.2) (by decide +kernel) rfl (fun hC => ?_)
        obtain ⟨q3, hq, h⟩ := Option.bind_eq_some_iff.mp h
        refine jE_call (as := [.ref 4, .int x1, .int x2]) (pc1 := 55) (st1 := []) hC rfl (by decide) (by omega) (x_cFun_setStrict (d - 1) (by omega) x1 x2 q2.2 q3 (none, q3) hq rfl) ?_
        exact jE_loc (l := [(0, .ref 7), (1, .int x1), (2, .int x2)]) (ks := [0, 1, 2]) rfl (by decide) ⟨rfl, rfl, rfl, trivial⟩ (x_cAna_judgeParameters_55 d hd x1 x2 q3 _ res h hK)
def p_cAna_judgeParameters_2 (x1 : Int32) (x2 : Int32) (σ : jx_S) : Option jx_S := jx_loop 100000000 (fun s => p_cAna_judgeParameters_2_s s.1 s.2.1 (s.2.2)) (x1, x2, σ)
theorem x_cAna_judgeParameters_2 (d : Nat) (hd : 3 ≤ d) (x1 : Int32) (x2 : Int32) (σ : jx_S) (t : jx_S) (res : Option Value × jx_S) (h : p_cAna_judgeParameters_2 x1 x2 σ = some t) (hK : kkV t res) : jE d 101 2 [(0, .ref 7), (1, .int x1), (2, .int x2)] [] σ res := by
  refine jx_loop_ok (E := fun s t => ∀ res, kkV t res → jE d 101 2 [(0, .ref 7), (1, .int s.1), (2, .int s.2.1)] [] s.2.2 res) (fun s t hs => ?_) _ _ _ h res hK
  cases t with
  | inl s1 => exact fun b hb res hk => x_cAna_judgeParameters_2_s d hd (s.1) (s.2.1) (s.2.2) _ res hs (hb res hk)
  | inr b => exact fun res hk => x_cAna_judgeParameters_2_s d hd (s.1) (s.2.1) (s.2.2) _ res hs hk
def p_cAna_judgeParameters (x1 : Int32) (σ : jx_S) : Option jx_S := (p_cAna_judgeParameters_2 x1 (0 : Int32) σ)
theorem x_cAna_judgeParameters (d : Nat) (hd : 3 ≤ d) (x1 : Int32) (σ : jx_S) (t : jx_S) (res : Option Value × jx_S) (h : p_cAna_judgeParameters x1 σ = some t) (hK : kkV t res) : jE d 101 0 [(0, .ref 7), (1, .int x1)] [] σ res := by
  unfold p_cAna_judgeParameters at h
  refine jE_blk (bs := [(.iconst (0), 0, 0), (.istore_n 2, 3, 0)]) (i := .iload_n 2) (a1 := 0) (a2 := 0) (pc1 := 2) (l1 := [(2, .int (0 : Int32)), (0, .ref 7), (1, .int x1)]) (st1 := []) (σ1 := σ) (by decide +kernel) rfl (fun hC => ?_)
  exact jE_loc (l := [(0, .ref 7), (1, .int x1), (2, .int (0 : Int32))]) (ks := [0, 1, 2]) rfl (by decide) ⟨rfl, rfl, rfl, trivial⟩ (x_cAna_judgeParameters_2 d hd x1 (0 : Int32) σ _ res h hK)
def kk_cAna_judgeLets_12 (d : Nat) (t : ((Int32 × Int32 × jx_S) ⊕ jx_S)) (res : Option Value × jx_S) : Prop := match t with
  | .inl s => jE d 103 12 [(0, .ref 7), (1, .int s.1), (2, .int s.2.1)] [] s.2.2 res
  | .inr t => kkV t res
def p_cAna_judgeLets_114 (x1 : Int32) (x2 : Int32) (σ : jx_S) : Option ((Int32 × Int32 × jx_S) ⊕ jx_S) := (some (.inl (x1, (x2 + 1), σ)))
theorem x_cAna_judgeLets_114 (d : Nat) (hd : 5 ≤ d) (x1 : Int32) (x2 : Int32) (σ : jx_S) (t : ((Int32 × Int32 × jx_S) ⊕ jx_S)) (res : Option Value × jx_S) (h : p_cAna_judgeLets_114 x1 x2 σ = some t) (hK : kk_cAna_judgeLets_12 d t res) : jE d 103 114 [(0, .ref 7), (1, .int x1), (2, .int x2)] [] σ res := by
  unfold p_cAna_judgeLets_114 at h
  refine jE_blk (bs := [(.iinc 2 (1), 5, 2), (.goto (-105), 0, 0)]) (i := .iload_n 2) (a1 := 0) (a2 := 0) (pc1 := 12) (l1 := [(2, .int (x2 + 1)), (0, .ref 7), (1, .int x1)]) (st1 := []) (σ1 := σ) (by decide +kernel) rfl (fun hC => ?_)
  have h9 := Option.some.inj h
  subst h9
  exact jE_loc (l := [(0, .ref 7), (1, .int x1), (2, .int (x2 + 1))]) (ks := [0, 1, 2]) rfl (by decide) ⟨rfl, rfl, rfl, trivial⟩ hK
def p_cAna_judgeLets_12_s (x1 : Int32) (x2 : Int32) (σ : jx_S) : Option ((Int32 × Int32 × jx_S) ⊕ jx_S) := (if (jI_at 40 (σ.1 51) x1) < x2 then (Option.map Sum.inr (some (σ))) else (if ¬ (jI_at 1201 (σ.1 23) x2) = (5 : Int32) then (p_cAna_judgeLets_114 x1 x2 σ) else ((p_cAna_bindGreatest x1 σ).bind fun q2 => ((p_cAna_pointBetween x1 ((jI_at 1201 (σ.1 27) x2) + (1 : Int32)) (jI_at 1201 (q2.1 29) (jI_at 1201 (σ.1 27) x2)) (jI_put 30 q2 69 (jI_at 1201 (q2.1 33) x2) (0 : Int32))).bind fun q3 => (p_cAna_judgeLets_114 x1 x2 (jI_put 1201 q3.2 39 x2 ((1 : Int32) - q3.1)))))))
theorem x_cAna_judgeLets_12_s (d : Nat) (hd : 5 ≤ d) (x1 : Int32) (x2 : Int32) (σ : jx_S) (t : ((Int32 × Int32 × jx_S) ⊕ jx_S)) (res : Option Value × jx_S) (h : p_cAna_judgeLets_12_s x1 x2 σ = some t) (hK : kk_cAna_judgeLets_12 d t res) : jE d 103 12 [(0, .ref 7), (1, .int x1), (2, .int x2)] [] σ res := by
  unfold p_cAna_judgeLets_12_s at h
  refine jE_blk (bs := [(.iload_n 2, 0, 0), (.aload_n 0, 0, 0), (.getfield 34, 7, 1), (.getfield 80, 4, 5), (.iload_n 1, 0, 0)]) (i := .invokevirtual 73) (a1 := 136) (a2 := 0) (pc1 := 21) (l1 := [(0, .ref 7), (1, .int x1), (2, .int x2)]) (st1 := [.int x1, .ref 50, .int x2]) (σ1 := σ) (by decide +kernel) rfl (fun hC => ?_)
  refine jE_call (as := [.ref 50, .int x1]) (pc1 := 24) (st1 := [.int x2]) hC rfl (by decide) (by omega) (xI_at (d - 1) 50 40 x1 σ (by decide) rfl rfl) ?_
  refine jE_blk (bs := []) (i := .if_icmp .gt (96)) (a1 := 0) (a2 := 0) (pc1 := 24) (l1 := [(0, .ref 7), (1, .int x1), (2, .int x2)]) (st1 := [.int (jI_at 40 (σ.1 51) x1), .int x2]) (σ1 := σ) (by decide +kernel) rfl (fun hC => ?_)
  rcases Classical.em ((jI_at 40 (σ.1 51) x1) < x2) with hc | hc
  · rw [if_pos hc] at h
    refine jE_icT 120 hC (by decide) hc ?_
    obtain ⟨t9_1, h9_1, h8_1⟩ := Option.map_eq_some_iff.mp h
    clear h
    subst h8_1
    have h := h9_1
    clear h9_1
    refine jE_blk (bs := []) (i := .return_) (a1 := 0) (a2 := 0) (pc1 := 120) (l1 := [(0, .ref 7), (1, .int x1), (2, .int x2)]) (st1 := []) (σ1 := σ) (by decide +kernel) rfl (fun hC => ?_)
    have h9 := Option.some.inj h
    subst h9
    have e9 : ((none, σ) : Option Value × jx_S) = res := hK
    subst e9
    exact jE_ret hC rfl
  · rw [if_neg hc] at h
    refine jE_icF 120 hC (by decide) hc ?_
    refine jE_blk (bs := [(.aload_n 0, 0, 0), (.getfield 30, 7, 0), (.getfield 83, 3, 0), (.iload_n 2, 0, 0)]) (i := .invokevirtual 73) (a1 := 136) (a2 := 0) (pc1 := 35) (l1 := [(0, .ref 7), (1, .int x1), (2, .int x2)]) (st1 := [.int x2, .ref 22]) (σ1 := σ) (by decide +kernel) rfl (fun hC => ?_)
    refine jE_call (as := [.ref 22, .int x2]) (pc1 := 38) (st1 := []) hC rfl (by decide) (by omega) (xI_at (d - 1) 22 1201 x2 σ (by decide) rfl rfl) ?_
    refine jE_blk (bs := [(.iconst (5), 5, 0)]) (i := .if_icmp .ne (75)) (a1 := 0) (a2 := 0) (pc1 := 39) (l1 := [(0, .ref 7), (1, .int x1), (2, .int x2)]) (st1 := [.int (5 : Int32), .int (jI_at 1201 (σ.1 23) x2)]) (σ1 := σ) (by decide +kernel) rfl (fun hC => ?_)
    rcases Classical.em (¬ (jI_at 1201 (σ.1 23) x2) = (5 : Int32)) with hc | hc
    · rw [if_pos hc] at h
      refine jE_icT 114 hC (by decide) hc ?_
      exact jE_loc (l := [(0, .ref 7), (1, .int x1), (2, .int x2)]) (ks := [0, 1, 2]) rfl (by decide) ⟨rfl, rfl, rfl, trivial⟩ (x_cAna_judgeLets_114 d hd x1 x2 σ _ res h hK)
    · rw [if_neg hc] at h
      refine jE_icF 114 hC (by decide) hc ?_
      refine jE_blk (bs := [(.aload_n 0, 0, 0), (.getfield 30, 7, 0), (.getfield 131, 3, 2), (.iload_n 2, 0, 0)]) (i := .invokevirtual 73) (a1 := 136) (a2 := 0) (pc1 := 50) (l1 := [(0, .ref 7), (1, .int x1), (2, .int x2)]) (st1 := [.int x2, .ref 26]) (σ1 := σ) (by decide +kernel) rfl (fun hC => ?_)
      refine jE_call (as := [.ref 26, .int x2]) (pc1 := 53) (st1 := []) hC rfl (by decide) (by omega) (xI_at (d - 1) 26 1201 x2 σ (by decide) rfl rfl) ?_
      refine jE_blk (bs := [(.istore_n 3, 5, 0), (.aload_n 0, 0, 0), (.iload_n 1, 0, 0)]) (i := .invokevirtual 104) (a1 := 93) (a2 := 0) (pc1 := 56) (l1 := [(3, .int (jI_at 1201 (σ.1 27) x2)), (0, .ref 7), (1, .int x1), (2, .int x2)]) (st1 := [.int x1, .ref 7]) (σ1 := σ) (by decide +kernel) rfl (fun hC => ?_)
      obtain ⟨q2, hq, h⟩ := Option.bind_eq_some_iff.mp h
      refine jE_call (as := [.ref 7, .int x1]) (pc1 := 59) (st1 := []) hC rfl (by decide) (by omega) (x_cAna_bindGreatest (d - 1) (by omega) x1 σ q2 (none, q2) hq rfl) ?_
      refine jE_blk (bs := [(.aload_n 0, 0, 0), (.getfield 27, 7, 5), (.aload_n 0, 0, 0), (.getfield 30, 7, 0), (.getfield 94, 3, 5), (.iload_n 2, 0, 0)]) (i := .invokevirtual 73) (a1 := 136) (a2 := 0) (pc1 := 71) (l1 := [(3, .int (jI_at 1201 (σ.1 27) x2)), (0, .ref 7), (1, .int x1), (2, .int x2)]) (st1 := [.int x2, .ref 32, .ref 68]) (σ1 := q2) (by decide +kernel) rfl (fun hC => ?_)
      refine jE_call (as := [.ref 32, .int x2]) (pc1 := 74) (st1 := [.ref 68]) hC rfl (by decide) (by omega) (xI_at (d - 1) 32 1201 x2 q2 (by decide) rfl rfl) ?_
      refine jE_blk (bs := [(.iconst (0), 0, 0)]) (i := .invokevirtual 63) (a1 := 137) (a2 := 0) (pc1 := 75) (l1 := [(3, .int (jI_at 1201 (σ.1 27) x2)), (0, .ref 7), (1, .int x1), (2, .int x2)]) (st1 := [.int (0 : Int32), .int (jI_at 1201 (q2.1 33) x2), .ref 68]) (σ1 := q2) (by decide +kernel) rfl (fun hC => ?_)
      refine jE_call (as := [.ref 68, .int (jI_at 1201 (q2.1 33) x2), .int (0 : Int32)]) (pc1 := 78) (st1 := []) hC rfl (by decide) (by omega) (xI_put (d - 1) 68 30 (jI_at 1201 (q2.1 33) x2) (0 : Int32) q2 (by decide) rfl rfl) ?_
      refine jE_blk (bs := [(.aload_n 0, 0, 0), (.iload_n 1, 0, 0), (.iload_n 3, 0, 0), (.iconst (1), 1, 0), (.iadd, 0, 0), (.aload_n 0, 0, 0), (.getfield 30, 7, 0), (.getfield 134, 3, 3), (.iload_n 3, 0, 0)]) (i := .invokevirtual 73) (a1 := 136) (a2 := 0) (pc1 := 91) (l1 := [(3, .int (jI_at 1201 (σ.1 27) x2)), (0, .ref 7), (1, .int x1), (2, .int x2)]) (st1 := [.int (jI_at 1201 (σ.1 27) x2), .ref 28, .int ((jI_at 1201 (σ.1 27) x2) + (1 : Int32)), .int x1, .ref 7]) (σ1 := (jI_put 30 q2 69 (jI_at 1201 (q2.1 33) x2) (0 : Int32))) (by decide +kernel) rfl (fun hC => ?_)
      refine jE_call (as := [.ref 28, .int (jI_at 1201 (σ.1 27) x2)]) (pc1 := 94) (st1 := [.int ((jI_at 1201 (σ.1 27) x2) + (1 : Int32)), .int x1, .ref 7]) hC rfl (by decide) (by omega) (xI_at (d - 1) 28 1201 (jI_at 1201 (σ.1 27) x2) (jI_put 30 q2 69 (jI_at 1201 (q2.1 33) x2) (0 : Int32)) (by decide) rfl rfl) ?_
      refine jE_blk (bs := []) (i := .invokevirtual 100) (a1 := 94) (a2 := 0) (pc1 := 94) (l1 := [(3, .int (jI_at 1201 (σ.1 27) x2)), (0, .ref 7), (1, .int x1), (2, .int x2)]) (st1 := [.int (jI_at 1201 (q2.1 29) (jI_at 1201 (σ.1 27) x2)), .int ((jI_at 1201 (σ.1 27) x2) + (1 : Int32)), .int x1, .ref 7]) (σ1 := (jI_put 30 q2 69 (jI_at 1201 (q2.1 33) x2) (0 : Int32))) (by decide +kernel) rfl (fun hC => ?_)
      obtain ⟨q3, hq, h⟩ := Option.bind_eq_some_iff.mp h
      refine jE_call (as := [.ref 7, .int x1, .int ((jI_at 1201 (σ.1 27) x2) + (1 : Int32)), .int (jI_at 1201 (q2.1 29) (jI_at 1201 (σ.1 27) x2))]) (pc1 := 97) (st1 := []) hC rfl (by decide) (by omega) (x_cAna_pointBetween (d - 1) (by omega) x1 ((jI_at 1201 (σ.1 27) x2) + (1 : Int32)) (jI_at 1201 (q2.1 29) (jI_at 1201 (σ.1 27) x2)) (jI_put 30 q2 69 (jI_at 1201 (q2.1 33) x2) (0 : Int32)) q3 (some (.int q3.1), q3.2) hq rfl) ?_
      refine jE_blk (bs := [(.istore 4, 5, 0), (.aload_n 0, 0, 0), (.getfield 30, 7, 0), (.getfield 88, 3, 8), (.iload_n 2, 0, 0), (.iconst (1), 1, 0), (.iload 4, 0, 0), (.isub, 0, 0)]) (i := .invokevirtual 63) (a1 := 137) (a2 := 0) (pc1 := 111) (l1 := [(4, .int q3.1), (3, .int (jI_at 1201 (σ.1 27) x2)), (0, .ref 7), (1, .int x1), (2, .int x2)]) (st1 := [.int ((1 : Int32) - q3.1), .int x2, .ref 38]) (σ1 := q3.2) (by decide +kernel) rfl (fun hC => ?_)
      refine jE_call (as := [.ref 38, .int x2, .int ((1 : Int32) - q3.1)]) (pc1 := 114) (st1 := []) hC rfl (by decide) (by omega) (xI_put (d - 1) 38 1201 x2 ((1 : Int32) - q3.1) q3.2 (by decide) rfl rfl) ?_
      exact jE_loc (l := [(0, .ref 7), (1, .int x1), (2, .int x2)]) (ks := [0, 1, 2]) rfl (by decide) ⟨rfl, rfl, rfl, trivial⟩ (x_cAna_judgeLets_114 d hd x1 x2 (jI_put 1201 q3.2 39 x2 ((1 : Int32) - q3.1)) _ res h hK)
def p_cAna_judgeLets_12 (x1 : Int32) (x2 : Int32) (σ : jx_S) : Option jx_S := jx_loop 100000000 (fun s => p_cAna_judgeLets_12_s s.1 s.2.1 (s.2.2)) (x1, x2, σ)
theorem x_cAna_judgeLets_12 (d : Nat) (hd : 5 ≤ d) (x1 : Int32) (x2 : Int32) (σ : jx_S) (t : jx_S) (res : Option Value × jx_S) (h : p_cAna_judgeLets_12 x1 x2 σ = some t) (hK : kkV t res) : jE d 103 12 [(0, .ref 7), (1, .int x1), (2, .int x2)] [] σ res := by
  refine jx_loop_ok (E := fun s t => ∀ res, kkV t res → jE d 103 12 [(0, .ref 7), (1, .int s.1), (2, .int s.2.1)] [] s.2.2 res) (fun s t hs => ?_) _ _ _ h res hK
  cases t with
  | inl s1 => exact fun b hb res hk => x_cAna_judgeLets_12_s d hd (s.1) (s.2.1) (s.2.2) _ res hs (hb res hk)
  | inr b => exact fun res hk => x_cAna_judgeLets_12_s d hd (s.1) (s.2.1) (s.2.2) _ res hs hk
def p_cAna_judgeLets (x1 : Int32) (σ : jx_S) : Option jx_S := (p_cAna_judgeLets_12 x1 (jI_at 40 (σ.1 49) x1) σ)
theorem x_cAna_judgeLets (d : Nat) (hd : 5 ≤ d) (x1 : Int32) (σ : jx_S) (t : jx_S) (res : Option Value × jx_S) (h : p_cAna_judgeLets x1 σ = some t) (hK : kkV t res) : jE d 103 0 [(0, .ref 7), (1, .int x1)] [] σ res := by
  unfold p_cAna_judgeLets at h
  refine jE_blk (bs := [(.aload_n 0, 0, 0), (.getfield 34, 7, 1), (.getfield 77, 4, 4), (.iload_n 1, 0, 0)]) (i := .invokevirtual 73) (a1 := 136) (a2 := 0) (pc1 := 8) (l1 := [(0, .ref 7), (1, .int x1)]) (st1 := [.int x1, .ref 48]) (σ1 := σ) (by decide +kernel) rfl (fun hC => ?_)
  refine jE_call (as := [.ref 48, .int x1]) (pc1 := 11) (st1 := []) hC rfl (by decide) (by omega) (xI_at (d - 1) 48 40 x1 σ (by decide) rfl rfl) ?_
  refine jE_blk (bs := [(.istore_n 2, 5, 0)]) (i := .iload_n 2) (a1 := 0) (a2 := 0) (pc1 := 12) (l1 := [(2, .int (jI_at 40 (σ.1 49) x1)), (0, .ref 7), (1, .int x1)]) (st1 := []) (σ1 := σ) (by decide +kernel) rfl (fun hC => ?_)
  exact jE_loc (l := [(0, .ref 7), (1, .int x1), (2, .int (jI_at 40 (σ.1 49) x1))]) (ks := [0, 1, 2]) rfl (by decide) ⟨rfl, rfl, rfl, trivial⟩ (x_cAna_judgeLets_12 d hd x1 (jI_at 40 (σ.1 49) x1) σ _ res h hK)
def kk_cAna_analyse_16 (d : Nat) (t : ((Int32 × Int32 × jx_S) ⊕ jx_S)) (res : Option Value × jx_S) : Prop := match t with
  | .inl s => jE d 86 16 [(0, .ref 7), (2, .int s.1), (3, .int s.2.1)] [] s.2.2 res
  | .inr t => kkV t res
def kk_cAna_analyse_100 (d : Nat) (t : ((Int32 × jx_S) ⊕ jx_S)) (res : Option Value × jx_S) : Prop := match t with
  | .inl s => jE d 86 100 [(0, .ref 7), (3, .int s.1)] [] s.2 res
  | .inr t => kkV t res
def p_cAna_analyse_100_s (x3 : Int32) (σ : jx_S) : Option ((Int32 × jx_S) ⊕ jx_S) := (if (σ.1 4 10) ≤ x3 then (Option.map Sum.inr (some (σ))) else ((p_cAna_judgeParameters x3 σ).bind fun q3 => ((p_cAna_judgeLets x3 q3).bind fun q4 => (some (.inl ((x3 + 1), q4))))))
theorem x_cAna_analyse_100_s (d : Nat) (hd : 6 ≤ d) (x3 : Int32) (σ : jx_S) (t : ((Int32 × jx_S) ⊕ jx_S)) (res : Option Value × jx_S) (h : p_cAna_analyse_100_s x3 σ = some t) (hK : kk_cAna_analyse_100 d t res) : jE d 86 100 [(0, .ref 7), (3, .int x3)] [] σ res := by
  unfold p_cAna_analyse_100_s at h
  refine jE_blk (bs := [(.iload_n 3, 0, 0), (.aload_n 0, 0, 0), (.getfield 34, 7, 1), (.getfield 51, 4, 10)]) (i := .if_icmp .ge (19)) (a1 := 0) (a2 := 0) (pc1 := 108) (l1 := [(0, .ref 7), (3, .int x3)]) (st1 := [.int (σ.1 4 10), .int x3]) (σ1 := σ) (by decide +kernel) rfl (fun hC => ?_)
  rcases Classical.em ((σ.1 4 10) ≤ x3) with hc | hc
  · rw [if_pos hc] at h
    refine jE_icT 127 hC (by decide) hc ?_
    obtain ⟨t9_2, h9_2, h8_2⟩ := Option.map_eq_some_iff.mp h
    clear h
    subst h8_2
    have h := h9_2
    clear h9_2
    refine jE_blk (bs := []) (i := .return_) (a1 := 0) (a2 := 0) (pc1 := 127) (l1 := [(0, .ref 7), (3, .int x3)]) (st1 := []) (σ1 := σ) (by decide +kernel) rfl (fun hC => ?_)
    have h9 := Option.some.inj h
    subst h9
    have e9 : ((none, σ) : Option Value × jx_S) = res := hK
    subst e9
    exact jE_ret hC rfl
  · rw [if_neg hc] at h
    refine jE_icF 127 hC (by decide) hc ?_
    refine jE_blk (bs := [(.aload_n 0, 0, 0), (.iload_n 3, 0, 0)]) (i := .invokevirtual 67) (a1 := 101) (a2 := 0) (pc1 := 113) (l1 := [(0, .ref 7), (3, .int x3)]) (st1 := [.int x3, .ref 7]) (σ1 := σ) (by decide +kernel) rfl (fun hC => ?_)
    obtain ⟨q3, hq, h⟩ := Option.bind_eq_some_iff.mp h
    refine jE_call (as := [.ref 7, .int x3]) (pc1 := 116) (st1 := []) hC rfl (by decide) (by omega) (x_cAna_judgeParameters (d - 1) (by omega) x3 σ q3 (none, q3) hq rfl) ?_
    refine jE_blk (bs := [(.aload_n 0, 0, 0), (.iload_n 3, 0, 0)]) (i := .invokevirtual 70) (a1 := 103) (a2 := 0) (pc1 := 118) (l1 := [(0, .ref 7), (3, .int x3)]) (st1 := [.int x3, .ref 7]) (σ1 := q3) (by decide +kernel) rfl (fun hC => ?_)
    obtain ⟨q4, hq, h⟩ := Option.bind_eq_some_iff.mp h
    refine jE_call (as := [.ref 7, .int x3]) (pc1 := 121) (st1 := []) hC rfl (by decide) (by omega) (x_cAna_judgeLets (d - 1) (by omega) x3 q3 q4 (none, q4) hq rfl) ?_
    refine jE_blk (bs := [(.iinc 3 (1), 5, 2), (.goto (-24), 0, 0)]) (i := .iload_n 3) (a1 := 0) (a2 := 0) (pc1 := 100) (l1 := [(3, .int (x3 + 1)), (0, .ref 7)]) (st1 := []) (σ1 := q4) (by decide +kernel) rfl (fun hC => ?_)
    have h9 := Option.some.inj h
    subst h9
    exact jE_loc (l := [(0, .ref 7), (3, .int (x3 + 1))]) (ks := [0, 3]) rfl (by decide) ⟨rfl, rfl, trivial⟩ hK
def p_cAna_analyse_100 (x3 : Int32) (σ : jx_S) : Option jx_S := jx_loop 100000000 (fun s => p_cAna_analyse_100_s s.1 (s.2)) (x3, σ)
theorem x_cAna_analyse_100 (d : Nat) (hd : 6 ≤ d) (x3 : Int32) (σ : jx_S) (t : jx_S) (res : Option Value × jx_S) (h : p_cAna_analyse_100 x3 σ = some t) (hK : kkV t res) : jE d 86 100 [(0, .ref 7), (3, .int x3)] [] σ res := by
  refine jx_loop_ok (E := fun s t => ∀ res, kkV t res → jE d 86 100 [(0, .ref 7), (3, .int s.1)] [] s.2 res) (fun s t hs => ?_) _ _ _ h res hK
  cases t with
  | inl s1 => exact fun b hb res hk => x_cAna_analyse_100_s d hd (s.1) (s.2) _ res hs (hb res hk)
  | inr b => exact fun res hk => x_cAna_analyse_100_s d hd (s.1) (s.2) _ res hs hk
def p_cAna_analyse_98 (σ : jx_S) : Option jx_S := (p_cAna_analyse_100 (0 : Int32) σ)
theorem x_cAna_analyse_98 (d : Nat) (hd : 6 ≤ d) (σ : jx_S) (t : jx_S) (res : Option Value × jx_S) (h : p_cAna_analyse_98 σ = some t) (hK : kkV t res) : jE d 86 98 [(0, .ref 7)] [] σ res := by
  unfold p_cAna_analyse_98 at h
  refine jE_blk (bs := [(.iconst (0), 0, 0), (.istore_n 3, 5, 0)]) (i := .iload_n 3) (a1 := 0) (a2 := 0) (pc1 := 100) (l1 := [(3, .int (0 : Int32)), (0, .ref 7)]) (st1 := []) (σ1 := σ) (by decide +kernel) rfl (fun hC => ?_)
  exact jE_loc (l := [(0, .ref 7), (3, .int (0 : Int32))]) (ks := [0, 3]) rfl (by decide) ⟨rfl, rfl, trivial⟩ (x_cAna_analyse_100 d hd (0 : Int32) σ _ res h hK)
def kk_cAna_analyse_41 (d : Nat) (t : ((Int32 × Int32 × Int32 × jx_S) ⊕ ((Int32 × Int32 × jx_S) ⊕ jx_S))) (res : Option Value × jx_S) : Prop := match t with
  | .inl s => jE d 86 41 [(0, .ref 7), (2, .int s.1), (3, .int s.2.1), (4, .int s.2.2.1)] [] s.2.2.2 res
  | .inr t => kk_cAna_analyse_16 d t res
def p_cAna_analyse_86 (x2 : Int32) (x3 : Int32) (x4 : Int32) (σ : jx_S) : Option ((Int32 × Int32 × Int32 × jx_S) ⊕ ((Int32 × Int32 × jx_S) ⊕ jx_S)) := (some (.inl (x2, x3, (x4 + 1), σ)))
theorem x_cAna_analyse_86 (d : Nat) (hd : 6 ≤ d) (x2 : Int32) (x3 : Int32) (x4 : Int32) (σ : jx_S) (t : ((Int32 × Int32 × Int32 × jx_S) ⊕ ((Int32 × Int32 × jx_S) ⊕ jx_S))) (res : Option Value × jx_S) (h : p_cAna_analyse_86 x2 x3 x4 σ = some t) (hK : kk_cAna_analyse_41 d t res) : jE d 86 86 [(0, .ref 7), (2, .int x2), (3, .int x3), (4, .int x4)] [] σ res := by
  unfold p_cAna_analyse_86 at h
  refine jE_blk (bs := [(.iinc 4 (1), 5, 2), (.goto (-48), 0, 0)]) (i := .iload 4) (a1 := 0) (a2 := 0) (pc1 := 41) (l1 := [(4, .int (x4 + 1)), (0, .ref 7), (2, .int x2), (3, .int x3)]) (st1 := []) (σ1 := σ) (by decide +kernel) rfl (fun hC => ?_)
  have h9 := Option.some.inj h
  subst h9
  exact jE_loc (l := [(0, .ref 7), (2, .int x2), (3, .int x3), (4, .int (x4 + 1))]) (ks := [0, 2, 3, 4]) rfl (by decide) ⟨rfl, rfl, rfl, rfl, trivial⟩ hK
def p_cAna_analyse_41_s (x2 : Int32) (x3 : Int32) (x4 : Int32) (σ : jx_S) : Option ((Int32 × Int32 × Int32 × jx_S) ⊕ ((Int32 × Int32 × jx_S) ⊕ jx_S)) := (if (σ.1 4 10) ≤ x4 then (Option.map Sum.inr (some (.inl (x2, (x3 + 1), σ)))) else ((p_cAna_mayChange x4 σ).bind fun q8 => (if q8.1 = 0 then (p_cAna_analyse_86 x2 x3 x4 q8.2) else ((p_cAna_raiseCases x4 q8.2).bind fun q9 => (if q9.1 = 0 then (p_cAna_analyse_86 x2 x3 x4 q9.2) else (p_cAna_analyse_86 (1 : Int32) x3 x4 (jI_put 40 q9.2 65 x4 (q9.2.1 7 6))))))))
theorem x_cAna_analyse_41_s (d : Nat) (hd : 6 ≤ d) (x2 : Int32) (x3 : Int32) (x4 : Int32) (σ : jx_S) (t : ((Int32 × Int32 × Int32 × jx_S) ⊕ ((Int32 × Int32 × jx_S) ⊕ jx_S))) (res : Option Value × jx_S) (h : p_cAna_analyse_41_s x2 x3 x4 σ = some t) (hK : kk_cAna_analyse_41 d t res) : jE d 86 41 [(0, .ref 7), (2, .int x2), (3, .int x3), (4, .int x4)] [] σ res := by
  unfold p_cAna_analyse_41_s at h
  refine jE_blk (bs := [(.iload 4, 0, 0), (.aload_n 0, 0, 0), (.getfield 34, 7, 1), (.getfield 51, 4, 10)]) (i := .if_icmp .ge (42)) (a1 := 0) (a2 := 0) (pc1 := 50) (l1 := [(0, .ref 7), (2, .int x2), (3, .int x3), (4, .int x4)]) (st1 := [.int (σ.1 4 10), .int x4]) (σ1 := σ) (by decide +kernel) rfl (fun hC => ?_)
  rcases Classical.em ((σ.1 4 10) ≤ x4) with hc | hc
  · rw [if_pos hc] at h
    refine jE_icT 92 hC (by decide) hc ?_
    obtain ⟨t9_7, h9_7, h8_7⟩ := Option.map_eq_some_iff.mp h
    clear h
    subst h8_7
    have h := h9_7
    clear h9_7
    refine jE_blk (bs := [(.iinc 3 (1), 5, 2), (.goto (-79), 0, 0)]) (i := .iload_n 3) (a1 := 0) (a2 := 0) (pc1 := 16) (l1 := [(3, .int (x3 + 1)), (0, .ref 7), (2, .int x2), (4, .int x4)]) (st1 := []) (σ1 := σ) (by decide +kernel) rfl (fun hC => ?_)
    have h9 := Option.some.inj h
    subst h9
    exact jE_loc (l := [(0, .ref 7), (2, .int x2), (3, .int (x3 + 1))]) (ks := [0, 2, 3]) rfl (by decide) ⟨rfl, rfl, rfl, trivial⟩ hK
  · rw [if_neg hc] at h
    refine jE_icF 92 hC (by decide) hc ?_
    refine jE_blk (bs := [(.aload_n 0, 0, 0), (.iload 4, 0, 0)]) (i := .invokevirtual 56) (a1 := 90) (a2 := 0) (pc1 := 56) (l1 := [(0, .ref 7), (2, .int x2), (3, .int x3), (4, .int x4)]) (st1 := [.int x4, .ref 7]) (σ1 := σ) (by decide +kernel) rfl (fun hC => ?_)
    obtain ⟨q8, hq, h⟩ := Option.bind_eq_some_iff.mp h
    refine jE_call (as := [.ref 7, .int x4]) (pc1 := 59) (st1 := []) hC rfl (by decide) (by omega) (x_cAna_mayChange (d - 1) (by omega) x4 σ q8 (some (.int q8.1), q8.2) hq rfl) ?_
    refine jE_blk (bs := []) (i := .ifCond .eq (27)) (a1 := 0) (a2 := 0) (pc1 := 59) (l1 := [(0, .ref 7), (2, .int x2), (3, .int x3), (4, .int x4)]) (st1 := [.int q8.1]) (σ1 := q8.2) (by decide +kernel) rfl (fun hC => ?_)
    rcases Classical.em (q8.1 = 0) with hc | hc
    · rw [if_pos hc] at h
      refine jE_ifT 86 hC (by decide) hc ?_
      exact jE_loc (l := [(0, .ref 7), (2, .int x2), (3, .int x3), (4, .int x4)]) (ks := [0, 2, 3, 4]) rfl (by decide) ⟨rfl, rfl, rfl, rfl, trivial⟩ (x_cAna_analyse_86 d hd x2 x3 x4 q8.2 _ res h hK)
    · rw [if_neg hc] at h
      refine jE_ifF 86 hC (by decide) hc ?_
      refine jE_blk (bs := [(.aload_n 0, 0, 0), (.iload 4, 0, 0)]) (i := .invokevirtual 60) (a1 := 91) (a2 := 0) (pc1 := 65) (l1 := [(0, .ref 7), (2, .int x2), (3, .int x3), (4, .int x4)]) (st1 := [.int x4, .ref 7]) (σ1 := q8.2) (by decide +kernel) rfl (fun hC => ?_)
      obtain ⟨q9, hq, h⟩ := Option.bind_eq_some_iff.mp h
      refine jE_call (as := [.ref 7, .int x4]) (pc1 := 68) (st1 := []) hC rfl (by decide) (by omega) (x_cAna_raiseCases (d - 1) (by omega) x4 q8.2 q9 (some (.int q9.1), q9.2) hq rfl) ?_
      refine jE_blk (bs := []) (i := .ifCond .eq (18)) (a1 := 0) (a2 := 0) (pc1 := 68) (l1 := [(0, .ref 7), (2, .int x2), (3, .int x3), (4, .int x4)]) (st1 := [.int q9.1]) (σ1 := q9.2) (by decide +kernel) rfl (fun hC => ?_)
      rcases Classical.em (q9.1 = 0) with hc | hc
      · rw [if_pos hc] at h
        refine jE_ifT 86 hC (by decide) hc ?_
        exact jE_loc (l := [(0, .ref 7), (2, .int x2), (3, .int x3), (4, .int x4)]) (ks := [0, 2, 3, 4]) rfl (by decide) ⟨rfl, rfl, rfl, rfl, trivial⟩ (x_cAna_analyse_86 d hd x2 x3 x4 q9.2 _ res h hK)
      · rw [if_neg hc] at h
        refine jE_ifF 86 hC (by decide) hc ?_
        refine jE_blk (bs := [(.aload_n 0, 0, 0), (.getfield 21, 7, 3), (.iload 4, 0, 0), (.aload_n 0, 0, 0), (.getfield 47, 7, 6)]) (i := .invokevirtual 63) (a1 := 137) (a2 := 0) (pc1 := 81) (l1 := [(0, .ref 7), (2, .int x2), (3, .int x3), (4, .int x4)]) (st1 := [.int (q9.2.1 7 6), .int x4, .ref 64]) (σ1 := q9.2) (by decide +kernel) rfl (fun hC => ?_)
        refine jE_call (as := [.ref 64, .int x4, .int (q9.2.1 7 6)]) (pc1 := 84) (st1 := []) hC rfl (by decide) (by omega) (xI_put (d - 1) 64 40 x4 (q9.2.1 7 6) q9.2 (by decide) rfl rfl) ?_
        refine jE_blk (bs := [(.iconst (1), 1, 0), (.istore_n 2, 5, 0)]) (i := .iinc 4 (1)) (a1 := 5) (a2 := 2) (pc1 := 86) (l1 := [(2, .int (1 : Int32)), (0, .ref 7), (3, .int x3), (4, .int x4)]) (st1 := []) (σ1 := (jI_put 40 q9.2 65 x4 (q9.2.1 7 6))) (by decide +kernel) rfl (fun hC => ?_)
        exact jE_loc (l := [(0, .ref 7), (2, .int (1 : Int32)), (3, .int x3), (4, .int x4)]) (ks := [0, 2, 3, 4]) rfl (by decide) ⟨rfl, rfl, rfl, rfl, trivial⟩ (x_cAna_analyse_86 d hd (1 : Int32) x3 x4 (jI_put 40 q9.2 65 x4 (q9.2.1 7 6)) _ res h hK)
def p_cAna_analyse_41 (x2 : Int32) (x3 : Int32) (x4 : Int32) (σ : jx_S) : Option ((Int32 × Int32 × jx_S) ⊕ jx_S) := jx_loop 100000000 (fun s => p_cAna_analyse_41_s s.1 s.2.1 s.2.2.1 (s.2.2.2)) (x2, x3, x4, σ)
theorem x_cAna_analyse_41 (d : Nat) (hd : 6 ≤ d) (x2 : Int32) (x3 : Int32) (x4 : Int32) (σ : jx_S) (t : ((Int32 × Int32 × jx_S) ⊕ jx_S)) (res : Option Value × jx_S) (h : p_cAna_analyse_41 x2 x3 x4 σ = some t) (hK : kk_cAna_analyse_16 d t res) : jE d 86 41 [(0, .ref 7), (2, .int x2), (3, .int x3), (4, .int x4)] [] σ res := by
  refine jx_loop_ok (E := fun s t => ∀ res, kk_cAna_analyse_16 d t res → jE d 86 41 [(0, .ref 7), (2, .int s.1), (3, .int s.2.1), (4, .int s.2.2.1)] [] s.2.2.2 res) (fun s t hs => ?_) _ _ _ h res hK
  cases t with
  | inl s1 => exact fun b hb res hk => x_cAna_analyse_41_s d hd (s.1) (s.2.1) (s.2.2.1) (s.2.2.2) _ res hs (hb res hk)
  | inr b => exact fun res hk => x_cAna_analyse_41_s d hd (s.1) (s.2.1) (s.2.2.1) (s.2.2.2) _ res hs hk
def p_cAna_analyse_16_s (x2 : Int32) (x3 : Int32) (σ : jx_S) : Option ((Int32 × Int32 × jx_S) ⊕ jx_S) := (if (40000 : Int32) < x3 then (Option.map Sum.inr (p_cAna_analyse_98 σ)) else (if x2 = 0 then (Option.map Sum.inr (p_cAna_analyse_98 σ)) else (p_cAna_analyse_41 (0 : Int32) x3 (0 : Int32) (jx_i σ 7 6 ((σ.1 7 6) + (1 : Int32))))))
theorem x_cAna_analyse_16_s (d : Nat) (hd : 6 ≤ d) (x2 : Int32) (x3 : Int32) (σ : jx_S) (t : ((Int32 × Int32 × jx_S) ⊕ jx_S)) (res : Option Value × jx_S) (h : p_cAna_analyse_16_s x2 x3 σ = some t) (hK : kk_cAna_analyse_16 d t res) : jE d 86 16 [(0, .ref 7), (2, .int x2), (3, .int x3)] [] σ res := by
  unfold p_cAna_analyse_16_s at h
  refine jE_blk (bs := [(.iload_n 3, 0, 0), (.ldc 11, 40000, 0)]) (i := .if_icmp .gt (79)) (a1 := 0) (a2 := 0) (pc1 := 19) (l1 := [(0, .ref 7), (2, .int x2), (3, .int x3)]) (st1 := [.int (40000 : Int32), .int x3]) (σ1 := σ) (by decide +kernel) rfl (fun hC => ?_)
  rcases Classical.em ((40000 : Int32) < x3) with hc | hc
  · rw [if_pos hc] at h
    refine jE_icT 98 hC (by decide) hc ?_
    obtain ⟨t9_5, h9_5, h8_5⟩ := Option.map_eq_some_iff.mp h
    clear h
    subst h8_5
    have h := h9_5
    clear h9_5
    exact jE_loc (l := [(0, .ref 7)]) (ks := [0]) rfl (by decide) ⟨rfl, trivial⟩ (x_cAna_analyse_98 d hd σ _ res h hK)
  · rw [if_neg hc] at h
    refine jE_icF 98 hC (by decide) hc ?_
    refine jE_blk (bs := [(.iload_n 2, 0, 0)]) (i := .ifCond .eq (75)) (a1 := 0) (a2 := 0) (pc1 := 23) (l1 := [(0, .ref 7), (2, .int x2), (3, .int x3)]) (st1 := [.int x2]) (σ1 := σ) (by decide +kernel) rfl (fun hC => ?_)
    rcases Classical.em (x2 = 0) with hc | hc
    · rw [if_pos hc] at h
      refine jE_ifT 98 hC (by decide) hc ?_
      obtain ⟨t9_6, h9_6, h8_6⟩ := Option.map_eq_some_iff.mp h
      clear h
      subst h8_6
      have h := h9_6
      clear h9_6
      exact jE_loc (l := [(0, .ref 7)]) (ks := [0]) rfl (by decide) ⟨rfl, trivial⟩ (x_cAna_analyse_98 d hd σ _ res h hK)
    · rw [if_neg hc] at h
      refine jE_ifF 98 hC (by decide) hc ?_
      refine jE_blk (bs := [(.aload_n 0, 0, 0), (.dup, 0, 0), (.getfield 47, 7, 6), (.iconst (1), 1, 0), (.iadd, 0, 0), (.putfield 47, 7, 6), (.iconst (0), 0, 0), (.istore_n 2, 5, 0), (.iconst (0), 0, 0), (.istore 4, 5, 0)]) (i := .iload 4) (a1 := 0) (a2 := 0) (pc1 := 41) (l1 := [(4, .int (0 : Int32)), (2, .int (0 : Int32)), (0, .ref 7), (3, .int x3)]) (st1 := []) (σ1 := (jx_i σ 7 6 ((σ.1 7 6) + (1 : Int32)))) (by decide +kernel) rfl (fun hC => ?_)
      exact jE_loc (l := [(0, .ref 7), (2, .int (0 : Int32)), (3, .int x3), (4, .int (0 : Int32))]) (ks := [0, 2, 3, 4]) rfl (by decide) ⟨rfl, rfl, rfl, rfl, trivial⟩ (x_cAna_analyse_41 d hd (0 : Int32) x3 (0 : Int32) (jx_i σ 7 6 ((σ.1 7 6) + (1 : Int32))) _ res h hK)
def p_cAna_analyse_16 (x2 : Int32) (x3 : Int32) (σ : jx_S) : Option jx_S := jx_loop 100000000 (fun s => p_cAna_analyse_16_s s.1 s.2.1 (s.2.2)) (x2, x3, σ)
theorem x_cAna_analyse_16 (d : Nat) (hd : 6 ≤ d) (x2 : Int32) (x3 : Int32) (σ : jx_S) (t : jx_S) (res : Option Value × jx_S) (h : p_cAna_analyse_16 x2 x3 σ = some t) (hK : kkV t res) : jE d 86 16 [(0, .ref 7), (2, .int x2), (3, .int x3)] [] σ res := by
  refine jx_loop_ok (E := fun s t => ∀ res, kkV t res → jE d 86 16 [(0, .ref 7), (2, .int s.1), (3, .int s.2.1)] [] s.2.2 res) (fun s t hs => ?_) _ _ _ h res hK
  cases t with
  | inl s1 => exact fun b hb res hk => x_cAna_analyse_16_s d hd (s.1) (s.2.1) (s.2.2) _ res hs (hb res hk)
  | inr b => exact fun res hk => x_cAna_analyse_16_s d hd (s.1) (s.2.1) (s.2.2) _ res hs hk
def p_cAna_analyse (σ : jx_S) : Option jx_S := (if (v_cFau_isTold σ) = 0 then ((p_cAna_clear σ).bind fun q1 => (p_cAna_analyse_16 (1 : Int32) (0 : Int32) q1)) else (some (σ)))
theorem x_cAna_analyse (d : Nat) (hd : 6 ≤ d) (σ : jx_S) (t : jx_S) (res : Option Value × jx_S) (h : p_cAna_analyse σ = some t) (hK : kkV t res) : jE d 86 0 [(0, .ref 7), (1, .ref 1)] [] σ res := by
  unfold p_cAna_analyse at h
  refine jE_blk (bs := [(.aload_n 1, 0, 0)]) (i := .invokevirtual 38) (a1 := 17) (a2 := 0) (pc1 := 1) (l1 := [(0, .ref 7), (1, .ref 1)]) (st1 := [.ref 1]) (σ1 := σ) (by decide +kernel) rfl (fun hC => ?_)
  refine jE_call (as := [.ref 1]) (pc1 := 4) (st1 := []) hC rfl (by decide) (by omega) (xv_cFau_isTold (d - 1) (by omega) σ) ?_
  refine jE_blk (bs := []) (i := .ifCond .eq (4)) (a1 := 0) (a2 := 0) (pc1 := 4) (l1 := [(0, .ref 7), (1, .ref 1)]) (st1 := [.int (v_cFau_isTold σ)]) (σ1 := σ) (by decide +kernel) rfl (fun hC => ?_)
  rcases Classical.em ((v_cFau_isTold σ) = 0) with hc | hc
  · rw [if_pos hc] at h
    refine jE_ifT 8 hC (by decide) hc ?_
    refine jE_blk (bs := [(.aload_n 0, 0, 0)]) (i := .invokevirtual 44) (a1 := 89) (a2 := 0) (pc1 := 9) (l1 := [(0, .ref 7), (1, .ref 1)]) (st1 := [.ref 7]) (σ1 := σ) (by decide +kernel) rfl (fun hC => ?_)
    obtain ⟨q1, hq, h⟩ := Option.bind_eq_some_iff.mp h
    refine jE_call (as := [.ref 7]) (pc1 := 12) (st1 := []) hC rfl (by decide) (by omega) (x_cAna_clear (d - 1) (by omega) σ q1 (none, q1) hq rfl) ?_
    refine jE_blk (bs := [(.iconst (1), 1, 0), (.istore_n 2, 5, 0), (.iconst (0), 0, 0), (.istore_n 3, 5, 0)]) (i := .iload_n 3) (a1 := 0) (a2 := 0) (pc1 := 16) (l1 := [(3, .int (0 : Int32)), (2, .int (1 : Int32)), (0, .ref 7), (1, .ref 1)]) (st1 := []) (σ1 := q1) (by decide +kernel) rfl (fun hC => ?_)
    exact jE_loc (l := [(0, .ref 7), (2, .int (1 : Int32)), (3, .int (0 : Int32))]) (ks := [0, 2, 3]) rfl (by decide) ⟨rfl, rfl, rfl, trivial⟩ (x_cAna_analyse_16 d hd (1 : Int32) (0 : Int32) q1 _ res h hK)
  · rw [if_neg hc] at h
    refine jE_ifF 8 hC (by decide) hc ?_
    refine jE_blk (bs := []) (i := .return_) (a1 := 0) (a2 := 0) (pc1 := 7) (l1 := [(0, .ref 7), (1, .ref 1)]) (st1 := []) (σ1 := σ) (by decide +kernel) rfl (fun hC => ?_)
    have h9 := Option.some.inj h
    subst h9
    have e9 : ((none, σ) : Option Value × jx_S) = res := hK
    subst e9
    exact jE_ret hC rfl
def p_cl_compile_63 (σ : jx_S) : Option (Int32 × jx_S) := (if (v_cFau_isTold σ) = 0 then (some (((σ.1 4 10), σ))) else (some (((-(σ.1 1 0)), σ))))
theorem x_cl_compile_63 (d : Nat) (hd : 333 ≤ d) (σ : jx_S) (t : (Int32 × jx_S)) (res : Option Value × jx_S) (h : p_cl_compile_63 σ = some t) (hK : kkI t res) : jE d 2 63 [(0, .ref 0)] [] σ res := by
  unfold p_cl_compile_63 at h
  refine jE_blk (bs := [(.aload_n 0, 0, 0), (.getfield 24, 0, 2)]) (i := .invokevirtual 122) (a1 := 17) (a2 := 0) (pc1 := 67) (l1 := [(0, .ref 0)]) (st1 := [.ref 1]) (σ1 := σ) (by decide +kernel) rfl (fun hC => ?_)
  refine jE_call (as := [.ref 1]) (pc1 := 70) (st1 := []) hC rfl (by decide) (by omega) (xv_cFau_isTold (d - 1) (by omega) σ) ?_
  refine jE_blk (bs := []) (i := .ifCond .eq (14)) (a1 := 0) (a2 := 0) (pc1 := 70) (l1 := [(0, .ref 0)]) (st1 := [.int (v_cFau_isTold σ)]) (σ1 := σ) (by decide +kernel) rfl (fun hC => ?_)
  rcases Classical.em ((v_cFau_isTold σ) = 0) with hc | hc
  · rw [if_pos hc] at h
    refine jE_ifT 84 hC (by decide) hc ?_
    refine jE_blk (bs := [(.aload_n 0, 0, 0), (.getfield 45, 0, 5), (.getfield 129, 4, 10)]) (i := .ireturn) (a1 := 0) (a2 := 0) (pc1 := 91) (l1 := [(0, .ref 0)]) (st1 := [.int (σ.1 4 10)]) (σ1 := σ) (by decide +kernel) rfl (fun hC => ?_)
    have h9 := Option.some.inj h
    subst h9
    have e9 : ((some (.int (σ.1 4 10)), σ) : Option Value × jx_S) = res := hK
    subst e9
    exact jE_ret hC rfl
  · rw [if_neg hc] at h
    refine jE_ifF 84 hC (by decide) hc ?_
    refine jE_blk (bs := [(.aload_n 0, 0, 0), (.getfield 24, 0, 2), (.getfield 126, 1, 0), (.ineg, 0, 0), (.goto (10), 0, 0)]) (i := .ireturn) (a1 := 0) (a2 := 0) (pc1 := 91) (l1 := [(0, .ref 0)]) (st1 := [.int (-(σ.1 1 0))]) (σ1 := σ) (by decide +kernel) rfl (fun hC => ?_)
    have h9 := Option.some.inj h
    subst h9
    have e9 : ((some (.int (-(σ.1 1 0))), σ) : Option Value × jx_S) = res := hK
    subst e9
    exact jE_ret hC rfl
def p_cl_compile (σ : jx_S) : Option (Int32 × jx_S) := (if ¬ (σ.1 0 12) = 0 then (p_cl_compile_63 σ) else ((p_cFau_clear (jx_i σ 0 12 (1 : Int32))).bind fun q1 => ((p_cTok_split (q1.1 0 10) q1).bind fun q2 => ((p_cRea_readProgram q2).bind fun q3 => ((p_cTyp_check q3).bind fun q4 => ((p_cAna_analyse q4).bind fun q5 => (p_cl_compile_63 q5)))))))
theorem x_cl_compile (d : Nat) (hd : 333 ≤ d) (σ : jx_S) (t : (Int32 × jx_S)) (res : Option Value × jx_S) (h : p_cl_compile σ = some t) (hK : kkI t res) : jE d 2 0 [(0, .ref 0)] [] σ res := by
  unfold p_cl_compile at h
  refine jE_blk (bs := [(.aload_n 0, 0, 0), (.getfield 101, 0, 12)]) (i := .ifCond .ne (59)) (a1 := 0) (a2 := 0) (pc1 := 4) (l1 := [(0, .ref 0)]) (st1 := [.int (σ.1 0 12)]) (σ1 := σ) (by decide +kernel) rfl (fun hC => ?_)
  rcases Classical.em (¬ (σ.1 0 12) = 0) with hc | hc
  · rw [if_pos hc] at h
    refine jE_ifT 63 hC (by decide) hc ?_
    exact jE_loc (l := [(0, .ref 0)]) (ks := [0]) rfl (by decide) ⟨rfl, trivial⟩ (x_cl_compile_63 d hd σ _ res h hK)
  · rw [if_neg hc] at h
    refine jE_ifF 63 hC (by decide) hc ?_
    refine jE_blk (bs := [(.aload_n 0, 0, 0), (.iconst (1), 1, 0), (.putfield 101, 0, 12), (.aload_n 0, 0, 0), (.getfield 24, 0, 2)]) (i := .invokevirtual 105) (a1 := 19) (a2 := 0) (pc1 := 16) (l1 := [(0, .ref 0)]) (st1 := [.ref 1]) (σ1 := (jx_i σ 0 12 (1 : Int32))) (by decide +kernel) rfl (fun hC => ?_)
    obtain ⟨q1, hq, h⟩ := Option.bind_eq_some_iff.mp h
    refine jE_call (as := [.ref 1]) (pc1 := 19) (st1 := []) hC rfl (by decide) (by omega) (x_cFau_clear (d - 1) (by omega) (jx_i σ 0 12 (1 : Int32)) q1 (none, q1) hq rfl) ?_
    refine jE_blk (bs := [(.aload_n 0, 0, 0), (.getfield 31, 0, 3), (.aload_n 0, 0, 0), (.getfield 14, 0, 0), (.aload_n 0, 0, 0), (.getfield 83, 0, 10), (.aload_n 0, 0, 0), (.getfield 24, 0, 2)]) (i := .invokevirtual 108) (a1 := 20) (a2 := 0) (pc1 := 35) (l1 := [(0, .ref 0)]) (st1 := [.ref 1, .int (q1.1 0 10), .ref 10, .ref 2]) (σ1 := q1) (by decide +kernel) rfl (fun hC => ?_)
    obtain ⟨q2, hq, h⟩ := Option.bind_eq_some_iff.mp h
    refine jE_call (as := [.ref 2, .ref 10, .int (q1.1 0 10), .ref 1]) (pc1 := 38) (st1 := []) hC rfl (by decide) (by omega) (x_cTok_split (d - 1) (by omega) (q1.1 0 10) q1 q2 (none, q2) hq rfl) ?_
    refine jE_blk (bs := [(.aload_n 0, 0, 0), (.getfield 54, 0, 6)]) (i := .invokevirtual 112) (a1 := 43) (a2 := 0) (pc1 := 42) (l1 := [(0, .ref 0)]) (st1 := [.ref 5]) (σ1 := q2) (by decide +kernel) rfl (fun hC => ?_)
    obtain ⟨q3, hq, h⟩ := Option.bind_eq_some_iff.mp h
    refine jE_call (as := [.ref 5]) (pc1 := 45) (st1 := []) hC rfl (by decide) (by omega) (x_cRea_readProgram (d - 1) (by omega) q2 q3 (none, q3) hq rfl) ?_
    refine jE_blk (bs := [(.aload_n 0, 0, 0), (.getfield 61, 0, 7)]) (i := .invokevirtual 115) (a1 := 68) (a2 := 0) (pc1 := 49) (l1 := [(0, .ref 0)]) (st1 := [.ref 6]) (σ1 := q3) (by decide +kernel) rfl (fun hC => ?_)
    obtain ⟨q4, hq, h⟩ := Option.bind_eq_some_iff.mp h
    refine jE_call (as := [.ref 6]) (pc1 := 52) (st1 := []) hC rfl (by decide) (by omega) (x_cTyp_check (d - 1) (by omega) q3 q4 (none, q4) hq rfl) ?_
    refine jE_blk (bs := [(.aload_n 0, 0, 0), (.getfield 70, 0, 8), (.aload_n 0, 0, 0), (.getfield 24, 0, 2)]) (i := .invokevirtual 118) (a1 := 86) (a2 := 0) (pc1 := 60) (l1 := [(0, .ref 0)]) (st1 := [.ref 1, .ref 7]) (σ1 := q4) (by decide +kernel) rfl (fun hC => ?_)
    obtain ⟨q5, hq, h⟩ := Option.bind_eq_some_iff.mp h
    refine jE_call (as := [.ref 7, .ref 1]) (pc1 := 63) (st1 := []) hC rfl (by decide) (by omega) (x_cAna_analyse (d - 1) (by omega) q4 q5 (none, q5) hq rfl) ?_
    exact jE_loc (l := [(0, .ref 0)]) (ks := [0]) rfl (by decide) ⟨rfl, trivial⟩ (x_cl_compile_63 d hd q5 _ res h hK)
