def p_r_ofLocal_113 (x4 : Int32) (x5 : Int32) (x6 : Int32) (y0 : Int32) (σ : jx_S) : Option (Int32 × jx_S) := (some (((v_r_made x4 x5 x6 y0 σ), σ)))
theorem x_r_ofLocal_113 (d : Nat) (hd : 1 ≤ d) (x4 : Int32) (x5 : Int32) (x6 : Int32) (y0 : Int32) (σ : jx_S) (t : (Int32 × jx_S)) (res : Option Value × jx_S) (h : p_r_ofLocal_113 x4 x5 x6 y0 σ = some t) (hK : kkI t res) : jE d 192 113 [(4, .int x4), (5, .int x5), (6, .int x6)] [.int y0] σ res := by
  unfold p_r_ofLocal_113 at h
  refine jE_blk (bs := [(.istore 7, 8, 0), (.iload 4, 0, 0), (.iload 5, 0, 0), (.iload 6, 0, 0), (.iload 7, 0, 0)]) (i := .invokestatic 425) (a1 := 188) (a2 := 0) (pc1 := 123) (l1 := [(7, .int y0), (4, .int x4), (5, .int x5), (6, .int x6)]) (st1 := [.int y0, .int x6, .int x5, .int x4]) (σ1 := σ) (by decide +kernel) rfl (fun hC => ?_)
  refine jE_call (as := [.int x4, .int x5, .int x6, .int y0]) (pc1 := 126) (st1 := []) hC rfl (by decide) (by omega) (xv_r_made (d - 1) (by omega) x4 x5 x6 y0 σ) ?_
  refine jE_blk (bs := []) (i := .ireturn) (a1 := 0) (a2 := 0) (pc1 := 126) (l1 := [(7, .int y0), (4, .int x4), (5, .int x5), (6, .int x6)]) (st1 := [.int (v_r_made x4 x5 x6 y0 σ)]) (σ1 := σ) (by decide +kernel) rfl (fun hC => ?_)
  have h9 := Option.some.inj h
  subst h9
  have e9 : ((some (.int (v_r_made x4 x5 x6 y0 σ)), σ) : Option Value × jx_S) = res := hK
  subst e9
  exact jE_ret hC rfl
def p_r_ofLocal_67 (x1 : Int32) (x2 : Int32) (x3 : Int32) (x4 : Int32) (x5 : Int32) (y0 : Int32) (σ : jx_S) : Option (Int32 × jx_S) := (if x1 < 0 ∨ 3000 ≤ (x1).toNatClampNeg then none else (if ((σ.1 119) (x1).toNatClampNeg) ≤ (1 : Int32) then (if x1 < 0 ∨ 3000 ≤ (x1).toNatClampNeg then none else (if ¬ ((σ.1 119) (x1).toNatClampNeg) = (1 : Int32) then (p_r_ofLocal_113 x4 x5 y0 x3 σ) else (p_r_ofLocal_113 x4 x5 y0 x2 σ))) else (if x1 < 0 ∨ 3000 ≤ (x1).toNatClampNeg then none else (if ((σ.1 114) (x1).toNatClampNeg) < 0 ∨ 3000 ≤ (((σ.1 114) (x1).toNatClampNeg)).toNatClampNeg then none else (if ((σ.1 120) (((σ.1 114) (x1).toNatClampNeg)).toNatClampNeg) < 0 ∨ 3000 ≤ (((σ.1 120) (((σ.1 114) (x1).toNatClampNeg)).toNatClampNeg)).toNatClampNeg then none else (p_r_ofLocal_113 x4 x5 y0 ((σ.1 148) (((σ.1 120) (((σ.1 114) (x1).toNatClampNeg)).toNatClampNeg)).toNatClampNeg) σ))))))
theorem x_r_ofLocal_67 (d : Nat) (hd : 1 ≤ d) (x1 : Int32) (x2 : Int32) (x3 : Int32) (x4 : Int32) (x5 : Int32) (y0 : Int32) (σ : jx_S) (t : (Int32 × jx_S)) (res : Option Value × jx_S) (h : p_r_ofLocal_67 x1 x2 x3 x4 x5 y0 σ = some t) (hK : kkI t res) : jE d 192 67 [(0, .ref 106), (1, .int x1), (2, .int x2), (3, .int x3), (4, .int x4), (5, .int x5)] [.int y0] σ res := by
  unfold p_r_ofLocal_67 at h
  refine jE_blk (bs := [(.istore 6, 8, 0), (.aload_n 0, 0, 0), (.getfield 50, 12, 18), (.iload_n 1, 0, 0)]) (i := .iaload) (a1 := 0) (a2 := 0) (pc1 := 74) (l1 := [(6, .int y0), (0, .ref 106), (1, .int x1), (2, .int x2), (3, .int x3), (4, .int x4), (5, .int x5)]) (st1 := [.int x1, .ref 119]) (σ1 := σ) (by decide +kernel) rfl (fun hC => ?_)
  obtain ⟨hi, h⟩ := jx_ite0_inv h
  refine jE_iald (n := 3000) hC (by decide) rfl hi ?_
  refine jE_blk (bs := [(.iconst (1), 1, 0)]) (i := .if_icmp .le (22)) (a1 := 0) (a2 := 0) (pc1 := 76) (l1 := [(6, .int y0), (0, .ref 106), (1, .int x1), (2, .int x2), (3, .int x3), (4, .int x4), (5, .int x5)]) (st1 := [.int (1 : Int32), .int ((σ.1 119) (x1).toNatClampNeg)]) (σ1 := σ) (by decide +kernel) rfl (fun hC => ?_)
  rcases Classical.em (((σ.1 119) (x1).toNatClampNeg) ≤ (1 : Int32)) with hc | hc
  · rw [if_pos hc] at h
    refine jE_icT 98 hC (by decide) hc ?_
    refine jE_blk (bs := [(.aload_n 0, 0, 0), (.getfield 50, 12, 18), (.iload_n 1, 0, 0)]) (i := .iaload) (a1 := 0) (a2 := 0) (pc1 := 103) (l1 := [(6, .int y0), (0, .ref 106), (1, .int x1), (2, .int x2), (3, .int x3), (4, .int x4), (5, .int x5)]) (st1 := [.int x1, .ref 119]) (σ1 := σ) (by decide +kernel) rfl (fun hC => ?_)
    obtain ⟨hi, h⟩ := jx_ite0_inv h
    refine jE_iald (n := 3000) hC (by decide) rfl hi ?_
    refine jE_blk (bs := [(.iconst (1), 1, 0)]) (i := .if_icmp .ne (7)) (a1 := 0) (a2 := 0) (pc1 := 105) (l1 := [(6, .int y0), (0, .ref 106), (1, .int x1), (2, .int x2), (3, .int x3), (4, .int x4), (5, .int x5)]) (st1 := [.int (1 : Int32), .int ((σ.1 119) (x1).toNatClampNeg)]) (σ1 := σ) (by decide +kernel) rfl (fun hC => ?_)
    rcases Classical.em (¬ ((σ.1 119) (x1).toNatClampNeg) = (1 : Int32)) with hc | hc
    · rw [if_pos hc] at h
      refine jE_icT 112 hC (by decide) hc ?_
      refine jE_blk (bs := [(.iload_n 3, 0, 0)]) (i := .istore 7) (a1 := 8) (a2 := 0) (pc1 := 113) (l1 := [(6, .int y0), (0, .ref 106), (1, .int x1), (2, .int x2), (3, .int x3), (4, .int x4), (5, .int x5)]) (st1 := [.int x3]) (σ1 := σ) (by decide +kernel) rfl (fun hC => ?_)
      exact jE_loc (l := [(4, .int x4), (5, .int x5), (6, .int y0)]) (ks := [4, 5, 6]) rfl (by decide) ⟨rfl, rfl, rfl, trivial⟩ (x_r_ofLocal_113 d hd x4 x5 y0 x3 σ _ res h hK)
    · rw [if_neg hc] at h
      refine jE_icF 112 hC (by decide) hc ?_
      refine jE_blk (bs := [(.iload_n 2, 0, 0), (.goto (4), 0, 0)]) (i := .istore 7) (a1 := 8) (a2 := 0) (pc1 := 113) (l1 := [(6, .int y0), (0, .ref 106), (1, .int x1), (2, .int x2), (3, .int x3), (4, .int x4), (5, .int x5)]) (st1 := [.int x2]) (σ1 := σ) (by decide +kernel) rfl (fun hC => ?_)
      exact jE_loc (l := [(4, .int x4), (5, .int x5), (6, .int y0)]) (ks := [4, 5, 6]) rfl (by decide) ⟨rfl, rfl, rfl, trivial⟩ (x_r_ofLocal_113 d hd x4 x5 y0 x2 σ _ res h hK)
  · rw [if_neg hc] at h
    refine jE_icF 98 hC (by decide) hc ?_
    refine jE_blk (bs := [(.aload_n 0, 0, 0), (.getfield 139, 12, 59), (.aload_n 0, 0, 0), (.getfield 53, 12, 19), (.aload_n 0, 0, 0), (.getfield 35, 12, 13), (.iload_n 1, 0, 0)]) (i := .iaload) (a1 := 0) (a2 := 0) (pc1 := 92) (l1 := [(6, .int y0), (0, .ref 106), (1, .int x1), (2, .int x2), (3, .int x3), (4, .int x4), (5, .int x5)]) (st1 := [.int x1, .ref 114, .ref 120, .ref 148]) (σ1 := σ) (by decide +kernel) rfl (fun hC => ?_)
    obtain ⟨hi, h⟩ := jx_ite0_inv h
    refine jE_iald (n := 3000) hC (by decide) rfl hi ?_
    refine jE_blk (bs := []) (i := .iaload) (a1 := 0) (a2 := 0) (pc1 := 93) (l1 := [(6, .int y0), (0, .ref 106), (1, .int x1), (2, .int x2), (3, .int x3), (4, .int x4), (5, .int x5)]) (st1 := [.int ((σ.1 114) (x1).toNatClampNeg), .ref 120, .ref 148]) (σ1 := σ) (by decide +kernel) rfl (fun hC => ?_)
    obtain ⟨hi, h⟩ := jx_ite0_inv h
    refine jE_iald (n := 3000) hC (by decide) rfl hi ?_
    refine jE_blk (bs := []) (i := .iaload) (a1 := 0) (a2 := 0) (pc1 := 94) (l1 := [(6, .int y0), (0, .ref 106), (1, .int x1), (2, .int x2), (3, .int x3), (4, .int x4), (5, .int x5)]) (st1 := [.int ((σ.1 120) (((σ.1 114) (x1).toNatClampNeg)).toNatClampNeg), .ref 148]) (σ1 := σ) (by decide +kernel) rfl (fun hC => ?_)
    obtain ⟨hi, h⟩ := jx_ite0_inv h
    refine jE_iald (n := 3000) hC (by decide) rfl hi ?_
    refine jE_blk (bs := [(.goto (18), 0, 0)]) (i := .istore 7) (a1 := 8) (a2 := 0) (pc1 := 113) (l1 := [(6, .int y0), (0, .ref 106), (1, .int x1), (2, .int x2), (3, .int x3), (4, .int x4), (5, .int x5)]) (st1 := [.int ((σ.1 148) (((σ.1 120) (((σ.1 114) (x1).toNatClampNeg)).toNatClampNeg)).toNatClampNeg)]) (σ1 := σ) (by decide +kernel) rfl (fun hC => ?_)
    exact jE_loc (l := [(4, .int x4), (5, .int x5), (6, .int y0)]) (ks := [4, 5, 6]) rfl (by decide) ⟨rfl, rfl, rfl, trivial⟩ (x_r_ofLocal_113 d hd x4 x5 y0 ((σ.1 148) (((σ.1 120) (((σ.1 114) (x1).toNatClampNeg)).toNatClampNeg)).toNatClampNeg) σ _ res h hK)
def p_r_ofLocal (x1 : Int32) (x2 : Int32) (x3 : Int32) (σ : jx_S) : Option (Int32 × jx_S) := (if x1 < 0 ∨ 3000 ≤ (x1).toNatClampNeg then none else (if (((30 : Int32) * (σ.1 106 56)) + ((σ.1 117) (x1).toNatClampNeg)) < 0 ∨ 1200 ≤ ((((30 : Int32) * (σ.1 106 56)) + ((σ.1 117) (x1).toNatClampNeg))).toNatClampNeg then none else (if x1 < 0 ∨ 3000 ≤ (x1).toNatClampNeg then none else (if ((σ.1 117) (x1).toNatClampNeg) < 0 ∨ 32 ≤ (((σ.1 117) (x1).toNatClampNeg)).toNatClampNeg then none else (if (2 : Int32) ≤ ((σ.1 137) ((((30 : Int32) * (σ.1 106 56)) + ((σ.1 117) (x1).toNatClampNeg))).toNatClampNeg) then (if x1 < 0 ∨ 3000 ≤ (x1).toNatClampNeg then none else (if ((σ.1 119) (x1).toNatClampNeg) ≤ 0 then (p_r_ofLocal_67 x1 x2 x3 ((σ.1 137) ((((30 : Int32) * (σ.1 106 56)) + ((σ.1 117) (x1).toNatClampNeg))).toNatClampNeg) ((σ.1 149) (((σ.1 117) (x1).toNatClampNeg)).toNatClampNeg) x2 σ) else (if x1 < 0 ∨ 3000 ≤ (x1).toNatClampNeg then none else (if ((σ.1 114) (x1).toNatClampNeg) < 0 ∨ 3000 ≤ (((σ.1 114) (x1).toNatClampNeg)).toNatClampNeg then none else (p_r_ofLocal_67 x1 x2 x3 ((σ.1 137) ((((30 : Int32) * (σ.1 106 56)) + ((σ.1 117) (x1).toNatClampNeg))).toNatClampNeg) ((σ.1 149) (((σ.1 117) (x1).toNatClampNeg)).toNatClampNeg) ((σ.1 148) (((σ.1 114) (x1).toNatClampNeg)).toNatClampNeg) σ))))) else (some ((((σ.1 149) (((σ.1 117) (x1).toNatClampNeg)).toNatClampNeg), σ))))))))
theorem x_r_ofLocal (d : Nat) (hd : 1 ≤ d) (x1 : Int32) (x2 : Int32) (x3 : Int32) (σ : jx_S) (t : (Int32 × jx_S)) (res : Option Value × jx_S) (h : p_r_ofLocal x1 x2 x3 σ = some t) (hK : kkI t res) : jE d 192 0 [(0, .ref 106), (1, .int x1), (2, .int x2), (3, .int x3)] [] σ res := by
  unfold p_r_ofLocal at h
  refine jE_blk (bs := [(.aload_n 0, 0, 0), (.getfield 105, 12, 37), (.bipush (30), 30, 0), (.aload_n 0, 0, 0), (.getfield 392, 12, 56), (.imul, 0, 0), (.aload_n 0, 0, 0), (.getfield 44, 12, 16), (.iload_n 1, 0, 0)]) (i := .iaload) (a1 := 0) (a2 := 0) (pc1 := 16) (l1 := [(0, .ref 106), (1, .int x1), (2, .int x2), (3, .int x3)]) (st1 := [.int x1, .ref 117, .int ((30 : Int32) * (σ.1 106 56)), .ref 137]) (σ1 := σ) (by decide +kernel) rfl (fun hC => ?_)
  obtain ⟨hi, h⟩ := jx_ite0_inv h
  refine jE_iald (n := 3000) hC (by decide) rfl hi ?_
  refine jE_blk (bs := [(.iadd, 0, 0)]) (i := .iaload) (a1 := 0) (a2 := 0) (pc1 := 18) (l1 := [(0, .ref 106), (1, .int x1), (2, .int x2), (3, .int x3)]) (st1 := [.int (((30 : Int32) * (σ.1 106 56)) + ((σ.1 117) (x1).toNatClampNeg)), .ref 137]) (σ1 := σ) (by decide +kernel) rfl (fun hC => ?_)
  obtain ⟨hi, h⟩ := jx_ite0_inv h
  refine jE_iald (n := 1200) hC (by decide) rfl hi ?_
  refine jE_blk (bs := [(.istore 4, 8, 0), (.aload_n 0, 0, 0), (.getfield 142, 12, 60), (.aload_n 0, 0, 0), (.getfield 44, 12, 16), (.iload_n 1, 0, 0)]) (i := .iaload) (a1 := 0) (a2 := 0) (pc1 := 30) (l1 := [(4, .int ((σ.1 137) ((((30 : Int32) * (σ.1 106 56)) + ((σ.1 117) (x1).toNatClampNeg))).toNatClampNeg)), (0, .ref 106), (1, .int x1), (2, .int x2), (3, .int x3)]) (st1 := [.int x1, .ref 117, .ref 149]) (σ1 := σ) (by decide +kernel) rfl (fun hC => ?_)
  obtain ⟨hi, h⟩ := jx_ite0_inv h
  refine jE_iald (n := 3000) hC (by decide) rfl hi ?_
  refine jE_blk (bs := []) (i := .iaload) (a1 := 0) (a2 := 0) (pc1 := 31) (l1 := [(4, .int ((σ.1 137) ((((30 : Int32) * (σ.1 106 56)) + ((σ.1 117) (x1).toNatClampNeg))).toNatClampNeg)), (0, .ref 106), (1, .int x1), (2, .int x2), (3, .int x3)]) (st1 := [.int ((σ.1 117) (x1).toNatClampNeg), .ref 149]) (σ1 := σ) (by decide +kernel) rfl (fun hC => ?_)
  obtain ⟨hi, h⟩ := jx_ite0_inv h
  refine jE_iald (n := 32) hC (by decide) rfl hi ?_
  refine jE_blk (bs := [(.istore 5, 8, 0), (.iload 4, 0, 0), (.iconst (2), 2, 0)]) (i := .if_icmp .ge (6)) (a1 := 0) (a2 := 0) (pc1 := 37) (l1 := [(5, .int ((σ.1 149) (((σ.1 117) (x1).toNatClampNeg)).toNatClampNeg)), (4, .int ((σ.1 137) ((((30 : Int32) * (σ.1 106 56)) + ((σ.1 117) (x1).toNatClampNeg))).toNatClampNeg)), (0, .ref 106), (1, .int x1), (2, .int x2), (3, .int x3)]) (st1 := [.int (2 : Int32), .int ((σ.1 137) ((((30 : Int32) * (σ.1 106 56)) + ((σ.1 117) (x1).toNatClampNeg))).toNatClampNeg)]) (σ1 := σ) (by decide +kernel) rfl (fun hC => ?_)
  rcases Classical.em ((2 : Int32) ≤ ((σ.1 137) ((((30 : Int32) * (σ.1 106 56)) + ((σ.1 117) (x1).toNatClampNeg))).toNatClampNeg)) with hc | hc
  · rw [if_pos hc] at h
    refine jE_icT 43 hC (by decide) hc ?_
    refine jE_blk (bs := [(.aload_n 0, 0, 0), (.getfield 50, 12, 18), (.iload_n 1, 0, 0)]) (i := .iaload) (a1 := 0) (a2 := 0) (pc1 := 48) (l1 := [(5, .int ((σ.1 149) (((σ.1 117) (x1).toNatClampNeg)).toNatClampNeg)), (4, .int ((σ.1 137) ((((30 : Int32) * (σ.1 106 56)) + ((σ.1 117) (x1).toNatClampNeg))).toNatClampNeg)), (0, .ref 106), (1, .int x1), (2, .int x2), (3, .int x3)]) (st1 := [.int x1, .ref 119]) (σ1 := σ) (by decide +kernel) rfl (fun hC => ?_)
    obtain ⟨hi, h⟩ := jx_ite0_inv h
    refine jE_iald (n := 3000) hC (by decide) rfl hi ?_
    refine jE_blk (bs := []) (i := .ifCond .le (17)) (a1 := 0) (a2 := 0) (pc1 := 49) (l1 := [(5, .int ((σ.1 149) (((σ.1 117) (x1).toNatClampNeg)).toNatClampNeg)), (4, .int ((σ.1 137) ((((30 : Int32) * (σ.1 106 56)) + ((σ.1 117) (x1).toNatClampNeg))).toNatClampNeg)), (0, .ref 106), (1, .int x1), (2, .int x2), (3, .int x3)]) (st1 := [.int ((σ.1 119) (x1).toNatClampNeg)]) (σ1 := σ) (by decide +kernel) rfl (fun hC => ?_)
    rcases Classical.em (((σ.1 119) (x1).toNatClampNeg) ≤ 0) with hc | hc
    · rw [if_pos hc] at h
      refine jE_ifT 66 hC (by decide) hc ?_
      refine jE_blk (bs := [(.iload_n 2, 0, 0)]) (i := .istore 6) (a1 := 8) (a2 := 0) (pc1 := 67) (l1 := [(5, .int ((σ.1 149) (((σ.1 117) (x1).toNatClampNeg)).toNatClampNeg)), (4, .int ((σ.1 137) ((((30 : Int32) * (σ.1 106 56)) + ((σ.1 117) (x1).toNatClampNeg))).toNatClampNeg)), (0, .ref 106), (1, .int x1), (2, .int x2), (3, .int x3)]) (st1 := [.int x2]) (σ1 := σ) (by decide +kernel) rfl (fun hC => ?_)
      exact jE_loc (l := [(0, .ref 106), (1, .int x1), (2, .int x2), (3, .int x3), (4, .int ((σ.1 137) ((((30 : Int32) * (σ.1 106 56)) + ((σ.1 117) (x1).toNatClampNeg))).toNatClampNeg)), (5, .int ((σ.1 149) (((σ.1 117) (x1).toNatClampNeg)).toNatClampNeg))]) (ks := [0, 1, 2, 3, 4, 5]) rfl (by decide) ⟨rfl, rfl, rfl, rfl, rfl, rfl, trivial⟩ (x_r_ofLocal_67 d hd x1 x2 x3 ((σ.1 137) ((((30 : Int32) * (σ.1 106 56)) + ((σ.1 117) (x1).toNatClampNeg))).toNatClampNeg) ((σ.1 149) (((σ.1 117) (x1).toNatClampNeg)).toNatClampNeg) x2 σ _ res h hK)
    · rw [if_neg hc] at h
      refine jE_ifF 66 hC (by decide) hc ?_
      refine jE_blk (bs := [(.aload_n 0, 0, 0), (.getfield 139, 12, 59), (.aload_n 0, 0, 0), (.getfield 35, 12, 13), (.iload_n 1, 0, 0)]) (i := .iaload) (a1 := 0) (a2 := 0) (pc1 := 61) (l1 := [(5, .int ((σ.1 149) (((σ.1 117) (x1).toNatClampNeg)).toNatClampNeg)), (4, .int ((σ.1 137) ((((30 : Int32) * (σ.1 106 56)) + ((σ.1 117) (x1).toNatClampNeg))).toNatClampNeg)), (0, .ref 106), (1, .int x1), (2, .int x2), (3, .int x3)]) (st1 := [.int x1, .ref 114, .ref 148]) (σ1 := σ) (by decide +kernel) rfl (fun hC => ?_)
      obtain ⟨hi, h⟩ := jx_ite0_inv h
      refine jE_iald (n := 3000) hC (by decide) rfl hi ?_
      refine jE_blk (bs := []) (i := .iaload) (a1 := 0) (a2 := 0) (pc1 := 62) (l1 := [(5, .int ((σ.1 149) (((σ.1 117) (x1).toNatClampNeg)).toNatClampNeg)), (4, .int ((σ.1 137) ((((30 : Int32) * (σ.1 106 56)) + ((σ.1 117) (x1).toNatClampNeg))).toNatClampNeg)), (0, .ref 106), (1, .int x1), (2, .int x2), (3, .int x3)]) (st1 := [.int ((σ.1 114) (x1).toNatClampNeg), .ref 148]) (σ1 := σ) (by decide +kernel) rfl (fun hC => ?_)
      obtain ⟨hi, h⟩ := jx_ite0_inv h
      refine jE_iald (n := 3000) hC (by decide) rfl hi ?_
      refine jE_blk (bs := [(.goto (4), 0, 0)]) (i := .istore 6) (a1 := 8) (a2 := 0) (pc1 := 67) (l1 := [(5, .int ((σ.1 149) (((σ.1 117) (x1).toNatClampNeg)).toNatClampNeg)), (4, .int ((σ.1 137) ((((30 : Int32) * (σ.1 106 56)) + ((σ.1 117) (x1).toNatClampNeg))).toNatClampNeg)), (0, .ref 106), (1, .int x1), (2, .int x2), (3, .int x3)]) (st1 := [.int ((σ.1 148) (((σ.1 114) (x1).toNatClampNeg)).toNatClampNeg)]) (σ1 := σ) (by decide +kernel) rfl (fun hC => ?_)
      exact jE_loc (l := [(0, .ref 106), (1, .int x1), (2, .int x2), (3, .int x3), (4, .int ((σ.1 137) ((((30 : Int32) * (σ.1 106 56)) + ((σ.1 117) (x1).toNatClampNeg))).toNatClampNeg)), (5, .int ((σ.1 149) (((σ.1 117) (x1).toNatClampNeg)).toNatClampNeg))]) (ks := [0, 1, 2, 3, 4, 5]) rfl (by decide) ⟨rfl, rfl, rfl, rfl, rfl, rfl, trivial⟩ (x_r_ofLocal_67 d hd x1 x2 x3 ((σ.1 137) ((((30 : Int32) * (σ.1 106 56)) + ((σ.1 117) (x1).toNatClampNeg))).toNatClampNeg) ((σ.1 149) (((σ.1 117) (x1).toNatClampNeg)).toNatClampNeg) ((σ.1 148) (((σ.1 114) (x1).toNatClampNeg)).toNatClampNeg) σ _ res h hK)
  · rw [if_neg hc] at h
    refine jE_icF 43 hC (by decide) hc ?_
    refine jE_blk (bs := [(.iload 5, 0, 0)]) (i := .ireturn) (a1 := 0) (a2 := 0) (pc1 := 42) (l1 := [(5, .int ((σ.1 149) (((σ.1 117) (x1).toNatClampNeg)).toNatClampNeg)), (4, .int ((σ.1 137) ((((30 : Int32) * (σ.1 106 56)) + ((σ.1 117) (x1).toNatClampNeg))).toNatClampNeg)), (0, .ref 106), (1, .int x1), (2, .int x2), (3, .int x3)]) (st1 := [.int ((σ.1 149) (((σ.1 117) (x1).toNatClampNeg)).toNatClampNeg)]) (σ1 := σ) (by decide +kernel) rfl (fun hC => ?_)
    have h9 := Option.some.inj h
    subst h9
    have e9 : ((some (.int ((σ.1 149) (((σ.1 117) (x1).toNatClampNeg)).toNatClampNeg)), σ) : Option Value × jx_S) = res := hK
    subst e9
    exact jE_ret hC rfl
def p_r_ofName (x1 : Int32) (x2 : Int32) (x3 : Int32) (σ : jx_S) : Option (Int32 × jx_S) := (if x1 < 0 ∨ 3000 ≤ (x1).toNatClampNeg then none else (if ((σ.1 117) (x1).toNatClampNeg) < 0 then ((p_r_called x1 x2 x3 σ).bind fun q1 => (some ((q1.1, q1.2)))) else ((p_r_ofLocal x1 x2 x3 σ).bind fun q2 => (some ((q2.1, q2.2))))))
theorem x_r_ofName (d : Nat) (hd : 2 ≤ d) (x1 : Int32) (x2 : Int32) (x3 : Int32) (σ : jx_S) (t : (Int32 × jx_S)) (res : Option Value × jx_S) (h : p_r_ofName x1 x2 x3 σ = some t) (hK : kkI t res) : jE d 193 0 [(0, .ref 106), (1, .int x1), (2, .int x2), (3, .int x3)] [] σ res := by
  unfold p_r_ofName at h
  refine jE_blk (bs := [(.aload_n 0, 0, 0), (.getfield 44, 12, 16), (.iload_n 1, 0, 0)]) (i := .iaload) (a1 := 0) (a2 := 0) (pc1 := 5) (l1 := [(0, .ref 106), (1, .int x1), (2, .int x2), (3, .int x3)]) (st1 := [.int x1, .ref 117]) (σ1 := σ) (by decide +kernel) rfl (fun hC => ?_)
  obtain ⟨hi, h⟩ := jx_ite0_inv h
  refine jE_iald (n := 3000) hC (by decide) rfl hi ?_
  refine jE_blk (bs := []) (i := .ifCond .lt (13)) (a1 := 0) (a2 := 0) (pc1 := 6) (l1 := [(0, .ref 106), (1, .int x1), (2, .int x2), (3, .int x3)]) (st1 := [.int ((σ.1 117) (x1).toNatClampNeg)]) (σ1 := σ) (by decide +kernel) rfl (fun hC => ?_)
  rcases Classical.em (((σ.1 117) (x1).toNatClampNeg) < 0) with hc | hc
  · rw [if_pos hc] at h
    refine jE_ifT 19 hC (by decide) hc ?_
    refine jE_blk (bs := [(.aload_n 0, 0, 0), (.iload_n 1, 0, 0), (.iload_n 2, 0, 0), (.iload_n 3, 0, 0)]) (i := .invokevirtual 433) (a1 := 191) (a2 := 0) (pc1 := 23) (l1 := [(0, .ref 106), (1, .int x1), (2, .int x2), (3, .int x3)]) (st1 := [.int x3, .int x2, .int x1, .ref 106]) (σ1 := σ) (by decide +kernel) rfl (fun hC => ?_)
    obtain ⟨q1, hq, h⟩ := Option.bind_eq_some_iff.mp h
    refine jE_call (as := [.ref 106, .int x1, .int x2, .int x3]) (pc1 := 26) (st1 := []) hC rfl (by decide) (by omega) (x_r_called (d - 1) (by omega) x1 x2 x3 σ q1 (some (.int q1.1), q1.2) hq rfl) ?_
    refine jE_blk (bs := []) (i := .ireturn) (a1 := 0) (a2 := 0) (pc1 := 26) (l1 := [(0, .ref 106), (1, .int x1), (2, .int x2), (3, .int x3)]) (st1 := [.int q1.1]) (σ1 := q1.2) (by decide +kernel) rfl (fun hC => ?_)
    have h9 := Option.some.inj h
    subst h9
    have e9 : ((some (.int q1.1), q1.2) : Option Value × jx_S) = res := hK
    subst e9
    exact jE_ret hC rfl
  · rw [if_neg hc] at h
    refine jE_ifF 19 hC (by decide) hc ?_
    refine jE_blk (bs := [(.aload_n 0, 0, 0), (.iload_n 1, 0, 0), (.iload_n 2, 0, 0), (.iload_n 3, 0, 0)]) (i := .invokevirtual 429) (a1 := 192) (a2 := 0) (pc1 := 13) (l1 := [(0, .ref 106), (1, .int x1), (2, .int x2), (3, .int x3)]) (st1 := [.int x3, .int x2, .int x1, .ref 106]) (σ1 := σ) (by decide +kernel) rfl (fun hC => ?_)
    obtain ⟨q2, hq, h⟩ := Option.bind_eq_some_iff.mp h
    refine jE_call (as := [.ref 106, .int x1, .int x2, .int x3]) (pc1 := 16) (st1 := []) hC rfl (by decide) (by omega) (x_r_ofLocal (d - 1) (by omega) x1 x2 x3 σ q2 (some (.int q2.1), q2.2) hq rfl) ?_
    refine jE_blk (bs := [(.goto (10), 0, 0)]) (i := .ireturn) (a1 := 0) (a2 := 0) (pc1 := 26) (l1 := [(0, .ref 106), (1, .int x1), (2, .int x2), (3, .int x3)]) (st1 := [.int q2.1]) (σ1 := q2.2) (by decide +kernel) rfl (fun hC => ?_)
    have h9 := Option.some.inj h
    subst h9
    have e9 : ((some (.int q2.1), q2.2) : Option Value × jx_S) = res := hK
    subst e9
    exact jE_ret hC rfl
def p_r_pointOf_96 (x1 : Int32) (σ : jx_S) : Option (Int32 × jx_S) := (if x1 < 0 ∨ 3000 ≤ (x1).toNatClampNeg then none else (if ((σ.1 114) (x1).toNatClampNeg) < 0 ∨ 3000 ≤ (((σ.1 114) (x1).toNatClampNeg)).toNatClampNeg then none else (if x1 < 0 ∨ 3000 ≤ (x1).toNatClampNeg then none else (if ((σ.1 115) (x1).toNatClampNeg) < 0 ∨ 3000 ≤ (((σ.1 115) (x1).toNatClampNeg)).toNatClampNeg then none else (if x1 < 0 ∨ 3000 ≤ (x1).toNatClampNeg then none else (if ((σ.1 116) (x1).toNatClampNeg) < 0 ∨ 3000 ≤ (((σ.1 116) (x1).toNatClampNeg)).toNatClampNeg then none else (some (((((σ.1 148) (((σ.1 114) (x1).toNatClampNeg)).toNatClampNeg) &&& (((σ.1 148) (((σ.1 115) (x1).toNatClampNeg)).toNatClampNeg) ||| ((σ.1 148) (((σ.1 116) (x1).toNatClampNeg)).toNatClampNeg))), σ)))))))))
theorem x_r_pointOf_96 (d : Nat) (hd : 3 ≤ d) (x1 : Int32) (σ : jx_S) (t : (Int32 × jx_S)) (res : Option Value × jx_S) (h : p_r_pointOf_96 x1 σ = some t) (hK : kkI t res) : jE d 194 96 [(0, .ref 106), (1, .int x1)] [] σ res := by
  unfold p_r_pointOf_96 at h
  refine jE_blk (bs := [(.aload_n 0, 0, 0), (.getfield 139, 12, 59), (.aload_n 0, 0, 0), (.getfield 35, 12, 13), (.iload_n 1, 0, 0)]) (i := .iaload) (a1 := 0) (a2 := 0) (pc1 := 105) (l1 := [(0, .ref 106), (1, .int x1)]) (st1 := [.int x1, .ref 114, .ref 148]) (σ1 := σ) (by decide +kernel) rfl (fun hC => ?_)
  obtain ⟨hi, h⟩ := jx_ite0_inv h
  refine jE_iald (n := 3000) hC (by decide) rfl hi ?_
  refine jE_blk (bs := []) (i := .iaload) (a1 := 0) (a2 := 0) (pc1 := 106) (l1 := [(0, .ref 106), (1, .int x1)]) (st1 := [.int ((σ.1 114) (x1).toNatClampNeg), .ref 148]) (σ1 := σ) (by decide +kernel) rfl (fun hC => ?_)
  obtain ⟨hi, h⟩ := jx_ite0_inv h
  refine jE_iald (n := 3000) hC (by decide) rfl hi ?_
  refine jE_blk (bs := [(.aload_n 0, 0, 0), (.getfield 139, 12, 59), (.aload_n 0, 0, 0), (.getfield 38, 12, 14), (.iload_n 1, 0, 0)]) (i := .iaload) (a1 := 0) (a2 := 0) (pc1 := 116) (l1 := [(0, .ref 106), (1, .int x1)]) (st1 := [.int x1, .ref 115, .ref 148, .int ((σ.1 148) (((σ.1 114) (x1).toNatClampNeg)).toNatClampNeg)]) (σ1 := σ) (by decide +kernel) rfl (fun hC => ?_)
  obtain ⟨hi, h⟩ := jx_ite0_inv h
  refine jE_iald (n := 3000) hC (by decide) rfl hi ?_
  refine jE_blk (bs := []) (i := .iaload) (a1 := 0) (a2 := 0) (pc1 := 117) (l1 := [(0, .ref 106), (1, .int x1)]) (st1 := [.int ((σ.1 115) (x1).toNatClampNeg), .ref 148, .int ((σ.1 148) (((σ.1 114) (x1).toNatClampNeg)).toNatClampNeg)]) (σ1 := σ) (by decide +kernel) rfl (fun hC => ?_)
  obtain ⟨hi, h⟩ := jx_ite0_inv h
  refine jE_iald (n := 3000) hC (by decide) rfl hi ?_
  refine jE_blk (bs := [(.aload_n 0, 0, 0), (.getfield 139, 12, 59), (.aload_n 0, 0, 0), (.getfield 41, 12, 15), (.iload_n 1, 0, 0)]) (i := .iaload) (a1 := 0) (a2 := 0) (pc1 := 127) (l1 := [(0, .ref 106), (1, .int x1)]) (st1 := [.int x1, .ref 116, .ref 148, .int ((σ.1 148) (((σ.1 115) (x1).toNatClampNeg)).toNatClampNeg), .int ((σ.1 148) (((σ.1 114) (x1).toNatClampNeg)).toNatClampNeg)]) (σ1 := σ) (by decide +kernel) rfl (fun hC => ?_)
  obtain ⟨hi, h⟩ := jx_ite0_inv h
  refine jE_iald (n := 3000) hC (by decide) rfl hi ?_
  refine jE_blk (bs := []) (i := .iaload) (a1 := 0) (a2 := 0) (pc1 := 128) (l1 := [(0, .ref 106), (1, .int x1)]) (st1 := [.int ((σ.1 116) (x1).toNatClampNeg), .ref 148, .int ((σ.1 148) (((σ.1 115) (x1).toNatClampNeg)).toNatClampNeg), .int ((σ.1 148) (((σ.1 114) (x1).toNatClampNeg)).toNatClampNeg)]) (σ1 := σ) (by decide +kernel) rfl (fun hC => ?_)
  obtain ⟨hi, h⟩ := jx_ite0_inv h
  refine jE_iald (n := 3000) hC (by decide) rfl hi ?_
  refine jE_blk (bs := [(.ior, 0, 0), (.iand, 0, 0)]) (i := .ireturn) (a1 := 0) (a2 := 0) (pc1 := 131) (l1 := [(0, .ref 106), (1, .int x1)]) (st1 := [.int (((σ.1 148) (((σ.1 114) (x1).toNatClampNeg)).toNatClampNeg) &&& (((σ.1 148) (((σ.1 115) (x1).toNatClampNeg)).toNatClampNeg) ||| ((σ.1 148) (((σ.1 116) (x1).toNatClampNeg)).toNatClampNeg)))]) (σ1 := σ) (by decide +kernel) rfl (fun hC => ?_)
  have h9 := Option.some.inj h
  subst h9
  have e9 : ((some (.int (((σ.1 148) (((σ.1 114) (x1).toNatClampNeg)).toNatClampNeg) &&& (((σ.1 148) (((σ.1 115) (x1).toNatClampNeg)).toNatClampNeg) ||| ((σ.1 148) (((σ.1 116) (x1).toNatClampNeg)).toNatClampNeg)))), σ) : Option Value × jx_S) = res := hK
  subst e9
  exact jE_ret hC rfl
def p_r_pointOf_214 (x1 : Int32) (σ : jx_S) : Option (Int32 × jx_S) := (if x1 < 0 ∨ 3000 ≤ (x1).toNatClampNeg then none else (if ((σ.1 114) (x1).toNatClampNeg) < 0 ∨ 3000 ≤ (((σ.1 114) (x1).toNatClampNeg)).toNatClampNeg then none else (if x1 < 0 ∨ 3000 ≤ (x1).toNatClampNeg then none else (if ((σ.1 115) (x1).toNatClampNeg) < 0 ∨ 3000 ≤ (((σ.1 115) (x1).toNatClampNeg)).toNatClampNeg then none else (some (((((σ.1 148) (((σ.1 114) (x1).toNatClampNeg)).toNatClampNeg) &&& ((σ.1 148) (((σ.1 115) (x1).toNatClampNeg)).toNatClampNeg)), σ)))))))
theorem x_r_pointOf_214 (d : Nat) (hd : 3 ≤ d) (x1 : Int32) (σ : jx_S) (t : (Int32 × jx_S)) (res : Option Value × jx_S) (h : p_r_pointOf_214 x1 σ = some t) (hK : kkI t res) : jE d 194 214 [(0, .ref 106), (1, .int x1)] [] σ res := by
  unfold p_r_pointOf_214 at h
  refine jE_blk (bs := [(.aload_n 0, 0, 0), (.getfield 139, 12, 59), (.aload_n 0, 0, 0), (.getfield 35, 12, 13), (.iload_n 1, 0, 0)]) (i := .iaload) (a1 := 0) (a2 := 0) (pc1 := 223) (l1 := [(0, .ref 106), (1, .int x1)]) (st1 := [.int x1, .ref 114, .ref 148]) (σ1 := σ) (by decide +kernel) rfl (fun hC => ?_)
  obtain ⟨hi, h⟩ := jx_ite0_inv h
  refine jE_iald (n := 3000) hC (by decide) rfl hi ?_
  refine jE_blk (bs := []) (i := .iaload) (a1 := 0) (a2 := 0) (pc1 := 224) (l1 := [(0, .ref 106), (1, .int x1)]) (st1 := [.int ((σ.1 114) (x1).toNatClampNeg), .ref 148]) (σ1 := σ) (by decide +kernel) rfl (fun hC => ?_)
  obtain ⟨hi, h⟩ := jx_ite0_inv h
  refine jE_iald (n := 3000) hC (by decide) rfl hi ?_
  refine jE_blk (bs := [(.aload_n 0, 0, 0), (.getfield 139, 12, 59), (.aload_n 0, 0, 0), (.getfield 38, 12, 14), (.iload_n 1, 0, 0)]) (i := .iaload) (a1 := 0) (a2 := 0) (pc1 := 234) (l1 := [(0, .ref 106), (1, .int x1)]) (st1 := [.int x1, .ref 115, .ref 148, .int ((σ.1 148) (((σ.1 114) (x1).toNatClampNeg)).toNatClampNeg)]) (σ1 := σ) (by decide +kernel) rfl (fun hC => ?_)
  obtain ⟨hi, h⟩ := jx_ite0_inv h
  refine jE_iald (n := 3000) hC (by decide) rfl hi ?_
  refine jE_blk (bs := []) (i := .iaload) (a1 := 0) (a2 := 0) (pc1 := 235) (l1 := [(0, .ref 106), (1, .int x1)]) (st1 := [.int ((σ.1 115) (x1).toNatClampNeg), .ref 148, .int ((σ.1 148) (((σ.1 114) (x1).toNatClampNeg)).toNatClampNeg)]) (σ1 := σ) (by decide +kernel) rfl (fun hC => ?_)
  obtain ⟨hi, h⟩ := jx_ite0_inv h
  refine jE_iald (n := 3000) hC (by decide) rfl hi ?_
  refine jE_blk (bs := [(.iand, 0, 0)]) (i := .ireturn) (a1 := 0) (a2 := 0) (pc1 := 237) (l1 := [(0, .ref 106), (1, .int x1)]) (st1 := [.int (((σ.1 148) (((σ.1 114) (x1).toNatClampNeg)).toNatClampNeg) &&& ((σ.1 148) (((σ.1 115) (x1).toNatClampNeg)).toNatClampNeg))]) (σ1 := σ) (by decide +kernel) rfl (fun hC => ?_)
  have h9 := Option.some.inj h
  subst h9
  have e9 : ((some (.int (((σ.1 148) (((σ.1 114) (x1).toNatClampNeg)).toNatClampNeg) &&& ((σ.1 148) (((σ.1 115) (x1).toNatClampNeg)).toNatClampNeg))), σ) : Option Value × jx_S) = res := hK
  subst e9
  exact jE_ret hC rfl
def p_r_pointOf (x1 : Int32) (σ : jx_S) : Option (Int32 × jx_S) := (if x1 < 0 ∨ 3000 ≤ (x1).toNatClampNeg then none else (if ((σ.1 112) (x1).toNatClampNeg) = 1 then ((p_r_takes x1 σ).bind fun q1 => (if x1 < 0 ∨ 3000 ≤ (x1).toNatClampNeg then none else (if ¬ (q1.1 - ((q1.2.1 119) (x1).toNatClampNeg)) = 0 then (if ¬ (q1.1 - ((q1.2.1 119) (x1).toNatClampNeg)) = (1 : Int32) then ((p_r_ofName x1 (0 : Int32) (0 : Int32) q1.2).bind fun q2 => ((p_r_ofName x1 (0 : Int32) (1 : Int32) q2.2).bind fun q3 => ((p_r_ofName x1 (1 : Int32) (0 : Int32) q3.2).bind fun q4 => ((p_r_ofName x1 (1 : Int32) (1 : Int32) q4.2).bind fun q5 => (some (((v_r_shapeTwo q2.1 q3.1 q4.1 q5.1 q5.2), q5.2))))))) else ((p_r_ofName x1 (0 : Int32) (0 : Int32) q1.2).bind fun q6 => ((p_r_ofName x1 (1 : Int32) (0 : Int32) q6.2).bind fun q7 => (some (((v_r_shapeOne q6.1 q7.1 q7.2), q7.2)))))) else ((p_r_ofName x1 (0 : Int32) (0 : Int32) q1.2).bind fun q8 => (some ((q8.1, q8.2))))))) else (if ((σ.1 112) (x1).toNatClampNeg) = 2 then (some (((1 : Int32), σ))) else (if ((σ.1 112) (x1).toNatClampNeg) = 5 then (if x1 < 0 ∨ 3000 ≤ (x1).toNatClampNeg then none else (if ((σ.1 115) (x1).toNatClampNeg) < 0 ∨ 3000 ≤ (((σ.1 115) (x1).toNatClampNeg)).toNatClampNeg then none else (some ((((σ.1 148) (((σ.1 115) (x1).toNatClampNeg)).toNatClampNeg), σ))))) else (if ((σ.1 112) (x1).toNatClampNeg) = 7 then (p_r_pointOf_96 x1 σ) else (if ((σ.1 112) (x1).toNatClampNeg) = 10 then (p_r_pointOf_96 x1 σ) else (if ((σ.1 112) (x1).toNatClampNeg) = 13 then (some (((1 : Int32), σ))) else (if ((σ.1 112) (x1).toNatClampNeg) = 14 then (some (((1 : Int32), σ))) else (if ((σ.1 112) (x1).toNatClampNeg) = 15 then (some (((0 : Int32), σ))) else (p_r_pointOf_214 x1 σ))))))))))
theorem x_r_pointOf (d : Nat) (hd : 3 ≤ d) (x1 : Int32) (σ : jx_S) (t : (Int32 × jx_S)) (res : Option Value × jx_S) (h : p_r_pointOf x1 σ = some t) (hK : kkI t res) : jE d 194 0 [(0, .ref 106), (1, .int x1)] [] σ res := by
  unfold p_r_pointOf at h
  refine jE_blk (bs := [(.aload_n 0, 0, 0), (.getfield 29, 12, 11), (.iload_n 1, 0, 0)]) (i := .iaload) (a1 := 0) (a2 := 0) (pc1 := 5) (l1 := [(0, .ref 106), (1, .int x1)]) (st1 := [.int x1, .ref 112]) (σ1 := σ) (by decide +kernel) rfl (fun hC => ?_)
  obtain ⟨hi, h⟩ := jx_ite0_inv h
  refine jE_iald (n := 3000) hC (by decide) rfl hi ?_
  refine jE_blk (bs := []) (i := .tableswitch (208) (1) (15) #[126, 74, 208, 208, 78, 208, 90, 208, 208, 90, 208, 208, 74, 74, 76]) (a1 := 0) (a2 := 0) (pc1 := 6) (l1 := [(0, .ref 106), (1, .int x1)]) (st1 := [.int ((σ.1 112) (x1).toNatClampNeg)]) (σ1 := σ) (by decide +kernel) rfl (fun hC => ?_)
  rcases Classical.em (((σ.1 112) (x1).toNatClampNeg) = 1) with hc0 | hc0
  · rw [if_pos hc0] at h
    refine jE_tsw 132 1 hC hc0 (by decide +kernel) ?_
    refine jE_blk (bs := [(.aload_n 0, 0, 0), (.iload_n 1, 0, 0)]) (i := .invokevirtual 410) (a1 := 182) (a2 := 0) (pc1 := 134) (l1 := [(0, .ref 106), (1, .int x1)]) (st1 := [.int x1, .ref 106]) (σ1 := σ) (by decide +kernel) rfl (fun hC => ?_)
    obtain ⟨q1, hq, h⟩ := Option.bind_eq_some_iff.mp h
    refine jE_call (as := [.ref 106, .int x1]) (pc1 := 137) (st1 := []) hC rfl (by decide) (by omega) (x_r_takes (d - 1) (by omega) x1 σ q1 (some (.int q1.1), q1.2) hq rfl) ?_
    refine jE_blk (bs := [(.aload_n 0, 0, 0), (.getfield 50, 12, 18), (.iload_n 1, 0, 0)]) (i := .iaload) (a1 := 0) (a2 := 0) (pc1 := 142) (l1 := [(0, .ref 106), (1, .int x1)]) (st1 := [.int x1, .ref 119, .int q1.1]) (σ1 := q1.2) (by decide +kernel) rfl (fun hC => ?_)
    obtain ⟨hi, h⟩ := jx_ite0_inv h
    refine jE_iald (n := 3000) hC (by decide) rfl hi ?_
    refine jE_blk (bs := [(.isub, 0, 0), (.istore_n 2, 3, 0), (.iload_n 2, 0, 0)]) (i := .ifCond .ne (11)) (a1 := 0) (a2 := 0) (pc1 := 146) (l1 := [(2, .int (q1.1 - ((q1.2.1 119) (x1).toNatClampNeg))), (0, .ref 106), (1, .int x1)]) (st1 := [.int (q1.1 - ((q1.2.1 119) (x1).toNatClampNeg))]) (σ1 := q1.2) (by decide +kernel) rfl (fun hC => ?_)
    rcases Classical.em (¬ (q1.1 - ((q1.2.1 119) (x1).toNatClampNeg)) = 0) with hc | hc
    · rw [if_pos hc] at h
      refine jE_ifT 157 hC (by decide) hc ?_
      refine jE_blk (bs := [(.iload_n 2, 0, 0), (.iconst (1), 1, 0)]) (i := .if_icmp .ne (23)) (a1 := 0) (a2 := 0) (pc1 := 159) (l1 := [(2, .int (q1.1 - ((q1.2.1 119) (x1).toNatClampNeg))), (0, .ref 106), (1, .int x1)]) (st1 := [.int (1 : Int32), .int (q1.1 - ((q1.2.1 119) (x1).toNatClampNeg))]) (σ1 := q1.2) (by decide +kernel) rfl (fun hC => ?_)
      rcases Classical.em (¬ (q1.1 - ((q1.2.1 119) (x1).toNatClampNeg)) = (1 : Int32)) with hc | hc
      · rw [if_pos hc] at h
        refine jE_icT 182 hC (by decide) hc ?_
        refine jE_blk (bs := [(.aload_n 0, 0, 0), (.iload_n 1, 0, 0), (.iconst (0), 0, 0), (.iconst (0), 0, 0)]) (i := .invokevirtual 436) (a1 := 193) (a2 := 0) (pc1 := 186) (l1 := [(2, .int (q1.1 - ((q1.2.1 119) (x1).toNatClampNeg))), (0, .ref 106), (1, .int x1)]) (st1 := [.int (0 : Int32), .int (0 : Int32), .int x1, .ref 106]) (σ1 := q1.2) (by decide +kernel) rfl (fun hC => ?_)
        obtain ⟨q2, hq, h⟩ := Option.bind_eq_some_iff.mp h
        refine jE_call (as := [.ref 106, .int x1, .int (0 : Int32), .int (0 : Int32)]) (pc1 := 189) (st1 := []) hC rfl (by decide) (by omega) (x_r_ofName (d - 1) (by omega) x1 (0 : Int32) (0 : Int32) q1.2 q2 (some (.int q2.1), q2.2) hq rfl) ?_
        refine jE_blk (bs := [(.aload_n 0, 0, 0), (.iload_n 1, 0, 0), (.iconst (0), 0, 0), (.iconst (1), 1, 0)]) (i := .invokevirtual 436) (a1 := 193) (a2 := 0) (pc1 := 193) (l1 := [(2, .int (q1.1 - ((q1.2.1 119) (x1).toNatClampNeg))), (0, .ref 106), (1, .int x1)]) (st1 := [.int (1 : Int32), .int (0 : Int32), .int x1, .ref 106, .int q2.1]) (σ1 := q2.2) (by decide +kernel) rfl (fun hC => ?_)
        obtain ⟨q3, hq, h⟩ := Option.bind_eq_some_iff.mp h
        refine jE_call (as := [.ref 106, .int x1, .int (0 : Int32), .int (1 : Int32)]) (pc1 := 196) (st1 := [.int q2.1]) hC rfl (by decide) (by omega) (x_r_ofName (d - 1) (by omega) x1 (0 : Int32) (1 : Int32) q2.2 q3 (some (.int q3.1), q3.2) hq rfl) ?_
        refine jE_blk (bs := [(.aload_n 0, 0, 0), (.iload_n 1, 0, 0), (.iconst (1), 1, 0), (.iconst (0), 0, 0)]) (i := .invokevirtual 436) (a1 := 193) (a2 := 0) (pc1 := 200) (l1 := [(2, .int (q1.1 - ((q1.2.1 119) (x1).toNatClampNeg))), (0, .ref 106), (1, .int x1)]) (st1 := [.int (0 : Int32), .int (1 : Int32), .int x1, .ref 106, .int q3.1, .int q2.1]) (σ1 := q3.2) (by decide +kernel) rfl (fun hC => ?_)
        obtain ⟨q4, hq, h⟩ := Option.bind_eq_some_iff.mp h
        refine jE_call (as := [.ref 106, .int x1, .int (1 : Int32), .int (0 : Int32)]) (pc1 := 203) (st1 := [.int q3.1, .int q2.1]) hC rfl (by decide) (by omega) (x_r_ofName (d - 1) (by omega) x1 (1 : Int32) (0 : Int32) q3.2 q4 (some (.int q4.1), q4.2) hq rfl) ?_
        refine jE_blk (bs := [(.aload_n 0, 0, 0), (.iload_n 1, 0, 0), (.iconst (1), 1, 0), (.iconst (1), 1, 0)]) (i := .invokevirtual 436) (a1 := 193) (a2 := 0) (pc1 := 207) (l1 := [(2, .int (q1.1 - ((q1.2.1 119) (x1).toNatClampNeg))), (0, .ref 106), (1, .int x1)]) (st1 := [.int (1 : Int32), .int (1 : Int32), .int x1, .ref 106, .int q4.1, .int q3.1, .int q2.1]) (σ1 := q4.2) (by decide +kernel) rfl (fun hC => ?_)
        obtain ⟨q5, hq, h⟩ := Option.bind_eq_some_iff.mp h
        refine jE_call (as := [.ref 106, .int x1, .int (1 : Int32), .int (1 : Int32)]) (pc1 := 210) (st1 := [.int q4.1, .int q3.1, .int q2.1]) hC rfl (by decide) (by omega) (x_r_ofName (d - 1) (by omega) x1 (1 : Int32) (1 : Int32) q4.2 q5 (some (.int q5.1), q5.2) hq rfl) ?_
        refine jE_blk (bs := []) (i := .invokestatic 442) (a1 := 190) (a2 := 0) (pc1 := 210) (l1 := [(2, .int (q1.1 - ((q1.2.1 119) (x1).toNatClampNeg))), (0, .ref 106), (1, .int x1)]) (st1 := [.int q5.1, .int q4.1, .int q3.1, .int q2.1]) (σ1 := q5.2) (by decide +kernel) rfl (fun hC => ?_)
        refine jE_call (as := [.int q2.1, .int q3.1, .int q4.1, .int q5.1]) (pc1 := 213) (st1 := []) hC rfl (by decide) (by omega) (xv_r_shapeTwo (d - 1) (by omega) q2.1 q3.1 q4.1 q5.1 q5.2) ?_
        refine jE_blk (bs := []) (i := .ireturn) (a1 := 0) (a2 := 0) (pc1 := 213) (l1 := [(2, .int (q1.1 - ((q1.2.1 119) (x1).toNatClampNeg))), (0, .ref 106), (1, .int x1)]) (st1 := [.int (v_r_shapeTwo q2.1 q3.1 q4.1 q5.1 q5.2)]) (σ1 := q5.2) (by decide +kernel) rfl (fun hC => ?_)
        have h9 := Option.some.inj h
        subst h9
        have e9 : ((some (.int (v_r_shapeTwo q2.1 q3.1 q4.1 q5.1 q5.2)), q5.2) : Option Value × jx_S) = res := hK
        subst e9
        exact jE_ret hC rfl
      · rw [if_neg hc] at h
        refine jE_icF 182 hC (by decide) hc ?_
        refine jE_blk (bs := [(.aload_n 0, 0, 0), (.iload_n 1, 0, 0), (.iconst (0), 0, 0), (.iconst (0), 0, 0)]) (i := .invokevirtual 436) (a1 := 193) (a2 := 0) (pc1 := 166) (l1 := [(2, .int (q1.1 - ((q1.2.1 119) (x1).toNatClampNeg))), (0, .ref 106), (1, .int x1)]) (st1 := [.int (0 : Int32), .int (0 : Int32), .int x1, .ref 106]) (σ1 := q1.2) (by decide +kernel) rfl (fun hC => ?_)
        obtain ⟨q6, hq, h⟩ := Option.bind_eq_some_iff.mp h
        refine jE_call (as := [.ref 106, .int x1, .int (0 : Int32), .int (0 : Int32)]) (pc1 := 169) (st1 := []) hC rfl (by decide) (by omega) (x_r_ofName (d - 1) (by omega) x1 (0 : Int32) (0 : Int32) q1.2 q6 (some (.int q6.1), q6.2) hq rfl) ?_
        refine jE_blk (bs := [(.aload_n 0, 0, 0), (.iload_n 1, 0, 0), (.iconst (1), 1, 0), (.iconst (0), 0, 0)]) (i := .invokevirtual 436) (a1 := 193) (a2 := 0) (pc1 := 173) (l1 := [(2, .int (q1.1 - ((q1.2.1 119) (x1).toNatClampNeg))), (0, .ref 106), (1, .int x1)]) (st1 := [.int (0 : Int32), .int (1 : Int32), .int x1, .ref 106, .int q6.1]) (σ1 := q6.2) (by decide +kernel) rfl (fun hC => ?_)
        obtain ⟨q7, hq, h⟩ := Option.bind_eq_some_iff.mp h
        refine jE_call (as := [.ref 106, .int x1, .int (1 : Int32), .int (0 : Int32)]) (pc1 := 176) (st1 := [.int q6.1]) hC rfl (by decide) (by omega) (x_r_ofName (d - 1) (by omega) x1 (1 : Int32) (0 : Int32) q6.2 q7 (some (.int q7.1), q7.2) hq rfl) ?_
        refine jE_blk (bs := []) (i := .invokestatic 439) (a1 := 189) (a2 := 0) (pc1 := 176) (l1 := [(2, .int (q1.1 - ((q1.2.1 119) (x1).toNatClampNeg))), (0, .ref 106), (1, .int x1)]) (st1 := [.int q7.1, .int q6.1]) (σ1 := q7.2) (by decide +kernel) rfl (fun hC => ?_)
        refine jE_call (as := [.int q6.1, .int q7.1]) (pc1 := 179) (st1 := []) hC rfl (by decide) (by omega) (xv_r_shapeOne (d - 1) (by omega) q6.1 q7.1 q7.2) ?_
        refine jE_blk (bs := [(.goto (34), 0, 0)]) (i := .ireturn) (a1 := 0) (a2 := 0) (pc1 := 213) (l1 := [(2, .int (q1.1 - ((q1.2.1 119) (x1).toNatClampNeg))), (0, .ref 106), (1, .int x1)]) (st1 := [.int (v_r_shapeOne q6.1 q7.1 q7.2)]) (σ1 := q7.2) (by decide +kernel) rfl (fun hC => ?_)
        have h9 := Option.some.inj h
        subst h9
        have e9 : ((some (.int (v_r_shapeOne q6.1 q7.1 q7.2)), q7.2) : Option Value × jx_S) = res := hK
        subst e9
        exact jE_ret hC rfl
    · rw [if_neg hc] at h
      refine jE_ifF 157 hC (by decide) hc ?_
      refine jE_blk (bs := [(.aload_n 0, 0, 0), (.iload_n 1, 0, 0), (.iconst (0), 0, 0), (.iconst (0), 0, 0)]) (i := .invokevirtual 436) (a1 := 193) (a2 := 0) (pc1 := 153) (l1 := [(2, .int (q1.1 - ((q1.2.1 119) (x1).toNatClampNeg))), (0, .ref 106), (1, .int x1)]) (st1 := [.int (0 : Int32), .int (0 : Int32), .int x1, .ref 106]) (σ1 := q1.2) (by decide +kernel) rfl (fun hC => ?_)
      obtain ⟨q8, hq, h⟩ := Option.bind_eq_some_iff.mp h
      refine jE_call (as := [.ref 106, .int x1, .int (0 : Int32), .int (0 : Int32)]) (pc1 := 156) (st1 := []) hC rfl (by decide) (by omega) (x_r_ofName (d - 1) (by omega) x1 (0 : Int32) (0 : Int32) q1.2 q8 (some (.int q8.1), q8.2) hq rfl) ?_
      refine jE_blk (bs := []) (i := .ireturn) (a1 := 0) (a2 := 0) (pc1 := 156) (l1 := [(2, .int (q1.1 - ((q1.2.1 119) (x1).toNatClampNeg))), (0, .ref 106), (1, .int x1)]) (st1 := [.int q8.1]) (σ1 := q8.2) (by decide +kernel) rfl (fun hC => ?_)
      have h9 := Option.some.inj h
      subst h9
      have e9 : ((some (.int q8.1), q8.2) : Option Value × jx_S) = res := hK
      subst e9
      exact jE_ret hC rfl
  · rw [if_neg hc0] at h
    rcases Classical.em (((σ.1 112) (x1).toNatClampNeg) = 2) with hc1 | hc1
    · rw [if_pos hc1] at h
      refine jE_tsw 80 2 hC hc1 (by decide +kernel) ?_
      refine jE_blk (bs := [(.iconst (1), 1, 0)]) (i := .ireturn) (a1 := 0) (a2 := 0) (pc1 := 81) (l1 := [(0, .ref 106), (1, .int x1)]) (st1 := [.int (1 : Int32)]) (σ1 := σ) (by decide +kernel) rfl (fun hC => ?_)
      have h9 := Option.some.inj h
      subst h9
      have e9 : ((some (.int (1 : Int32)), σ) : Option Value × jx_S) = res := hK
      subst e9
      exact jE_ret hC rfl
    · rw [if_neg hc1] at h
      rcases Classical.em (((σ.1 112) (x1).toNatClampNeg) = 5) with hc2 | hc2
      · rw [if_pos hc2] at h
        refine jE_tsw 84 5 hC hc2 (by decide +kernel) ?_
        refine jE_blk (bs := [(.aload_n 0, 0, 0), (.getfield 139, 12, 59), (.aload_n 0, 0, 0), (.getfield 38, 12, 14), (.iload_n 1, 0, 0)]) (i := .iaload) (a1 := 0) (a2 := 0) (pc1 := 93) (l1 := [(0, .ref 106), (1, .int x1)]) (st1 := [.int x1, .ref 115, .ref 148]) (σ1 := σ) (by decide +kernel) rfl (fun hC => ?_)
        obtain ⟨hi, h⟩ := jx_ite0_inv h
        refine jE_iald (n := 3000) hC (by decide) rfl hi ?_
        refine jE_blk (bs := []) (i := .iaload) (a1 := 0) (a2 := 0) (pc1 := 94) (l1 := [(0, .ref 106), (1, .int x1)]) (st1 := [.int ((σ.1 115) (x1).toNatClampNeg), .ref 148]) (σ1 := σ) (by decide +kernel) rfl (fun hC => ?_)
        obtain ⟨hi, h⟩ := jx_ite0_inv h
        refine jE_iald (n := 3000) hC (by decide) rfl hi ?_
        refine jE_blk (bs := []) (i := .ireturn) (a1 := 0) (a2 := 0) (pc1 := 95) (l1 := [(0, .ref 106), (1, .int x1)]) (st1 := [.int ((σ.1 148) (((σ.1 115) (x1).toNatClampNeg)).toNatClampNeg)]) (σ1 := σ) (by decide +kernel) rfl (fun hC => ?_)
        have h9 := Option.some.inj h
        subst h9
        have e9 : ((some (.int ((σ.1 148) (((σ.1 115) (x1).toNatClampNeg)).toNatClampNeg)), σ) : Option Value × jx_S) = res := hK
        subst e9
        exact jE_ret hC rfl
      · rw [if_neg hc2] at h
        rcases Classical.em (((σ.1 112) (x1).toNatClampNeg) = 7) with hc3 | hc3
        · rw [if_pos hc3] at h
          refine jE_tsw 96 7 hC hc3 (by decide +kernel) ?_
          exact jE_loc (l := [(0, .ref 106), (1, .int x1)]) (ks := [0, 1]) rfl (by decide) ⟨rfl, rfl, trivial⟩ (x_r_pointOf_96 d hd x1 σ _ res h hK)
        · rw [if_neg hc3] at h
          rcases Classical.em (((σ.1 112) (x1).toNatClampNeg) = 10) with hc4 | hc4
          · rw [if_pos hc4] at h
            refine jE_tsw 96 10 hC hc4 (by decide +kernel) ?_
            exact jE_loc (l := [(0, .ref 106), (1, .int x1)]) (ks := [0, 1]) rfl (by decide) ⟨rfl, rfl, trivial⟩ (x_r_pointOf_96 d hd x1 σ _ res h hK)
          · rw [if_neg hc4] at h
            rcases Classical.em (((σ.1 112) (x1).toNatClampNeg) = 13) with hc5 | hc5
            · rw [if_pos hc5] at h
              refine jE_tsw 80 13 hC hc5 (by decide +kernel) ?_
              refine jE_blk (bs := [(.iconst (1), 1, 0)]) (i := .ireturn) (a1 := 0) (a2 := 0) (pc1 := 81) (l1 := [(0, .ref 106), (1, .int x1)]) (st1 := [.int (1 : Int32)]) (σ1 := σ) (by decide +kernel) rfl (fun hC => ?_)
              have h9 := Option.some.inj h
              subst h9
              have e9 : ((some (.int (1 : Int32)), σ) : Option Value × jx_S) = res := hK
              subst e9
              exact jE_ret hC rfl
            · rw [if_neg hc5] at h
              rcases Classical.em (((σ.1 112) (x1).toNatClampNeg) = 14) with hc6 | hc6
              · rw [if_pos hc6] at h
                refine jE_tsw 80 14 hC hc6 (by decide +kernel) ?_
                refine jE_blk (bs := [(.iconst (1), 1, 0)]) (i := .ireturn) (a1 := 0) (a2 := 0) (pc1 := 81) (l1 := [(0, .ref 106), (1, .int x1)]) (st1 := [.int (1 : Int32)]) (σ1 := σ) (by decide +kernel) rfl (fun hC => ?_)
                have h9 := Option.some.inj h
                subst h9
                have e9 : ((some (.int (1 : Int32)), σ) : Option Value × jx_S) = res := hK
                subst e9
                exact jE_ret hC rfl
              · rw [if_neg hc6] at h
                rcases Classical.em (((σ.1 112) (x1).toNatClampNeg) = 15) with hc7 | hc7
                · rw [if_pos hc7] at h
                  refine jE_tsw 82 15 hC hc7 (by decide +kernel) ?_
                  refine jE_blk (bs := [(.iconst (0), 0, 0)]) (i := .ireturn) (a1 := 0) (a2 := 0) (pc1 := 83) (l1 := [(0, .ref 106), (1, .int x1)]) (st1 := [.int (0 : Int32)]) (σ1 := σ) (by decide +kernel) rfl (fun hC => ?_)
                  have h9 := Option.some.inj h
                  subst h9
                  have e9 : ((some (.int (0 : Int32)), σ) : Option Value × jx_S) = res := hK
                  subst e9
                  exact jE_ret hC rfl
                · rw [if_neg hc7] at h
                  refine jE_tswD 214 [1, 2, 5, 7, 10, 13, 14, 15] hC (by decide +kernel) ⟨hc0, hc1, hc2, hc3, hc4, hc5, hc6, hc7, trivial⟩ ?_
                  exact jE_loc (l := [(0, .ref 106), (1, .int x1)]) (ks := [0, 1]) rfl (by decide) ⟨rfl, rfl, trivial⟩ (x_r_pointOf_214 d hd x1 σ _ res h hK)
def kk_r_work_2 (d : Nat) (t : ((Int32 × Int32 × jx_S) ⊕ (Int32 × jx_S))) (res : Option Value × jx_S) : Prop := match t with
  | .inl s => jE d 195 2 [(0, .ref 106), (2, .int s.1), (3, .int s.2.1)] [] s.2.2 res
  | .inr t => kkI t res
def p_r_work_44 (x2 : Int32) (x3 : Int32) (σ : jx_S) : Option ((Int32 × Int32 × jx_S) ⊕ (Int32 × jx_S)) := (some (.inl (x2, (x3 + 1), σ)))
theorem x_r_work_44 (d : Nat) (hd : 4 ≤ d) (x2 : Int32) (x3 : Int32) (σ : jx_S) (t : ((Int32 × Int32 × jx_S) ⊕ (Int32 × jx_S))) (res : Option Value × jx_S) (h : p_r_work_44 x2 x3 σ = some t) (hK : kk_r_work_2 d t res) : jE d 195 44 [(0, .ref 106), (2, .int x2), (3, .int x3)] [] σ res := by
  unfold p_r_work_44 at h
  refine jE_blk (bs := [(.iinc 3 (1), 4, 2), (.goto (-45), 0, 0)]) (i := .iload_n 3) (a1 := 0) (a2 := 0) (pc1 := 2) (l1 := [(3, .int (x3 + 1)), (0, .ref 106), (2, .int x2)]) (st1 := []) (σ1 := σ) (by decide +kernel) rfl (fun hC => ?_)
  have h9 := Option.some.inj h
  subst h9
  exact jE_loc (l := [(0, .ref 106), (2, .int x2), (3, .int (x3 + 1))]) (ks := [0, 2, 3]) rfl (by decide) ⟨rfl, rfl, rfl, trivial⟩ hK
def p_r_work_2_s (x2 : Int32) (x3 : Int32) (σ : jx_S) : Option ((Int32 × Int32 × jx_S) ⊕ (Int32 × jx_S)) := (if x2 < x3 then (Option.map Sum.inr (if x2 < 0 ∨ 3000 ≤ (x2).toNatClampNeg then none else (some ((((σ.1 148) (x2).toNatClampNeg), σ))))) else ((p_r_pointOf x3 σ).bind fun q2 => (if x3 < 0 ∨ 3000 ≤ (x3).toNatClampNeg then none else (if x3 < 0 ∨ 3000 ≤ (x3).toNatClampNeg then none else (if ((q2.2.1 122) (x3).toNatClampNeg) < 0 then (p_r_work_44 x2 x3 (jx_i q2.2 148 (x3).toNatClampNeg q2.1)) else (if x3 < 0 ∨ 3000 ≤ (x3).toNatClampNeg then none else (if x3 < 0 ∨ 3000 ≤ (x3).toNatClampNeg then none else (if ((q2.2.1 122) (x3).toNatClampNeg) < 0 ∨ 32 ≤ (((q2.2.1 122) (x3).toNatClampNeg)).toNatClampNeg then none else (p_r_work_44 x2 x3 (jx_i (jx_i q2.2 148 (x3).toNatClampNeg q2.1) 149 (((q2.2.1 122) (x3).toNatClampNeg)).toNatClampNeg (((jx_i q2.2 148 (x3).toNatClampNeg q2.1).1 148) (x3).toNatClampNeg)))))))))))
theorem x_r_work_2_s (d : Nat) (hd : 4 ≤ d) (x2 : Int32) (x3 : Int32) (σ : jx_S) (t : ((Int32 × Int32 × jx_S) ⊕ (Int32 × jx_S))) (res : Option Value × jx_S) (h : p_r_work_2_s x2 x3 σ = some t) (hK : kk_r_work_2 d t res) : jE d 195 2 [(0, .ref 106), (2, .int x2), (3, .int x3)] [] σ res := by
  unfold p_r_work_2_s at h
  refine jE_blk (bs := [(.iload_n 3, 0, 0), (.iload_n 2, 0, 0)]) (i := .if_icmp .gt (46)) (a1 := 0) (a2 := 0) (pc1 := 4) (l1 := [(0, .ref 106), (2, .int x2), (3, .int x3)]) (st1 := [.int x2, .int x3]) (σ1 := σ) (by decide +kernel) rfl (fun hC => ?_)
  rcases Classical.em (x2 < x3) with hc | hc
  · rw [if_pos hc] at h
    refine jE_icT 50 hC (by decide) hc ?_
    obtain ⟨t9_1, h9_1, h8_1⟩ := Option.map_eq_some_iff.mp h
    clear h
    subst h8_1
    have h := h9_1
    clear h9_1
    refine jE_blk (bs := [(.aload_n 0, 0, 0), (.getfield 139, 12, 59), (.iload_n 2, 0, 0)]) (i := .iaload) (a1 := 0) (a2 := 0) (pc1 := 55) (l1 := [(0, .ref 106), (2, .int x2), (3, .int x3)]) (st1 := [.int x2, .ref 148]) (σ1 := σ) (by decide +kernel) rfl (fun hC => ?_)
    obtain ⟨hi, h⟩ := jx_ite0_inv h
    refine jE_iald (n := 3000) hC (by decide) rfl hi ?_
    refine jE_blk (bs := []) (i := .ireturn) (a1 := 0) (a2 := 0) (pc1 := 56) (l1 := [(0, .ref 106), (2, .int x2), (3, .int x3)]) (st1 := [.int ((σ.1 148) (x2).toNatClampNeg)]) (σ1 := σ) (by decide +kernel) rfl (fun hC => ?_)
    have h9 := Option.some.inj h
    subst h9
    have e9 : ((some (.int ((σ.1 148) (x2).toNatClampNeg)), σ) : Option Value × jx_S) = res := hK
    subst e9
    exact jE_ret hC rfl
  · rw [if_neg hc] at h
    refine jE_icF 50 hC (by decide) hc ?_
    refine jE_blk (bs := [(.aload_n 0, 0, 0), (.getfield 139, 12, 59), (.iload_n 3, 0, 0), (.aload_n 0, 0, 0), (.iload_n 3, 0, 0)]) (i := .invokevirtual 445) (a1 := 194) (a2 := 0) (pc1 := 14) (l1 := [(0, .ref 106), (2, .int x2), (3, .int x3)]) (st1 := [.int x3, .ref 106, .int x3, .ref 148]) (σ1 := σ) (by decide +kernel) rfl (fun hC => ?_)
    obtain ⟨q2, hq, h⟩ := Option.bind_eq_some_iff.mp h
    refine jE_call (as := [.ref 106, .int x3]) (pc1 := 17) (st1 := [.int x3, .ref 148]) hC rfl (by decide) (by omega) (x_r_pointOf (d - 1) (by omega) x3 σ q2 (some (.int q2.1), q2.2) hq rfl) ?_
    refine jE_blk (bs := []) (i := .iastore) (a1 := 0) (a2 := 0) (pc1 := 17) (l1 := [(0, .ref 106), (2, .int x2), (3, .int x3)]) (st1 := [.int q2.1, .int x3, .ref 148]) (σ1 := q2.2) (by decide +kernel) rfl (fun hC => ?_)
    obtain ⟨hi, h⟩ := jx_ite0_inv h
    refine jE_iast (n := 3000) hC (by decide) rfl hi ?_
    refine jE_blk (bs := [(.aload_n 0, 0, 0), (.getfield 59, 12, 21), (.iload_n 3, 0, 0)]) (i := .iaload) (a1 := 0) (a2 := 0) (pc1 := 23) (l1 := [(0, .ref 106), (2, .int x2), (3, .int x3)]) (st1 := [.int x3, .ref 122]) (σ1 := (jx_i q2.2 148 (x3).toNatClampNeg q2.1)) (by decide +kernel) rfl (fun hC => ?_)
    obtain ⟨hi, h⟩ := jx_ite0_inv h
    refine jE_iald (n := 3000) hC (by decide) rfl hi ?_
    refine jE_blk (bs := []) (i := .ifCond .lt (20)) (a1 := 0) (a2 := 0) (pc1 := 24) (l1 := [(0, .ref 106), (2, .int x2), (3, .int x3)]) (st1 := [.int ((q2.2.1 122) (x3).toNatClampNeg)]) (σ1 := (jx_i q2.2 148 (x3).toNatClampNeg q2.1)) (by decide +kernel) rfl (fun hC => ?_)
    rcases Classical.em (((q2.2.1 122) (x3).toNatClampNeg) < 0) with hc | hc
    · rw [if_pos hc] at h
      refine jE_ifT 44 hC (by decide) hc ?_
      exact jE_loc (l := [(0, .ref 106), (2, .int x2), (3, .int x3)]) (ks := [0, 2, 3]) rfl (by decide) ⟨rfl, rfl, rfl, trivial⟩ (x_r_work_44 d hd x2 x3 (jx_i q2.2 148 (x3).toNatClampNeg q2.1) _ res h hK)
    · rw [if_neg hc] at h
      refine jE_ifF 44 hC (by decide) hc ?_
      refine jE_blk (bs := [(.aload_n 0, 0, 0), (.getfield 142, 12, 60), (.aload_n 0, 0, 0), (.getfield 59, 12, 21), (.iload_n 3, 0, 0)]) (i := .iaload) (a1 := 0) (a2 := 0) (pc1 := 36) (l1 := [(0, .ref 106), (2, .int x2), (3, .int x3)]) (st1 := [.int x3, .ref 122, .ref 149]) (σ1 := (jx_i q2.2 148 (x3).toNatClampNeg q2.1)) (by decide +kernel) rfl (fun hC => ?_)
      obtain ⟨hi, h⟩ := jx_ite0_inv h
      refine jE_iald (n := 3000) hC (by decide) rfl hi ?_
      refine jE_blk (bs := [(.aload_n 0, 0, 0), (.getfield 139, 12, 59), (.iload_n 3, 0, 0)]) (i := .iaload) (a1 := 0) (a2 := 0) (pc1 := 42) (l1 := [(0, .ref 106), (2, .int x2), (3, .int x3)]) (st1 := [.int x3, .ref 148, .int ((q2.2.1 122) (x3).toNatClampNeg), .ref 149]) (σ1 := (jx_i q2.2 148 (x3).toNatClampNeg q2.1)) (by decide +kernel) rfl (fun hC => ?_)
      obtain ⟨hi, h⟩ := jx_ite0_inv h
      refine jE_iald (n := 3000) hC (by decide) rfl hi ?_
      refine jE_blk (bs := []) (i := .iastore) (a1 := 0) (a2 := 0) (pc1 := 43) (l1 := [(0, .ref 106), (2, .int x2), (3, .int x3)]) (st1 := [.int (((jx_i q2.2 148 (x3).toNatClampNeg q2.1).1 148) (x3).toNatClampNeg), .int ((q2.2.1 122) (x3).toNatClampNeg), .ref 149]) (σ1 := (jx_i q2.2 148 (x3).toNatClampNeg q2.1)) (by decide +kernel) rfl (fun hC => ?_)
      obtain ⟨hi, h⟩ := jx_ite0_inv h
      refine jE_iast (n := 32) hC (by decide) rfl hi ?_
      exact jE_loc (l := [(0, .ref 106), (2, .int x2), (3, .int x3)]) (ks := [0, 2, 3]) rfl (by decide) ⟨rfl, rfl, rfl, trivial⟩ (x_r_work_44 d hd x2 x3 (jx_i (jx_i q2.2 148 (x3).toNatClampNeg q2.1) 149 (((q2.2.1 122) (x3).toNatClampNeg)).toNatClampNeg (((jx_i q2.2 148 (x3).toNatClampNeg q2.1).1 148) (x3).toNatClampNeg)) _ res h hK)
def p_r_work_2 (x2 : Int32) (x3 : Int32) (σ : jx_S) : Option (Int32 × jx_S) := jx_loop 100000000 (fun s => p_r_work_2_s s.1 s.2.1 (s.2.2)) (x2, x3, σ)
theorem x_r_work_2 (d : Nat) (hd : 4 ≤ d) (x2 : Int32) (x3 : Int32) (σ : jx_S) (t : (Int32 × jx_S)) (res : Option Value × jx_S) (h : p_r_work_2 x2 x3 σ = some t) (hK : kkI t res) : jE d 195 2 [(0, .ref 106), (2, .int x2), (3, .int x3)] [] σ res := by
  refine jx_loop_ok (E := fun s t => ∀ res, kkI t res → jE d 195 2 [(0, .ref 106), (2, .int s.1), (3, .int s.2.1)] [] s.2.2 res) (fun s t hs => ?_) _ _ _ h res hK
  cases t with
  | inl s1 => exact fun b hb res hk => x_r_work_2_s d hd (s.1) (s.2.1) (s.2.2) _ res hs (hb res hk)
  | inr b => exact fun res hk => x_r_work_2_s d hd (s.1) (s.2.1) (s.2.2) _ res hs hk
def p_r_work (x1 : Int32) (x2 : Int32) (σ : jx_S) : Option (Int32 × jx_S) := (p_r_work_2 x2 x1 σ)
theorem x_r_work (d : Nat) (hd : 4 ≤ d) (x1 : Int32) (x2 : Int32) (σ : jx_S) (t : (Int32 × jx_S)) (res : Option Value × jx_S) (h : p_r_work x1 x2 σ = some t) (hK : kkI t res) : jE d 195 0 [(0, .ref 106), (1, .int x1), (2, .int x2)] [] σ res := by
  unfold p_r_work at h
  refine jE_blk (bs := [(.iload_n 1, 0, 0), (.istore_n 3, 4, 0)]) (i := .iload_n 3) (a1 := 0) (a2 := 0) (pc1 := 2) (l1 := [(3, .int x1), (0, .ref 106), (1, .int x1), (2, .int x2)]) (st1 := []) (σ1 := σ) (by decide +kernel) rfl (fun hC => ?_)
  exact jE_loc (l := [(0, .ref 106), (2, .int x2), (3, .int x1)]) (ks := [0, 2, 3]) rfl (by decide) ⟨rfl, rfl, rfl, trivial⟩ (x_r_work_2 d hd x2 x1 σ _ res h hK)
def kk_r_greatest_7 (d : Nat) (t : ((Int32 × Int32 × jx_S) ⊕ jx_S)) (res : Option Value × jx_S) : Prop := match t with
  | .inl s => jE d 196 7 [(0, .ref 106), (1, .int s.1), (2, .int s.2.1)] [] s.2.2 res
  | .inr t => kkV t res
def p_r_greatest_7_s (x1 : Int32) (x2 : Int32) (σ : jx_S) : Option ((Int32 × Int32 × jx_S) ⊕ jx_S) := (if x1 < 0 ∨ 40 ≤ (x1).toNatClampNeg then none else (if ((σ.1 129) (x1).toNatClampNeg) ≤ x2 then (Option.map Sum.inr (some (σ))) else (if (((30 : Int32) * x1) + x2) < 0 ∨ 1200 ≤ ((((30 : Int32) * x1) + x2)).toNatClampNeg then none else (if x2 < 0 ∨ 32 ≤ (x2).toNatClampNeg then none else (some (.inl (x1, (x2 + 1), (jx_i σ 149 (x2).toNatClampNeg ((v_r_points ((σ.1 137) ((((30 : Int32) * x1) + x2)).toNatClampNeg) σ) - (1 : Int32))))))))))
theorem x_r_greatest_7_s (d : Nat) (hd : 1 ≤ d) (x1 : Int32) (x2 : Int32) (σ : jx_S) (t : ((Int32 × Int32 × jx_S) ⊕ jx_S)) (res : Option Value × jx_S) (h : p_r_greatest_7_s x1 x2 σ = some t) (hK : kk_r_greatest_7 d t res) : jE d 196 7 [(0, .ref 106), (1, .int x1), (2, .int x2)] [] σ res := by
  unfold p_r_greatest_7_s at h
  refine jE_blk (bs := [(.iload_n 2, 0, 0), (.aload_n 0, 0, 0), (.getfield 81, 12, 29), (.iload_n 1, 0, 0)]) (i := .iaload) (a1 := 0) (a2 := 0) (pc1 := 13) (l1 := [(0, .ref 106), (1, .int x1), (2, .int x2)]) (st1 := [.int x1, .ref 129, .int x2]) (σ1 := σ) (by decide +kernel) rfl (fun hC => ?_)
  obtain ⟨hi, h⟩ := jx_ite0_inv h
  refine jE_iald (n := 40) hC (by decide) rfl hi ?_
  refine jE_blk (bs := []) (i := .if_icmp .ge (31)) (a1 := 0) (a2 := 0) (pc1 := 14) (l1 := [(0, .ref 106), (1, .int x1), (2, .int x2)]) (st1 := [.int ((σ.1 129) (x1).toNatClampNeg), .int x2]) (σ1 := σ) (by decide +kernel) rfl (fun hC => ?_)
  rcases Classical.em (((σ.1 129) (x1).toNatClampNeg) ≤ x2) with hc | hc
  · rw [if_pos hc] at h
    refine jE_icT 45 hC (by decide) hc ?_
    obtain ⟨t9_1, h9_1, h8_1⟩ := Option.map_eq_some_iff.mp h
    clear h
    subst h8_1
    have h := h9_1
    clear h9_1
    refine jE_blk (bs := []) (i := .return_) (a1 := 0) (a2 := 0) (pc1 := 45) (l1 := [(0, .ref 106), (1, .int x1), (2, .int x2)]) (st1 := []) (σ1 := σ) (by decide +kernel) rfl (fun hC => ?_)
    have h9 := Option.some.inj h
    subst h9
    have e9 : ((none, σ) : Option Value × jx_S) = res := hK
    subst e9
    exact jE_ret hC rfl
  · rw [if_neg hc] at h
    refine jE_icF 45 hC (by decide) hc ?_
    refine jE_blk (bs := [(.aload_n 0, 0, 0), (.getfield 142, 12, 60), (.iload_n 2, 0, 0), (.aload_n 0, 0, 0), (.getfield 105, 12, 37), (.bipush (30), 30, 0), (.iload_n 1, 0, 0), (.imul, 0, 0), (.iload_n 2, 0, 0), (.iadd, 0, 0)]) (i := .iaload) (a1 := 0) (a2 := 0) (pc1 := 32) (l1 := [(0, .ref 106), (1, .int x1), (2, .int x2)]) (st1 := [.int (((30 : Int32) * x1) + x2), .ref 137, .int x2, .ref 149]) (σ1 := σ) (by decide +kernel) rfl (fun hC => ?_)
    obtain ⟨hi, h⟩ := jx_ite0_inv h
    refine jE_iald (n := 1200) hC (by decide) rfl hi ?_
    refine jE_blk (bs := []) (i := .invokestatic 422) (a1 := 186) (a2 := 0) (pc1 := 33) (l1 := [(0, .ref 106), (1, .int x1), (2, .int x2)]) (st1 := [.int ((σ.1 137) ((((30 : Int32) * x1) + x2)).toNatClampNeg), .int x2, .ref 149]) (σ1 := σ) (by decide +kernel) rfl (fun hC => ?_)
    refine jE_call (as := [.int ((σ.1 137) ((((30 : Int32) * x1) + x2)).toNatClampNeg)]) (pc1 := 36) (st1 := [.int x2, .ref 149]) hC rfl (by decide) (by omega) (xv_r_points (d - 1) (by omega) ((σ.1 137) ((((30 : Int32) * x1) + x2)).toNatClampNeg) σ) ?_
    refine jE_blk (bs := [(.iconst (1), 1, 0), (.isub, 0, 0)]) (i := .iastore) (a1 := 0) (a2 := 0) (pc1 := 38) (l1 := [(0, .ref 106), (1, .int x1), (2, .int x2)]) (st1 := [.int ((v_r_points ((σ.1 137) ((((30 : Int32) * x1) + x2)).toNatClampNeg) σ) - (1 : Int32)), .int x2, .ref 149]) (σ1 := σ) (by decide +kernel) rfl (fun hC => ?_)
    obtain ⟨hi, h⟩ := jx_ite0_inv h
    refine jE_iast (n := 32) hC (by decide) rfl hi ?_
    refine jE_blk (bs := [(.iinc 2 (1), 3, 2), (.goto (-35), 0, 0)]) (i := .iload_n 2) (a1 := 0) (a2 := 0) (pc1 := 7) (l1 := [(2, .int (x2 + 1)), (0, .ref 106), (1, .int x1)]) (st1 := []) (σ1 := (jx_i σ 149 (x2).toNatClampNeg ((v_r_points ((σ.1 137) ((((30 : Int32) * x1) + x2)).toNatClampNeg) σ) - (1 : Int32)))) (by decide +kernel) rfl (fun hC => ?_)
    have h9 := Option.some.inj h
    subst h9
    exact jE_loc (l := [(0, .ref 106), (1, .int x1), (2, .int (x2 + 1))]) (ks := [0, 1, 2]) rfl (by decide) ⟨rfl, rfl, rfl, trivial⟩ hK
def p_r_greatest_7 (x1 : Int32) (x2 : Int32) (σ : jx_S) : Option jx_S := jx_loop 100000000 (fun s => p_r_greatest_7_s s.1 s.2.1 (s.2.2)) (x1, x2, σ)
theorem x_r_greatest_7 (d : Nat) (hd : 1 ≤ d) (x1 : Int32) (x2 : Int32) (σ : jx_S) (t : jx_S) (res : Option Value × jx_S) (h : p_r_greatest_7 x1 x2 σ = some t) (hK : kkV t res) : jE d 196 7 [(0, .ref 106), (1, .int x1), (2, .int x2)] [] σ res := by
  refine jx_loop_ok (E := fun s t => ∀ res, kkV t res → jE d 196 7 [(0, .ref 106), (1, .int s.1), (2, .int s.2.1)] [] s.2.2 res) (fun s t hs => ?_) _ _ _ h res hK
  cases t with
  | inl s1 => exact fun b hb res hk => x_r_greatest_7_s d hd (s.1) (s.2.1) (s.2.2) _ res hs (hb res hk)
  | inr b => exact fun res hk => x_r_greatest_7_s d hd (s.1) (s.2.1) (s.2.2) _ res hs hk
def p_r_greatest (x1 : Int32) (σ : jx_S) : Option jx_S := (p_r_greatest_7 x1 (0 : Int32) (jx_i σ 106 56 x1))
theorem x_r_greatest (d : Nat) (hd : 1 ≤ d) (x1 : Int32) (σ : jx_S) (t : jx_S) (res : Option Value × jx_S) (h : p_r_greatest x1 σ = some t) (hK : kkV t res) : jE d 196 0 [(0, .ref 106), (1, .int x1)] [] σ res := by
  unfold p_r_greatest at h
  refine jE_blk (bs := [(.aload_n 0, 0, 0), (.iload_n 1, 0, 0), (.putfield 392, 12, 56), (.iconst (0), 0, 0), (.istore_n 2, 3, 0)]) (i := .iload_n 2) (a1 := 0) (a2 := 0) (pc1 := 7) (l1 := [(2, .int (0 : Int32)), (0, .ref 106), (1, .int x1)]) (st1 := []) (σ1 := (jx_i σ 106 56 x1)) (by decide +kernel) rfl (fun hC => ?_)
  exact jE_loc (l := [(0, .ref 106), (1, .int x1), (2, .int (0 : Int32))]) (ks := [0, 1, 2]) rfl (by decide) ⟨rfl, rfl, rfl, trivial⟩ (x_r_greatest_7 d hd x1 (0 : Int32) (jx_i σ 106 56 x1) _ res h hK)
def kk_r_round_4 (d : Nat) (t : ((Int32 × Int32 × jx_S) ⊕ (Int32 × jx_S))) (res : Option Value × jx_S) : Prop := match t with
  | .inl s => jE d 197 4 [(0, .ref 106), (1, .int s.1), (2, .int s.2.1)] [] s.2.2 res
  | .inr t => kkI t res
def kk_r_round_166 (d : Nat) (t : ((Int32 × Int32 × jx_S) ⊕ (Int32 × jx_S))) (res : Option Value × jx_S) : Prop := match t with
  | .inl s => jE d 197 166 [(0, .ref 106), (1, .int s.1), (2, .int s.2.1)] [] s.2.2 res
  | .inr t => kkI t res
def p_r_round_166_s (x1 : Int32) (x2 : Int32) (σ : jx_S) : Option ((Int32 × Int32 × jx_S) ⊕ (Int32 × jx_S)) := (if ((1000 : Int32) * (σ.1 106 38)) ≤ x2 then (Option.map Sum.inr (if x1 = 0 ∨ x1 = 1 then (some ((x1, (jx_i σ 106 39 ((σ.1 106 39) + (1 : Int32)))))) else none)) else (if x2 < 0 ∨ 40000 ≤ (x2).toNatClampNeg then none else (if x2 < 0 ∨ 40000 ≤ (x2).toNatClampNeg then none else (some (.inl (x1, (x2 + 1), (jx_i σ 146 (x2).toNatClampNeg ((σ.1 147) (x2).toNatClampNeg))))))))
theorem x_r_round_166_s (d : Nat) (hd : 5 ≤ d) (x1 : Int32) (x2 : Int32) (σ : jx_S) (t : ((Int32 × Int32 × jx_S) ⊕ (Int32 × jx_S))) (res : Option Value × jx_S) (h : p_r_round_166_s x1 x2 σ = some t) (hK : kk_r_round_166 d t res) : jE d 197 166 [(0, .ref 106), (1, .int x1), (2, .int x2)] [] σ res := by
  unfold p_r_round_166_s at h
  refine jE_blk (bs := [(.iload_n 2, 0, 0), (.sipush (1000), 1000, 0), (.aload_n 0, 0, 0), (.getfield 219, 12, 38), (.imul, 0, 0)]) (i := .if_icmp .ge (21)) (a1 := 0) (a2 := 0) (pc1 := 175) (l1 := [(0, .ref 106), (1, .int x1), (2, .int x2)]) (st1 := [.int ((1000 : Int32) * (σ.1 106 38)), .int x2]) (σ1 := σ) (by decide +kernel) rfl (fun hC => ?_)
  rcases Classical.em (((1000 : Int32) * (σ.1 106 38)) ≤ x2) with hc | hc
  · rw [if_pos hc] at h
    refine jE_icT 196 hC (by decide) hc ?_
    obtain ⟨t9_1, h9_1, h8_1⟩ := Option.map_eq_some_iff.mp h
    clear h
    subst h8_1
    have h := h9_1
    clear h9_1
    refine jE_blk (bs := [(.aload_n 0, 0, 0), (.dup, 0, 0), (.getfield 222, 12, 39), (.iconst (1), 1, 0), (.iadd, 0, 0), (.putfield 222, 12, 39), (.iload_n 1, 0, 0)]) (i := .ireturn) (a1 := 1) (a2 := 0) (pc1 := 207) (l1 := [(0, .ref 106), (1, .int x1), (2, .int x2)]) (st1 := [.int x1]) (σ1 := (jx_i σ 106 39 ((σ.1 106 39) + (1 : Int32)))) (by decide +kernel) rfl (fun hC => ?_)
    obtain ⟨hb, h⟩ := jx_ite_inv h
    have h9 := Option.some.inj h
    subst h9
    have e9 : ((some (.int x1), (jx_i σ 106 39 ((σ.1 106 39) + (1 : Int32)))) : Option Value × jx_S) = res := hK
    subst e9
    exact jE_bret hC hb
  · rw [if_neg hc] at h
    refine jE_icF 196 hC (by decide) hc ?_
    refine jE_blk (bs := [(.aload_n 0, 0, 0), (.getfield 133, 12, 57), (.iload_n 2, 0, 0), (.aload_n 0, 0, 0), (.getfield 136, 12, 58), (.iload_n 2, 0, 0)]) (i := .iaload) (a1 := 0) (a2 := 0) (pc1 := 188) (l1 := [(0, .ref 106), (1, .int x1), (2, .int x2)]) (st1 := [.int x2, .ref 147, .int x2, .ref 146]) (σ1 := σ) (by decide +kernel) rfl (fun hC => ?_)
    obtain ⟨hi, h⟩ := jx_ite0_inv h
    refine jE_iald (n := 40000) hC (by decide) rfl hi ?_
    refine jE_blk (bs := []) (i := .iastore) (a1 := 0) (a2 := 0) (pc1 := 189) (l1 := [(0, .ref 106), (1, .int x1), (2, .int x2)]) (st1 := [.int ((σ.1 147) (x2).toNatClampNeg), .int x2, .ref 146]) (σ1 := σ) (by decide +kernel) rfl (fun hC => ?_)
    obtain ⟨hi, h⟩ := jx_ite0_inv h
    refine jE_iast (n := 40000) hC (by decide) rfl hi ?_
    refine jE_blk (bs := [(.iinc 2 (1), 7, 2), (.goto (-27), 0, 0)]) (i := .iload_n 2) (a1 := 0) (a2 := 0) (pc1 := 166) (l1 := [(2, .int (x2 + 1)), (0, .ref 106), (1, .int x1)]) (st1 := []) (σ1 := (jx_i σ 146 (x2).toNatClampNeg ((σ.1 147) (x2).toNatClampNeg))) (by decide +kernel) rfl (fun hC => ?_)
    have h9 := Option.some.inj h
    subst h9
    exact jE_loc (l := [(0, .ref 106), (1, .int x1), (2, .int (x2 + 1))]) (ks := [0, 1, 2]) rfl (by decide) ⟨rfl, rfl, rfl, trivial⟩ hK
def p_r_round_166 (x1 : Int32) (x2 : Int32) (σ : jx_S) : Option (Int32 × jx_S) := jx_loop 100000000 (fun s => p_r_round_166_s s.1 s.2.1 (s.2.2)) (x1, x2, σ)
theorem x_r_round_166 (d : Nat) (hd : 5 ≤ d) (x1 : Int32) (x2 : Int32) (σ : jx_S) (t : (Int32 × jx_S)) (res : Option Value × jx_S) (h : p_r_round_166 x1 x2 σ = some t) (hK : kkI t res) : jE d 197 166 [(0, .ref 106), (1, .int x1), (2, .int x2)] [] σ res := by
  refine jx_loop_ok (E := fun s t => ∀ res, kkI t res → jE d 197 166 [(0, .ref 106), (1, .int s.1), (2, .int s.2.1)] [] s.2.2 res) (fun s t hs => ?_) _ _ _ h res hK
  cases t with
  | inl s1 => exact fun b hb res hk => x_r_round_166_s d hd (s.1) (s.2.1) (s.2.2) _ res hs (hb res hk)
  | inr b => exact fun res hk => x_r_round_166_s d hd (s.1) (s.2.1) (s.2.2) _ res hs hk
def kk_r_round_14 (d : Nat) (t : ((Int32 × Int32 × Int32 × jx_S) ⊕ ((Int32 × Int32 × jx_S) ⊕ (Int32 × jx_S)))) (res : Option Value × jx_S) : Prop := match t with
  | .inl s => jE d 197 14 [(0, .ref 106), (1, .int s.1), (2, .int s.2.1), (3, .int s.2.2.1)] [] s.2.2.2 res
  | .inr t => kk_r_round_4 d t res
def kk_r_round_42 (d : Nat) (t : ((Int32 × Int32 × Int32 × Int32 × Int32 × jx_S) ⊕ ((Int32 × Int32 × Int32 × jx_S) ⊕ ((Int32 × Int32 × jx_S) ⊕ (Int32 × jx_S))))) (res : Option Value × jx_S) : Prop := match t with
  | .inl s => jE d 197 42 [(0, .ref 106), (1, .int s.1), (2, .int s.2.1), (3, .int s.2.2.1), (4, .int s.2.2.2.1), (5, .int s.2.2.2.2.1)] [] s.2.2.2.2.2 res
  | .inr t => kk_r_round_14 d t res
def p_r_round_150 (x2 : Int32) (x3 : Int32) (y0 : Int32) (y1 : Int32) (σ : jx_S) : Option ((Int32 × Int32 × Int32 × jx_S) ⊕ ((Int32 × Int32 × jx_S) ⊕ (Int32 × jx_S))) := (some (.inl ((y1 ||| y0), x2, (x3 + 1), σ)))
theorem x_r_round_150 (d : Nat) (hd : 5 ≤ d) (x2 : Int32) (x3 : Int32) (y0 : Int32) (y1 : Int32) (σ : jx_S) (t : ((Int32 × Int32 × Int32 × jx_S) ⊕ ((Int32 × Int32 × jx_S) ⊕ (Int32 × jx_S)))) (res : Option Value × jx_S) (h : p_r_round_150 x2 x3 y0 y1 σ = some t) (hK : kk_r_round_14 d t res) : jE d 197 150 [(0, .ref 106), (2, .int x2), (3, .int x3)] [.int y0, .int y1] σ res := by
  unfold p_r_round_150 at h
  refine jE_blk (bs := [(.ior, 0, 0), (.istore_n 1, 7, 0), (.iinc 3 (1), 7, 2), (.goto (-141), 0, 0)]) (i := .iload_n 3) (a1 := 0) (a2 := 0) (pc1 := 14) (l1 := [(3, .int (x3 + 1)), (1, .int (y1 ||| y0)), (0, .ref 106), (2, .int x2)]) (st1 := []) (σ1 := σ) (by decide +kernel) rfl (fun hC => ?_)
  have h9 := Option.some.inj h
  subst h9
  exact jE_loc (l := [(0, .ref 106), (1, .int (y1 ||| y0)), (2, .int x2), (3, .int (x3 + 1))]) (ks := [0, 1, 2, 3]) rfl (by decide) ⟨rfl, rfl, rfl, rfl, trivial⟩ hK
def p_r_round_42_s (x1 : Int32) (x2 : Int32) (x3 : Int32) (x4 : Int32) (x5 : Int32) (σ : jx_S) : Option ((Int32 × Int32 × Int32 × Int32 × Int32 × jx_S) ⊕ ((Int32 × Int32 × Int32 × jx_S) ⊕ ((Int32 × Int32 × jx_S) ⊕ (Int32 × jx_S)))) := (if x5 < 0 then (Option.map Sum.inr (if x2 < 0 ∨ 40 ≤ (x2).toNatClampNeg then none else (if x2 < 0 ∨ 40 ≤ (x2).toNatClampNeg then none else ((p_r_work ((σ.1 132) (x2).toNatClampNeg) ((σ.1 131) (x2).toNatClampNeg) σ).bind fun q5 => (if (((1000 : Int32) * x2) + x3) < 0 ∨ 40000 ≤ ((((1000 : Int32) * x2) + x3)).toNatClampNeg then none else (if (((1000 : Int32) * x2) + x3) < 0 ∨ 40000 ≤ ((((1000 : Int32) * x2) + x3)).toNatClampNeg then none else (if (((1000 : Int32) * x2) + x3) < 0 ∨ 40000 ≤ ((((1000 : Int32) * x2) + x3)).toNatClampNeg then none else (if (((jx_i q5.2 147 ((((1000 : Int32) * x2) + x3)).toNatClampNeg q5.1).1 147) ((((1000 : Int32) * x2) + x3)).toNatClampNeg) = ((q5.2.1 146) ((((1000 : Int32) * x2) + x3)).toNatClampNeg) then (p_r_round_150 x2 x3 (0 : Int32) x1 (jx_i q5.2 147 ((((1000 : Int32) * x2) + x3)).toNatClampNeg q5.1)) else (p_r_round_150 x2 x3 (1 : Int32) x1 (jx_i q5.2 147 ((((1000 : Int32) * x2) + x3)).toNatClampNeg q5.1)))))))))) else (if (((8 : Int32) * x2) + x5) < 0 ∨ 320 ≤ ((((8 : Int32) * x2) + x5)).toNatClampNeg then none else (if (v_r_points ((σ.1 135) ((((8 : Int32) * x2) + x5)).toNatClampNeg) σ) = 0 then none else (if x5 < 0 ∨ 32 ≤ (x5).toNatClampNeg then none else (if (v_r_points ((σ.1 135) ((((8 : Int32) * x2) + x5)).toNatClampNeg) σ) = 0 then none else (some (.inl (x1, x2, x3, (x4 / (v_r_points ((σ.1 135) ((((8 : Int32) * x2) + x5)).toNatClampNeg) σ)), (x5 + (-1)), (jx_i σ 149 (x5).toNatClampNeg (x4 - x4 / (v_r_points ((σ.1 135) ((((8 : Int32) * x2) + x5)).toNatClampNeg) σ) * (v_r_points ((σ.1 135) ((((8 : Int32) * x2) + x5)).toNatClampNeg) σ)))))))))))
theorem x_r_round_42_s (d : Nat) (hd : 5 ≤ d) (x1 : Int32) (x2 : Int32) (x3 : Int32) (x4 : Int32) (x5 : Int32) (σ : jx_S) (t : ((Int32 × Int32 × Int32 × Int32 × Int32 × jx_S) ⊕ ((Int32 × Int32 × Int32 × jx_S) ⊕ ((Int32 × Int32 × jx_S) ⊕ (Int32 × jx_S))))) (res : Option Value × jx_S) (h : p_r_round_42_s x1 x2 x3 x4 x5 σ = some t) (hK : kk_r_round_42 d t res) : jE d 197 42 [(0, .ref 106), (1, .int x1), (2, .int x2), (3, .int x3), (4, .int x4), (5, .int x5)] [] σ res := by
  unfold p_r_round_42_s at h
  refine jE_blk (bs := [(.iload 5, 0, 0)]) (i := .ifCond .lt (45)) (a1 := 0) (a2 := 0) (pc1 := 44) (l1 := [(0, .ref 106), (1, .int x1), (2, .int x2), (3, .int x3), (4, .int x4), (5, .int x5)]) (st1 := [.int x5]) (σ1 := σ) (by decide +kernel) rfl (fun hC => ?_)
  rcases Classical.em (x5 < 0) with hc | hc
  · rw [if_pos hc] at h
    refine jE_ifT 89 hC (by decide) hc ?_
    obtain ⟨t9_6, h9_6, h8_6⟩ := Option.map_eq_some_iff.mp h
    clear h
    subst h8_6
    have h := h9_6
    clear h9_6
    refine jE_blk (bs := [(.aload_n 0, 0, 0), (.getfield 136, 12, 58), (.sipush (1000), 1000, 0), (.iload_n 2, 0, 0), (.imul, 0, 0), (.iload_n 3, 0, 0), (.iadd, 0, 0), (.aload_n 0, 0, 0), (.aload_n 0, 0, 0), (.getfield 90, 12, 32), (.iload_n 2, 0, 0)]) (i := .iaload) (a1 := 0) (a2 := 0) (pc1 := 106) (l1 := [(0, .ref 106), (1, .int x1), (2, .int x2), (3, .int x3), (4, .int x4), (5, .int x5)]) (st1 := [.int x2, .ref 132, .ref 106, .int (((1000 : Int32) * x2) + x3), .ref 147]) (σ1 := σ) (by decide +kernel) rfl (fun hC => ?_)
    obtain ⟨hi, h⟩ := jx_ite0_inv h
    refine jE_iald (n := 40) hC (by decide) rfl hi ?_
    refine jE_blk (bs := [(.aload_n 0, 0, 0), (.getfield 87, 12, 31), (.iload_n 2, 0, 0)]) (i := .iaload) (a1 := 0) (a2 := 0) (pc1 := 112) (l1 := [(0, .ref 106), (1, .int x1), (2, .int x2), (3, .int x3), (4, .int x4), (5, .int x5)]) (st1 := [.int x2, .ref 131, .int ((σ.1 132) (x2).toNatClampNeg), .ref 106, .int (((1000 : Int32) * x2) + x3), .ref 147]) (σ1 := σ) (by decide +kernel) rfl (fun hC => ?_)
    obtain ⟨hi, h⟩ := jx_ite0_inv h
    refine jE_iald (n := 40) hC (by decide) rfl hi ?_
    refine jE_blk (bs := []) (i := .invokevirtual 451) (a1 := 195) (a2 := 0) (pc1 := 113) (l1 := [(0, .ref 106), (1, .int x1), (2, .int x2), (3, .int x3), (4, .int x4), (5, .int x5)]) (st1 := [.int ((σ.1 131) (x2).toNatClampNeg), .int ((σ.1 132) (x2).toNatClampNeg), .ref 106, .int (((1000 : Int32) * x2) + x3), .ref 147]) (σ1 := σ) (by decide +kernel) rfl (fun hC => ?_)
    obtain ⟨q5, hq, h⟩ := Option.bind_eq_some_iff.mp h
    refine jE_call (as := [.ref 106, .int ((σ.1 132) (x2).toNatClampNeg), .int ((σ.1 131) (x2).toNatClampNeg)]) (pc1 := 116) (st1 := [.int (((1000 : Int32) * x2) + x3), .ref 147]) hC rfl (by decide) (by omega) (x_r_work (d - 1) (by omega) ((σ.1 132) (x2).toNatClampNeg) ((σ.1 131) (x2).toNatClampNeg) σ q5 (some (.int q5.1), q5.2) hq rfl) ?_
    refine jE_blk (bs := []) (i := .iastore) (a1 := 0) (a2 := 0) (pc1 := 116) (l1 := [(0, .ref 106), (1, .int x1), (2, .int x2), (3, .int x3), (4, .int x4), (5, .int x5)]) (st1 := [.int q5.1, .int (((1000 : Int32) * x2) + x3), .ref 147]) (σ1 := q5.2) (by decide +kernel) rfl (fun hC => ?_)
    obtain ⟨hi, h⟩ := jx_ite0_inv h
    refine jE_iast (n := 40000) hC (by decide) rfl hi ?_
    refine jE_blk (bs := [(.iload_n 1, 0, 0), (.aload_n 0, 0, 0), (.getfield 136, 12, 58), (.sipush (1000), 1000, 0), (.iload_n 2, 0, 0), (.imul, 0, 0), (.iload_n 3, 0, 0), (.iadd, 0, 0)]) (i := .iaload) (a1 := 0) (a2 := 0) (pc1 := 129) (l1 := [(0, .ref 106), (1, .int x1), (2, .int x2), (3, .int x3), (4, .int x4), (5, .int x5)]) (st1 := [.int (((1000 : Int32) * x2) + x3), .ref 147, .int x1]) (σ1 := (jx_i q5.2 147 ((((1000 : Int32) * x2) + x3)).toNatClampNeg q5.1)) (by decide +kernel) rfl (fun hC => ?_)
    obtain ⟨hi, h⟩ := jx_ite0_inv h
    refine jE_iald (n := 40000) hC (by decide) rfl hi ?_
    refine jE_blk (bs := [(.aload_n 0, 0, 0), (.getfield 133, 12, 57), (.sipush (1000), 1000, 0), (.iload_n 2, 0, 0), (.imul, 0, 0), (.iload_n 3, 0, 0), (.iadd, 0, 0)]) (i := .iaload) (a1 := 0) (a2 := 0) (pc1 := 141) (l1 := [(0, .ref 106), (1, .int x1), (2, .int x2), (3, .int x3), (4, .int x4), (5, .int x5)]) (st1 := [.int (((1000 : Int32) * x2) + x3), .ref 146, .int (((jx_i q5.2 147 ((((1000 : Int32) * x2) + x3)).toNatClampNeg q5.1).1 147) ((((1000 : Int32) * x2) + x3)).toNatClampNeg), .int x1]) (σ1 := (jx_i q5.2 147 ((((1000 : Int32) * x2) + x3)).toNatClampNeg q5.1)) (by decide +kernel) rfl (fun hC => ?_)
    obtain ⟨hi, h⟩ := jx_ite0_inv h
    refine jE_iald (n := 40000) hC (by decide) rfl hi ?_
    refine jE_blk (bs := []) (i := .if_icmp .eq (7)) (a1 := 0) (a2 := 0) (pc1 := 142) (l1 := [(0, .ref 106), (1, .int x1), (2, .int x2), (3, .int x3), (4, .int x4), (5, .int x5)]) (st1 := [.int ((q5.2.1 146) ((((1000 : Int32) * x2) + x3)).toNatClampNeg), .int (((jx_i q5.2 147 ((((1000 : Int32) * x2) + x3)).toNatClampNeg q5.1).1 147) ((((1000 : Int32) * x2) + x3)).toNatClampNeg), .int x1]) (σ1 := (jx_i q5.2 147 ((((1000 : Int32) * x2) + x3)).toNatClampNeg q5.1)) (by decide +kernel) rfl (fun hC => ?_)
    rcases Classical.em ((((jx_i q5.2 147 ((((1000 : Int32) * x2) + x3)).toNatClampNeg q5.1).1 147) ((((1000 : Int32) * x2) + x3)).toNatClampNeg) = ((q5.2.1 146) ((((1000 : Int32) * x2) + x3)).toNatClampNeg)) with hc | hc
    · rw [if_pos hc] at h
      refine jE_icT 149 hC (by decide) hc ?_
      refine jE_blk (bs := [(.iconst (0), 0, 0)]) (i := .ior) (a1 := 0) (a2 := 0) (pc1 := 150) (l1 := [(0, .ref 106), (1, .int x1), (2, .int x2), (3, .int x3), (4, .int x4), (5, .int x5)]) (st1 := [.int (0 : Int32), .int x1]) (σ1 := (jx_i q5.2 147 ((((1000 : Int32) * x2) + x3)).toNatClampNeg q5.1)) (by decide +kernel) rfl (fun hC => ?_)
      exact jE_loc (l := [(0, .ref 106), (2, .int x2), (3, .int x3)]) (ks := [0, 2, 3]) rfl (by decide) ⟨rfl, rfl, rfl, trivial⟩ (x_r_round_150 d hd x2 x3 (0 : Int32) x1 (jx_i q5.2 147 ((((1000 : Int32) * x2) + x3)).toNatClampNeg q5.1) _ res h hK)
    · rw [if_neg hc] at h
      refine jE_icF 149 hC (by decide) hc ?_
      refine jE_blk (bs := [(.iconst (1), 1, 0), (.goto (4), 0, 0)]) (i := .ior) (a1 := 0) (a2 := 0) (pc1 := 150) (l1 := [(0, .ref 106), (1, .int x1), (2, .int x2), (3, .int x3), (4, .int x4), (5, .int x5)]) (st1 := [.int (1 : Int32), .int x1]) (σ1 := (jx_i q5.2 147 ((((1000 : Int32) * x2) + x3)).toNatClampNeg q5.1)) (by decide +kernel) rfl (fun hC => ?_)
      exact jE_loc (l := [(0, .ref 106), (2, .int x2), (3, .int x3)]) (ks := [0, 2, 3]) rfl (by decide) ⟨rfl, rfl, rfl, trivial⟩ (x_r_round_150 d hd x2 x3 (1 : Int32) x1 (jx_i q5.2 147 ((((1000 : Int32) * x2) + x3)).toNatClampNeg q5.1) _ res h hK)
  · rw [if_neg hc] at h
    refine jE_ifF 89 hC (by decide) hc ?_
    refine jE_blk (bs := [(.aload_n 0, 0, 0), (.getfield 99, 12, 35), (.bipush (8), 8, 0), (.iload_n 2, 0, 0), (.imul, 0, 0), (.iload 5, 0, 0), (.iadd, 0, 0)]) (i := .iaload) (a1 := 0) (a2 := 0) (pc1 := 58) (l1 := [(0, .ref 106), (1, .int x1), (2, .int x2), (3, .int x3), (4, .int x4), (5, .int x5)]) (st1 := [.int (((8 : Int32) * x2) + x5), .ref 135]) (σ1 := σ) (by decide +kernel) rfl (fun hC => ?_)
    obtain ⟨hi, h⟩ := jx_ite0_inv h
    refine jE_iald (n := 320) hC (by decide) rfl hi ?_
    refine jE_blk (bs := []) (i := .invokestatic 422) (a1 := 186) (a2 := 0) (pc1 := 59) (l1 := [(0, .ref 106), (1, .int x1), (2, .int x2), (3, .int x3), (4, .int x4), (5, .int x5)]) (st1 := [.int ((σ.1 135) ((((8 : Int32) * x2) + x5)).toNatClampNeg)]) (σ1 := σ) (by decide +kernel) rfl (fun hC => ?_)
    refine jE_call (as := [.int ((σ.1 135) ((((8 : Int32) * x2) + x5)).toNatClampNeg)]) (pc1 := 62) (st1 := []) hC rfl (by decide) (by omega) (xv_r_points (d - 1) (by omega) ((σ.1 135) ((((8 : Int32) * x2) + x5)).toNatClampNeg) σ) ?_
    refine jE_blk (bs := [(.istore 6, 7, 0), (.aload_n 0, 0, 0), (.getfield 142, 12, 60), (.iload 5, 0, 0), (.iload 4, 0, 0), (.iload 6, 0, 0)]) (i := .irem) (a1 := 0) (a2 := 0) (pc1 := 74) (l1 := [(6, .int (v_r_points ((σ.1 135) ((((8 : Int32) * x2) + x5)).toNatClampNeg) σ)), (0, .ref 106), (1, .int x1), (2, .int x2), (3, .int x3), (4, .int x4), (5, .int x5)]) (st1 := [.int (v_r_points ((σ.1 135) ((((8 : Int32) * x2) + x5)).toNatClampNeg) σ), .int x4, .int x5, .ref 149]) (σ1 := σ) (by decide +kernel) rfl (fun hC => ?_)
    obtain ⟨hi, h⟩ := jx_ite0_inv h
    refine jE_irem hC hi ?_
    refine jE_blk (bs := []) (i := .iastore) (a1 := 0) (a2 := 0) (pc1 := 75) (l1 := [(6, .int (v_r_points ((σ.1 135) ((((8 : Int32) * x2) + x5)).toNatClampNeg) σ)), (0, .ref 106), (1, .int x1), (2, .int x2), (3, .int x3), (4, .int x4), (5, .int x5)]) (st1 := [.int (x4 - x4 / (v_r_points ((σ.1 135) ((((8 : Int32) * x2) + x5)).toNatClampNeg) σ) * (v_r_points ((σ.1 135) ((((8 : Int32) * x2) + x5)).toNatClampNeg) σ)), .int x5, .ref 149]) (σ1 := σ) (by decide +kernel) rfl (fun hC => ?_)
    obtain ⟨hi, h⟩ := jx_ite0_inv h
    refine jE_iast (n := 32) hC (by decide) rfl hi ?_
    refine jE_blk (bs := [(.iload 4, 0, 0), (.iload 6, 0, 0)]) (i := .idiv) (a1 := 0) (a2 := 0) (pc1 := 80) (l1 := [(6, .int (v_r_points ((σ.1 135) ((((8 : Int32) * x2) + x5)).toNatClampNeg) σ)), (0, .ref 106), (1, .int x1), (2, .int x2), (3, .int x3), (4, .int x4), (5, .int x5)]) (st1 := [.int (v_r_points ((σ.1 135) ((((8 : Int32) * x2) + x5)).toNatClampNeg) σ), .int x4]) (σ1 := (jx_i σ 149 (x5).toNatClampNeg (x4 - x4 / (v_r_points ((σ.1 135) ((((8 : Int32) * x2) + x5)).toNatClampNeg) σ) * (v_r_points ((σ.1 135) ((((8 : Int32) * x2) + x5)).toNatClampNeg) σ)))) (by decide +kernel) rfl (fun hC => ?_)
    obtain ⟨hi, h⟩ := jx_ite0_inv h
    refine jE_idiv hC hi ?_
    refine jE_blk (bs := [(.istore 4, 7, 0), (.iinc 5 (-1), 7, 3), (.goto (-44), 0, 0)]) (i := .iload 5) (a1 := 0) (a2 := 0) (pc1 := 42) (l1 := [(5, .int (x5 + (-1))), (4, .int (x4 / (v_r_points ((σ.1 135) ((((8 : Int32) * x2) + x5)).toNatClampNeg) σ))), (6, .int (v_r_points ((σ.1 135) ((((8 : Int32) * x2) + x5)).toNatClampNeg) σ)), (0, .ref 106), (1, .int x1), (2, .int x2), (3, .int x3)]) (st1 := []) (σ1 := (jx_i σ 149 (x5).toNatClampNeg (x4 - x4 / (v_r_points ((σ.1 135) ((((8 : Int32) * x2) + x5)).toNatClampNeg) σ) * (v_r_points ((σ.1 135) ((((8 : Int32) * x2) + x5)).toNatClampNeg) σ)))) (by decide +kernel) rfl (fun hC => ?_)
    have h9 := Option.some.inj h
    subst h9
    exact jE_loc (l := [(0, .ref 106), (1, .int x1), (2, .int x2), (3, .int x3), (4, .int (x4 / (v_r_points ((σ.1 135) ((((8 : Int32) * x2) + x5)).toNatClampNeg) σ))), (5, .int (x5 + (-1)))]) (ks := [0, 1, 2, 3, 4, 5]) rfl (by decide) ⟨rfl, rfl, rfl, rfl, rfl, rfl, trivial⟩ hK
def p_r_round_42 (x1 : Int32) (x2 : Int32) (x3 : Int32) (x4 : Int32) (x5 : Int32) (σ : jx_S) : Option ((Int32 × Int32 × Int32 × jx_S) ⊕ ((Int32 × Int32 × jx_S) ⊕ (Int32 × jx_S))) := jx_loop 100000000 (fun s => p_r_round_42_s s.1 s.2.1 s.2.2.1 s.2.2.2.1 s.2.2.2.2.1 (s.2.2.2.2.2)) (x1, x2, x3, x4, x5, σ)
theorem x_r_round_42 (d : Nat) (hd : 5 ≤ d) (x1 : Int32) (x2 : Int32) (x3 : Int32) (x4 : Int32) (x5 : Int32) (σ : jx_S) (t : ((Int32 × Int32 × Int32 × jx_S) ⊕ ((Int32 × Int32 × jx_S) ⊕ (Int32 × jx_S)))) (res : Option Value × jx_S) (h : p_r_round_42 x1 x2 x3 x4 x5 σ = some t) (hK : kk_r_round_14 d t res) : jE d 197 42 [(0, .ref 106), (1, .int x1), (2, .int x2), (3, .int x3), (4, .int x4), (5, .int x5)] [] σ res := by
  refine jx_loop_ok (E := fun s t => ∀ res, kk_r_round_14 d t res → jE d 197 42 [(0, .ref 106), (1, .int s.1), (2, .int s.2.1), (3, .int s.2.2.1), (4, .int s.2.2.2.1), (5, .int s.2.2.2.2.1)] [] s.2.2.2.2.2 res) (fun s t hs => ?_) _ _ _ h res hK
  cases t with
  | inl s1 => exact fun b hb res hk => x_r_round_42_s d hd (s.1) (s.2.1) (s.2.2.1) (s.2.2.2.1) (s.2.2.2.2.1) (s.2.2.2.2.2) _ res hs (hb res hk)
  | inr b => exact fun res hk => x_r_round_42_s d hd (s.1) (s.2.1) (s.2.2.1) (s.2.2.2.1) (s.2.2.2.2.1) (s.2.2.2.2.2) _ res hs hk
def p_r_round_14_s (x1 : Int32) (x2 : Int32) (x3 : Int32) (σ : jx_S) : Option ((Int32 × Int32 × Int32 × jx_S) ⊕ ((Int32 × Int32 × jx_S) ⊕ (Int32 × jx_S))) := (if x2 < 0 ∨ 40 ≤ (x2).toNatClampNeg then none else (if ((σ.1 133) (x2).toNatClampNeg) ≤ x3 then (Option.map Sum.inr (some (.inl (x1, (x2 + 1), σ)))) else ((p_r_greatest x2 σ).bind fun q4 => (if x2 < 0 ∨ 40 ≤ (x2).toNatClampNeg then none else (p_r_round_42 x1 x2 x3 x3 (((q4.1 127) (x2).toNatClampNeg) - (1 : Int32)) q4)))))
theorem x_r_round_14_s (d : Nat) (hd : 5 ≤ d) (x1 : Int32) (x2 : Int32) (x3 : Int32) (σ : jx_S) (t : ((Int32 × Int32 × Int32 × jx_S) ⊕ ((Int32 × Int32 × jx_S) ⊕ (Int32 × jx_S)))) (res : Option Value × jx_S) (h : p_r_round_14_s x1 x2 x3 σ = some t) (hK : kk_r_round_14 d t res) : jE d 197 14 [(0, .ref 106), (1, .int x1), (2, .int x2), (3, .int x3)] [] σ res := by
  unfold p_r_round_14_s at h
  refine jE_blk (bs := [(.iload_n 3, 0, 0), (.aload_n 0, 0, 0), (.getfield 93, 12, 33), (.iload_n 2, 0, 0)]) (i := .iaload) (a1 := 0) (a2 := 0) (pc1 := 20) (l1 := [(0, .ref 106), (1, .int x1), (2, .int x2), (3, .int x3)]) (st1 := [.int x2, .ref 133, .int x3]) (σ1 := σ) (by decide +kernel) rfl (fun hC => ?_)
  obtain ⟨hi, h⟩ := jx_ite0_inv h
  refine jE_iald (n := 40) hC (by decide) rfl hi ?_
  refine jE_blk (bs := []) (i := .if_icmp .ge (137)) (a1 := 0) (a2 := 0) (pc1 := 21) (l1 := [(0, .ref 106), (1, .int x1), (2, .int x2), (3, .int x3)]) (st1 := [.int ((σ.1 133) (x2).toNatClampNeg), .int x3]) (σ1 := σ) (by decide +kernel) rfl (fun hC => ?_)
  rcases Classical.em (((σ.1 133) (x2).toNatClampNeg) ≤ x3) with hc | hc
  · rw [if_pos hc] at h
    refine jE_icT 158 hC (by decide) hc ?_
    obtain ⟨t9_3, h9_3, h8_3⟩ := Option.map_eq_some_iff.mp h
    clear h
    subst h8_3
    have h := h9_3
    clear h9_3
    refine jE_blk (bs := [(.iinc 2 (1), 7, 2), (.goto (-157), 0, 0)]) (i := .iload_n 2) (a1 := 0) (a2 := 0) (pc1 := 4) (l1 := [(2, .int (x2 + 1)), (0, .ref 106), (1, .int x1), (3, .int x3)]) (st1 := []) (σ1 := σ) (by decide +kernel) rfl (fun hC => ?_)
    have h9 := Option.some.inj h
    subst h9
    exact jE_loc (l := [(0, .ref 106), (1, .int x1), (2, .int (x2 + 1))]) (ks := [0, 1, 2]) rfl (by decide) ⟨rfl, rfl, rfl, trivial⟩ hK
  · rw [if_neg hc] at h
    refine jE_icF 158 hC (by decide) hc ?_
    refine jE_blk (bs := [(.aload_n 0, 0, 0), (.iload_n 2, 0, 0)]) (i := .invokevirtual 448) (a1 := 196) (a2 := 0) (pc1 := 26) (l1 := [(0, .ref 106), (1, .int x1), (2, .int x2), (3, .int x3)]) (st1 := [.int x2, .ref 106]) (σ1 := σ) (by decide +kernel) rfl (fun hC => ?_)
    obtain ⟨q4, hq, h⟩ := Option.bind_eq_some_iff.mp h
    refine jE_call (as := [.ref 106, .int x2]) (pc1 := 29) (st1 := []) hC rfl (by decide) (by omega) (x_r_greatest (d - 1) (by omega) x2 σ q4 (none, q4) hq rfl) ?_
    refine jE_blk (bs := [(.iload_n 3, 0, 0), (.istore 4, 7, 0), (.aload_n 0, 0, 0), (.getfield 75, 12, 27), (.iload_n 2, 0, 0)]) (i := .iaload) (a1 := 0) (a2 := 0) (pc1 := 37) (l1 := [(4, .int x3), (0, .ref 106), (1, .int x1), (2, .int x2), (3, .int x3)]) (st1 := [.int x2, .ref 127]) (σ1 := q4) (by decide +kernel) rfl (fun hC => ?_)
    obtain ⟨hi, h⟩ := jx_ite0_inv h
    refine jE_iald (n := 40) hC (by decide) rfl hi ?_
    refine jE_blk (bs := [(.iconst (1), 1, 0), (.isub, 0, 0), (.istore 5, 7, 0)]) (i := .iload 5) (a1 := 0) (a2 := 0) (pc1 := 42) (l1 := [(5, .int (((q4.1 127) (x2).toNatClampNeg) - (1 : Int32))), (4, .int x3), (0, .ref 106), (1, .int x1), (2, .int x2), (3, .int x3)]) (st1 := []) (σ1 := q4) (by decide +kernel) rfl (fun hC => ?_)
    exact jE_loc (l := [(0, .ref 106), (1, .int x1), (2, .int x2), (3, .int x3), (4, .int x3), (5, .int (((q4.1 127) (x2).toNatClampNeg) - (1 : Int32)))]) (ks := [0, 1, 2, 3, 4, 5]) rfl (by decide) ⟨rfl, rfl, rfl, rfl, rfl, rfl, trivial⟩ (x_r_round_42 d hd x1 x2 x3 x3 (((q4.1 127) (x2).toNatClampNeg) - (1 : Int32)) q4 _ res h hK)
def p_r_round_14 (x1 : Int32) (x2 : Int32) (x3 : Int32) (σ : jx_S) : Option ((Int32 × Int32 × jx_S) ⊕ (Int32 × jx_S)) := jx_loop 100000000 (fun s => p_r_round_14_s s.1 s.2.1 s.2.2.1 (s.2.2.2)) (x1, x2, x3, σ)
theorem x_r_round_14 (d : Nat) (hd : 5 ≤ d) (x1 : Int32) (x2 : Int32) (x3 : Int32) (σ : jx_S) (t : ((Int32 × Int32 × jx_S) ⊕ (Int32 × jx_S))) (res : Option Value × jx_S) (h : p_r_round_14 x1 x2 x3 σ = some t) (hK : kk_r_round_4 d t res) : jE d 197 14 [(0, .ref 106), (1, .int x1), (2, .int x2), (3, .int x3)] [] σ res := by
  refine jx_loop_ok (E := fun s t => ∀ res, kk_r_round_4 d t res → jE d 197 14 [(0, .ref 106), (1, .int s.1), (2, .int s.2.1), (3, .int s.2.2.1)] [] s.2.2.2 res) (fun s t hs => ?_) _ _ _ h res hK
  cases t with
  | inl s1 => exact fun b hb res hk => x_r_round_14_s d hd (s.1) (s.2.1) (s.2.2.1) (s.2.2.2) _ res hs (hb res hk)
  | inr b => exact fun res hk => x_r_round_14_s d hd (s.1) (s.2.1) (s.2.2.1) (s.2.2.2) _ res hs hk
def p_r_round_4_s (x1 : Int32) (x2 : Int32) (σ : jx_S) : Option ((Int32 × Int32 × jx_S) ⊕ (Int32 × jx_S)) := (if (σ.1 106 38) ≤ x2 then (Option.map Sum.inr (p_r_round_166 x1 (0 : Int32) σ)) else (p_r_round_14 x1 x2 (0 : Int32) σ))
theorem x_r_round_4_s (d : Nat) (hd : 5 ≤ d) (x1 : Int32) (x2 : Int32) (σ : jx_S) (t : ((Int32 × Int32 × jx_S) ⊕ (Int32 × jx_S))) (res : Option Value × jx_S) (h : p_r_round_4_s x1 x2 σ = some t) (hK : kk_r_round_4 d t res) : jE d 197 4 [(0, .ref 106), (1, .int x1), (2, .int x2)] [] σ res := by
  unfold p_r_round_4_s at h
  refine jE_blk (bs := [(.iload_n 2, 0, 0), (.aload_n 0, 0, 0), (.getfield 219, 12, 38)]) (i := .if_icmp .ge (155)) (a1 := 0) (a2 := 0) (pc1 := 9) (l1 := [(0, .ref 106), (1, .int x1), (2, .int x2)]) (st1 := [.int (σ.1 106 38), .int x2]) (σ1 := σ) (by decide +kernel) rfl (fun hC => ?_)
  rcases Classical.em ((σ.1 106 38) ≤ x2) with hc | hc
  · rw [if_pos hc] at h
    refine jE_icT 164 hC (by decide) hc ?_
    obtain ⟨t9_2, h9_2, h8_2⟩ := Option.map_eq_some_iff.mp h
    clear h
    subst h8_2
    have h := h9_2
    clear h9_2
    refine jE_blk (bs := [(.iconst (0), 0, 0), (.istore_n 2, 7, 0)]) (i := .iload_n 2) (a1 := 0) (a2 := 0) (pc1 := 166) (l1 := [(2, .int (0 : Int32)), (0, .ref 106), (1, .int x1)]) (st1 := []) (σ1 := σ) (by decide +kernel) rfl (fun hC => ?_)
    exact jE_loc (l := [(0, .ref 106), (1, .int x1), (2, .int (0 : Int32))]) (ks := [0, 1, 2]) rfl (by decide) ⟨rfl, rfl, rfl, trivial⟩ (x_r_round_166 d hd x1 (0 : Int32) σ _ res h hK)
  · rw [if_neg hc] at h
    refine jE_icF 164 hC (by decide) hc ?_
    refine jE_blk (bs := [(.iconst (0), 0, 0), (.istore_n 3, 7, 0)]) (i := .iload_n 3) (a1 := 0) (a2 := 0) (pc1 := 14) (l1 := [(3, .int (0 : Int32)), (0, .ref 106), (1, .int x1), (2, .int x2)]) (st1 := []) (σ1 := σ) (by decide +kernel) rfl (fun hC => ?_)
    exact jE_loc (l := [(0, .ref 106), (1, .int x1), (2, .int x2), (3, .int (0 : Int32))]) (ks := [0, 1, 2, 3]) rfl (by decide) ⟨rfl, rfl, rfl, rfl, trivial⟩ (x_r_round_14 d hd x1 x2 (0 : Int32) σ _ res h hK)
def p_r_round_4 (x1 : Int32) (x2 : Int32) (σ : jx_S) : Option (Int32 × jx_S) := jx_loop 100000000 (fun s => p_r_round_4_s s.1 s.2.1 (s.2.2)) (x1, x2, σ)
theorem x_r_round_4 (d : Nat) (hd : 5 ≤ d) (x1 : Int32) (x2 : Int32) (σ : jx_S) (t : (Int32 × jx_S)) (res : Option Value × jx_S) (h : p_r_round_4 x1 x2 σ = some t) (hK : kkI t res) : jE d 197 4 [(0, .ref 106), (1, .int x1), (2, .int x2)] [] σ res := by
  refine jx_loop_ok (E := fun s t => ∀ res, kkI t res → jE d 197 4 [(0, .ref 106), (1, .int s.1), (2, .int s.2.1)] [] s.2.2 res) (fun s t hs => ?_) _ _ _ h res hK
  cases t with
  | inl s1 => exact fun b hb res hk => x_r_round_4_s d hd (s.1) (s.2.1) (s.2.2) _ res hs (hb res hk)
  | inr b => exact fun res hk => x_r_round_4_s d hd (s.1) (s.2.1) (s.2.2) _ res hs hk
def p_r_round (σ : jx_S) : Option (Int32 × jx_S) := (p_r_round_4 (0 : Int32) (0 : Int32) σ)
theorem x_r_round (d : Nat) (hd : 5 ≤ d) (σ : jx_S) (t : (Int32 × jx_S)) (res : Option Value × jx_S) (h : p_r_round σ = some t) (hK : kkI t res) : jE d 197 0 [(0, .ref 106)] [] σ res := by
  unfold p_r_round at h
  refine jE_blk (bs := [(.iconst (0), 0, 0), (.istore_n 1, 7, 0), (.iconst (0), 0, 0), (.istore_n 2, 7, 0)]) (i := .iload_n 2) (a1 := 0) (a2 := 0) (pc1 := 4) (l1 := [(2, .int (0 : Int32)), (1, .int (0 : Int32)), (0, .ref 106)]) (st1 := []) (σ1 := σ) (by decide +kernel) rfl (fun hC => ?_)
  exact jE_loc (l := [(0, .ref 106), (1, .int (0 : Int32)), (2, .int (0 : Int32))]) (ks := [0, 1, 2]) rfl (by decide) ⟨rfl, rfl, rfl, trivial⟩ (x_r_round_4 d hd (0 : Int32) (0 : Int32) σ _ res h hK)
