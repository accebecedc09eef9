def p_r_begin (x1 : Int32) (x2 : Int32) (x3 : Int32) (σ : jx_S) : Option jx_S := (if ¬ (σ.1 106 82) = (250 : Int32) then (if ¬ (σ.1 106 88) = (σ.1 106 89) then (if (σ.1 106 82) < 0 ∨ 251 ≤ ((σ.1 106 82)).toNatClampNeg then none else (if (σ.1 106 82) < 0 ∨ 251 ≤ ((σ.1 106 82)).toNatClampNeg then none else (if (σ.1 106 82) < 0 ∨ 251 ≤ ((σ.1 106 82)).toNatClampNeg then none else (if (σ.1 106 82) < 0 ∨ 251 ≤ ((σ.1 106 82)).toNatClampNeg then none else (if ((σ.1 106 82) + (1 : Int32)) ≤ (σ.1 106 83) then (some ((jx_i (jx_i (jx_i (jx_i (jx_i (jx_i (jx_i σ 106 88 ((σ.1 106 88) + (1 : Int32))) 161 ((σ.1 106 82)).toNatClampNeg x1) 162 ((σ.1 106 82)).toNatClampNeg x2) 163 ((σ.1 106 82)).toNatClampNeg (0 : Int32)) 164 ((σ.1 106 82)).toNatClampNeg x3) 106 82 ((σ.1 106 82) + (1 : Int32))) 106 83 (σ.1 106 83)))) else (some ((jx_i (jx_i (jx_i (jx_i (jx_i (jx_i (jx_i σ 106 88 ((σ.1 106 88) + (1 : Int32))) 161 ((σ.1 106 82)).toNatClampNeg x1) 162 ((σ.1 106 82)).toNatClampNeg x2) 163 ((σ.1 106 82)).toNatClampNeg (0 : Int32)) 164 ((σ.1 106 82)).toNatClampNeg x3) 106 82 ((σ.1 106 82) + (1 : Int32))) 106 83 ((σ.1 106 82) + (1 : Int32)))))))))) else (some ((jx_i σ 106 87 (3 : Int32))))) else (some ((jx_i σ 106 87 (4 : Int32)))))
theorem x_r_begin (d : Nat) (hd : 0 ≤ d) (x1 : Int32) (x2 : Int32) (x3 : Int32) (σ : jx_S) (t : jx_S) (res : Option Value × jx_S) (h : p_r_begin x1 x2 x3 σ = some t) (hK : kkV t res) : jE d 211 0 [(0, .ref 106), (1, .int x1), (2, .int x2), (3, .int x3)] [] σ res := by
  unfold p_r_begin at h
  refine jE_blk (bs := [(.aload_n 0, 0, 0), (.getfield 494, 12, 82), (.sipush (250), 250, 0)]) (i := .if_icmp .ne (9)) (a1 := 0) (a2 := 0) (pc1 := 7) (l1 := [(0, .ref 106), (1, .int x1), (2, .int x2), (3, .int x3)]) (st1 := [.int (250 : Int32), .int (σ.1 106 82)]) (σ1 := σ) (by decide +kernel) rfl (fun hC => ?_)
  rcases Classical.em (¬ (σ.1 106 82) = (250 : Int32)) with hc | hc
  · rw [if_pos hc] at h
    refine jE_icT 16 hC (by decide) hc ?_
    refine jE_blk (bs := [(.aload_n 0, 0, 0), (.getfield 503, 12, 88), (.aload_n 0, 0, 0), (.getfield 526, 12, 89)]) (i := .if_icmp .ne (9)) (a1 := 0) (a2 := 0) (pc1 := 24) (l1 := [(0, .ref 106), (1, .int x1), (2, .int x2), (3, .int x3)]) (st1 := [.int (σ.1 106 89), .int (σ.1 106 88)]) (σ1 := σ) (by decide +kernel) rfl (fun hC => ?_)
    rcases Classical.em (¬ (σ.1 106 88) = (σ.1 106 89)) with hc | hc
    · rw [if_pos hc] at h
      refine jE_icT 33 hC (by decide) hc ?_
      refine jE_blk (bs := [(.aload_n 0, 0, 0), (.dup, 0, 0), (.getfield 503, 12, 88), (.iconst (1), 1, 0), (.iadd, 0, 0), (.putfield 503, 12, 88), (.aload_n 0, 0, 0), (.getfield 179, 12, 77), (.aload_n 0, 0, 0), (.getfield 494, 12, 82), (.iload_n 1, 0, 0)]) (i := .iastore) (a1 := 0) (a2 := 0) (pc1 := 52) (l1 := [(0, .ref 106), (1, .int x1), (2, .int x2), (3, .int x3)]) (st1 := [.int x1, .int (σ.1 106 82), .ref 161]) (σ1 := (jx_i σ 106 88 ((σ.1 106 88) + (1 : Int32)))) (by decide +kernel) rfl (fun hC => ?_)
      obtain ⟨hi, h⟩ := jx_ite0_inv h
      refine jE_iast (n := 251) hC (by decide) rfl hi ?_
      refine jE_blk (bs := [(.aload_n 0, 0, 0), (.getfield 182, 12, 78), (.aload_n 0, 0, 0), (.getfield 494, 12, 82), (.iload_n 2, 0, 0)]) (i := .iastore) (a1 := 0) (a2 := 0) (pc1 := 62) (l1 := [(0, .ref 106), (1, .int x1), (2, .int x2), (3, .int x3)]) (st1 := [.int x2, .int (σ.1 106 82), .ref 162]) (σ1 := (jx_i (jx_i σ 106 88 ((σ.1 106 88) + (1 : Int32))) 161 ((σ.1 106 82)).toNatClampNeg x1)) (by decide +kernel) rfl (fun hC => ?_)
      obtain ⟨hi, h⟩ := jx_ite0_inv h
      refine jE_iast (n := 251) hC (by decide) rfl hi ?_
      refine jE_blk (bs := [(.aload_n 0, 0, 0), (.getfield 185, 12, 79), (.aload_n 0, 0, 0), (.getfield 494, 12, 82), (.iconst (0), 0, 0)]) (i := .iastore) (a1 := 0) (a2 := 0) (pc1 := 72) (l1 := [(0, .ref 106), (1, .int x1), (2, .int x2), (3, .int x3)]) (st1 := [.int (0 : Int32), .int (σ.1 106 82), .ref 163]) (σ1 := (jx_i (jx_i (jx_i σ 106 88 ((σ.1 106 88) + (1 : Int32))) 161 ((σ.1 106 82)).toNatClampNeg x1) 162 ((σ.1 106 82)).toNatClampNeg x2)) (by decide +kernel) rfl (fun hC => ?_)
      obtain ⟨hi, h⟩ := jx_ite0_inv h
      refine jE_iast (n := 251) hC (by decide) rfl hi ?_
      refine jE_blk (bs := [(.aload_n 0, 0, 0), (.getfield 188, 12, 80), (.aload_n 0, 0, 0), (.getfield 494, 12, 82), (.iload_n 3, 0, 0)]) (i := .iastore) (a1 := 0) (a2 := 0) (pc1 := 82) (l1 := [(0, .ref 106), (1, .int x1), (2, .int x2), (3, .int x3)]) (st1 := [.int x3, .int (σ.1 106 82), .ref 164]) (σ1 := (jx_i (jx_i (jx_i (jx_i σ 106 88 ((σ.1 106 88) + (1 : Int32))) 161 ((σ.1 106 82)).toNatClampNeg x1) 162 ((σ.1 106 82)).toNatClampNeg x2) 163 ((σ.1 106 82)).toNatClampNeg (0 : Int32))) (by decide +kernel) rfl (fun hC => ?_)
      obtain ⟨hi, h⟩ := jx_ite0_inv h
      refine jE_iast (n := 251) hC (by decide) rfl hi ?_
      refine jE_blk (bs := [(.aload_n 0, 0, 0), (.dup, 0, 0), (.getfield 494, 12, 82), (.iconst (1), 1, 0), (.iadd, 0, 0), (.putfield 494, 12, 82), (.aload_n 0, 0, 0), (.aload_n 0, 0, 0), (.getfield 494, 12, 82), (.aload_n 0, 0, 0), (.getfield 497, 12, 83)]) (i := .if_icmp .le (10)) (a1 := 0) (a2 := 0) (pc1 := 102) (l1 := [(0, .ref 106), (1, .int x1), (2, .int x2), (3, .int x3)]) (st1 := [.int (σ.1 106 83), .int ((σ.1 106 82) + (1 : Int32)), .ref 106]) (σ1 := (jx_i (jx_i (jx_i (jx_i (jx_i (jx_i σ 106 88 ((σ.1 106 88) + (1 : Int32))) 161 ((σ.1 106 82)).toNatClampNeg x1) 162 ((σ.1 106 82)).toNatClampNeg x2) 163 ((σ.1 106 82)).toNatClampNeg (0 : Int32)) 164 ((σ.1 106 82)).toNatClampNeg x3) 106 82 ((σ.1 106 82) + (1 : Int32)))) (by decide +kernel) rfl (fun hC => ?_)
      rcases Classical.em (((σ.1 106 82) + (1 : Int32)) ≤ (σ.1 106 83)) with hc | hc
      · rw [if_pos hc] at h
        refine jE_icT 112 hC (by decide) hc ?_
        refine jE_blk (bs := [(.aload_n 0, 0, 0), (.getfield 497, 12, 83), (.putfield 497, 12, 83)]) (i := .return_) (a1 := 0) (a2 := 0) (pc1 := 119) (l1 := [(0, .ref 106), (1, .int x1), (2, .int x2), (3, .int x3)]) (st1 := []) (σ1 := (jx_i (jx_i (jx_i (jx_i (jx_i (jx_i (jx_i σ 106 88 ((σ.1 106 88) + (1 : Int32))) 161 ((σ.1 106 82)).toNatClampNeg x1) 162 ((σ.1 106 82)).toNatClampNeg x2) 163 ((σ.1 106 82)).toNatClampNeg (0 : Int32)) 164 ((σ.1 106 82)).toNatClampNeg x3) 106 82 ((σ.1 106 82) + (1 : Int32))) 106 83 (σ.1 106 83))) (by decide +kernel) rfl (fun hC => ?_)
        have h9 := Option.some.inj h
        subst h9
        have e9 : ((none, (jx_i (jx_i (jx_i (jx_i (jx_i (jx_i (jx_i σ 106 88 ((σ.1 106 88) + (1 : Int32))) 161 ((σ.1 106 82)).toNatClampNeg x1) 162 ((σ.1 106 82)).toNatClampNeg x2) 163 ((σ.1 106 82)).toNatClampNeg (0 : Int32)) 164 ((σ.1 106 82)).toNatClampNeg x3) 106 82 ((σ.1 106 82) + (1 : Int32))) 106 83 (σ.1 106 83))) : Option Value × jx_S) = res := hK
        subst e9
        exact jE_ret hC rfl
      · rw [if_neg hc] at h
        refine jE_icF 112 hC (by decide) hc ?_
        refine jE_blk (bs := [(.aload_n 0, 0, 0), (.getfield 494, 12, 82), (.goto (7), 0, 0), (.putfield 497, 12, 83)]) (i := .return_) (a1 := 0) (a2 := 0) (pc1 := 119) (l1 := [(0, .ref 106), (1, .int x1), (2, .int x2), (3, .int x3)]) (st1 := []) (σ1 := (jx_i (jx_i (jx_i (jx_i (jx_i (jx_i (jx_i σ 106 88 ((σ.1 106 88) + (1 : Int32))) 161 ((σ.1 106 82)).toNatClampNeg x1) 162 ((σ.1 106 82)).toNatClampNeg x2) 163 ((σ.1 106 82)).toNatClampNeg (0 : Int32)) 164 ((σ.1 106 82)).toNatClampNeg x3) 106 82 ((σ.1 106 82) + (1 : Int32))) 106 83 ((σ.1 106 82) + (1 : Int32)))) (by decide +kernel) rfl (fun hC => ?_)
        have h9 := Option.some.inj h
        subst h9
        have e9 : ((none, (jx_i (jx_i (jx_i (jx_i (jx_i (jx_i (jx_i σ 106 88 ((σ.1 106 88) + (1 : Int32))) 161 ((σ.1 106 82)).toNatClampNeg x1) 162 ((σ.1 106 82)).toNatClampNeg x2) 163 ((σ.1 106 82)).toNatClampNeg (0 : Int32)) 164 ((σ.1 106 82)).toNatClampNeg x3) 106 82 ((σ.1 106 82) + (1 : Int32))) 106 83 ((σ.1 106 82) + (1 : Int32)))) : Option Value × jx_S) = res := hK
        subst e9
        exact jE_ret hC rfl
    · rw [if_neg hc] at h
      refine jE_icF 33 hC (by decide) hc ?_
      refine jE_blk (bs := [(.aload_n 0, 0, 0), (.iconst (3), 3, 0), (.putfield 521, 12, 87)]) (i := .return_) (a1 := 0) (a2 := 0) (pc1 := 32) (l1 := [(0, .ref 106), (1, .int x1), (2, .int x2), (3, .int x3)]) (st1 := []) (σ1 := (jx_i σ 106 87 (3 : Int32))) (by decide +kernel) rfl (fun hC => ?_)
      have h9 := Option.some.inj h
      subst h9
      have e9 : ((none, (jx_i σ 106 87 (3 : Int32))) : Option Value × jx_S) = res := hK
      subst e9
      exact jE_ret hC rfl
  · rw [if_neg hc] at h
    refine jE_icF 16 hC (by decide) hc ?_
    refine jE_blk (bs := [(.aload_n 0, 0, 0), (.iconst (4), 4, 0), (.putfield 521, 12, 87)]) (i := .return_) (a1 := 0) (a2 := 0) (pc1 := 15) (l1 := [(0, .ref 106), (1, .int x1), (2, .int x2), (3, .int x3)]) (st1 := []) (σ1 := (jx_i σ 106 87 (4 : Int32))) (by decide +kernel) rfl (fun hC => ?_)
    have h9 := Option.some.inj h
    subst h9
    have e9 : ((none, (jx_i σ 106 87 (4 : Int32))) : Option Value × jx_S) = res := hK
    subst e9
    exact jE_ret hC rfl
def p_r_finish (x1 : Int64) (σ : jx_S) : Option jx_S := (if ((σ.1 106 82) - (1 : Int32)) < 0 ∨ 251 ≤ (((σ.1 106 82) - (1 : Int32))).toNatClampNeg then none else (if ((σ.1 164) (((σ.1 106 82) - (1 : Int32))).toNatClampNeg) < 0 then (some ((jx_l (jx_i σ 106 82 ((σ.1 106 82) - (1 : Int32))) 106 90 x1))) else (if ((σ.1 164) (((σ.1 106 82) - (1 : Int32))).toNatClampNeg) < 0 ∨ 3000 ≤ (((σ.1 164) (((σ.1 106 82) - (1 : Int32))).toNatClampNeg)).toNatClampNeg then none else (if ((σ.1 164) (((σ.1 106 82) - (1 : Int32))).toNatClampNeg) < 0 ∨ 3000 ≤ (((σ.1 164) (((σ.1 106 82) - (1 : Int32))).toNatClampNeg)).toNatClampNeg then none else (some ((jx_l (jx_i (jx_l (jx_i σ 106 82 ((σ.1 106 82) - (1 : Int32))) 106 90 x1) 153 (((σ.1 164) (((σ.1 106 82) - (1 : Int32))).toNatClampNeg)).toNatClampNeg (2 : Int32)) 154 (((σ.1 164) (((σ.1 106 82) - (1 : Int32))).toNatClampNeg)).toNatClampNeg x1)))))))
theorem x_r_finish (d : Nat) (hd : 0 ≤ d) (x1 : Int64) (σ : jx_S) (t : jx_S) (res : Option Value × jx_S) (h : p_r_finish x1 σ = some t) (hK : kkV t res) : jE d 212 0 [(0, .ref 106), (1, .long x1)] [] σ res := by
  unfold p_r_finish at h
  refine jE_blk (bs := [(.aload_n 0, 0, 0), (.dup, 0, 0), (.getfield 494, 12, 82), (.iconst (1), 1, 0), (.isub, 0, 0), (.putfield 494, 12, 82), (.aload_n 0, 0, 0), (.lload_n 1, 0, 0), (.putfield 529, 12, 90), (.aload_n 0, 0, 0), (.getfield 188, 12, 80), (.aload_n 0, 0, 0), (.getfield 494, 12, 82)]) (i := .iaload) (a1 := 0) (a2 := 0) (pc1 := 23) (l1 := [(0, .ref 106), (1, .long x1)]) (st1 := [.int ((σ.1 106 82) - (1 : Int32)), .ref 164]) (σ1 := (jx_l (jx_i σ 106 82 ((σ.1 106 82) - (1 : Int32))) 106 90 x1)) (by decide +kernel) rfl (fun hC => ?_)
  obtain ⟨hi, h⟩ := jx_ite0_inv h
  refine jE_iald (n := 251) hC (by decide) rfl hi ?_
  refine jE_blk (bs := [(.istore_n 3, 4, 0), (.iload_n 3, 0, 0)]) (i := .ifCond .lt (17)) (a1 := 0) (a2 := 0) (pc1 := 26) (l1 := [(3, .int ((σ.1 164) (((σ.1 106 82) - (1 : Int32))).toNatClampNeg)), (0, .ref 106), (1, .long x1)]) (st1 := [.int ((σ.1 164) (((σ.1 106 82) - (1 : Int32))).toNatClampNeg)]) (σ1 := (jx_l (jx_i σ 106 82 ((σ.1 106 82) - (1 : Int32))) 106 90 x1)) (by decide +kernel) rfl (fun hC => ?_)
  rcases Classical.em (((σ.1 164) (((σ.1 106 82) - (1 : Int32))).toNatClampNeg) < 0) with hc | hc
  · rw [if_pos hc] at h
    refine jE_ifT 43 hC (by decide) hc ?_
    refine jE_blk (bs := []) (i := .return_) (a1 := 0) (a2 := 0) (pc1 := 43) (l1 := [(3, .int ((σ.1 164) (((σ.1 106 82) - (1 : Int32))).toNatClampNeg)), (0, .ref 106), (1, .long x1)]) (st1 := []) (σ1 := (jx_l (jx_i σ 106 82 ((σ.1 106 82) - (1 : Int32))) 106 90 x1)) (by decide +kernel) rfl (fun hC => ?_)
    have h9 := Option.some.inj h
    subst h9
    have e9 : ((none, (jx_l (jx_i σ 106 82 ((σ.1 106 82) - (1 : Int32))) 106 90 x1)) : Option Value × jx_S) = res := hK
    subst e9
    exact jE_ret hC rfl
  · rw [if_neg hc] at h
    refine jE_ifF 43 hC (by decide) hc ?_
    refine jE_blk (bs := [(.aload_n 0, 0, 0), (.getfield 155, 12, 65), (.iload_n 3, 0, 0), (.iconst (2), 2, 0)]) (i := .iastore) (a1 := 0) (a2 := 0) (pc1 := 35) (l1 := [(3, .int ((σ.1 164) (((σ.1 106 82) - (1 : Int32))).toNatClampNeg)), (0, .ref 106), (1, .long x1)]) (st1 := [.int (2 : Int32), .int ((σ.1 164) (((σ.1 106 82) - (1 : Int32))).toNatClampNeg), .ref 153]) (σ1 := (jx_l (jx_i σ 106 82 ((σ.1 106 82) - (1 : Int32))) 106 90 x1)) (by decide +kernel) rfl (fun hC => ?_)
    obtain ⟨hi, h⟩ := jx_ite0_inv h
    refine jE_iast (n := 3000) hC (by decide) rfl hi ?_
    refine jE_blk (bs := [(.aload_n 0, 0, 0), (.getfield 158, 12, 66), (.iload_n 3, 0, 0), (.lload_n 1, 0, 0)]) (i := .lastore) (a1 := 0) (a2 := 0) (pc1 := 42) (l1 := [(3, .int ((σ.1 164) (((σ.1 106 82) - (1 : Int32))).toNatClampNeg)), (0, .ref 106), (1, .long x1)]) (st1 := [.long x1, .int ((σ.1 164) (((σ.1 106 82) - (1 : Int32))).toNatClampNeg), .ref 154]) (σ1 := (jx_i (jx_l (jx_i σ 106 82 ((σ.1 106 82) - (1 : Int32))) 106 90 x1) 153 (((σ.1 164) (((σ.1 106 82) - (1 : Int32))).toNatClampNeg)).toNatClampNeg (2 : Int32))) (by decide +kernel) rfl (fun hC => ?_)
    obtain ⟨hi, h⟩ := jx_ite0_inv h
    refine jE_last (n := 3000) hC (by decide) rfl hi ?_
    refine jE_blk (bs := []) (i := .return_) (a1 := 0) (a2 := 0) (pc1 := 43) (l1 := [(3, .int ((σ.1 164) (((σ.1 106 82) - (1 : Int32))).toNatClampNeg)), (0, .ref 106), (1, .long x1)]) (st1 := []) (σ1 := (jx_l (jx_i (jx_l (jx_i σ 106 82 ((σ.1 106 82) - (1 : Int32))) 106 90 x1) 153 (((σ.1 164) (((σ.1 106 82) - (1 : Int32))).toNatClampNeg)).toNatClampNeg (2 : Int32)) 154 (((σ.1 164) (((σ.1 106 82) - (1 : Int32))).toNatClampNeg)).toNatClampNeg x1)) (by decide +kernel) rfl (fun hC => ?_)
    have h9 := Option.some.inj h
    subst h9
    have e9 : ((none, (jx_l (jx_i (jx_l (jx_i σ 106 82 ((σ.1 106 82) - (1 : Int32))) 106 90 x1) 153 (((σ.1 164) (((σ.1 106 82) - (1 : Int32))).toNatClampNeg)).toNatClampNeg (2 : Int32)) 154 (((σ.1 164) (((σ.1 106 82) - (1 : Int32))).toNatClampNeg)).toNatClampNeg x1)) : Option Value × jx_S) = res := hK
    subst e9
    exact jE_ret hC rfl
def kk_r_putFunction_106 (d : Nat) (t : ((Int32 × Int32 × Int32 × jx_S) ⊕ (Int64 × jx_S))) (res : Option Value × jx_S) : Prop := match t with
  | .inl s => jE d 214 106 [(0, .ref 106), (3, .int s.1), (4, .int s.2.1), (5, .int s.2.2.1)] [] s.2.2.2 res
  | .inr t => kkJ t res
def p_r_putFunction_106_s (x3 : Int32) (x4 : Int32) (x5 : Int32) (σ : jx_S) : Option ((Int32 × Int32 × Int32 × jx_S) ⊕ (Int64 × jx_S)) := (if x3 ≤ x5 then (Option.map Sum.inr (some (((v_r_tagged (5 : Int64) (((σ.1 106 74) + (1 : Int32)) - (1 : Int32)) (jx_i (jx_i (jx_i σ 106 101 ((σ.1 106 101) + x3)) 106 76 ((σ.1 106 76) + x3)) 106 74 ((σ.1 106 74) + (1 : Int32)))), (jx_i (jx_i (jx_i σ 106 101 ((σ.1 106 101) + x3)) 106 76 ((σ.1 106 76) + x3)) 106 74 ((σ.1 106 74) + (1 : Int32))))))) else (if ((((σ.1 106 101) + x3) - (1 : Int32)) - x5) < 0 ∨ 3000 ≤ (((((σ.1 106 101) + x3) - (1 : Int32)) - x5)).toNatClampNeg then none else (if ((((σ.1 106 101) + x3) - (1 : Int32)) - x5) < 0 ∨ 3000 ≤ (((((σ.1 106 101) + x3) - (1 : Int32)) - x5)).toNatClampNeg then none else (if x4 < 0 ∨ 3000 ≤ (x4).toNatClampNeg then none else (some (.inl (x3, ((σ.1 120) (x4).toNatClampNeg), (x5 + 1), (jx_i (jx_i σ 169 (((((σ.1 106 101) + x3) - (1 : Int32)) - x5)).toNatClampNeg x4) 170 (((((σ.1 106 101) + x3) - (1 : Int32)) - x5)).toNatClampNeg ((σ.1 106 76) + x5)))))))))
theorem x_r_putFunction_106_s (d : Nat) (hd : 1 ≤ d) (x3 : Int32) (x4 : Int32) (x5 : Int32) (σ : jx_S) (t : ((Int32 × Int32 × Int32 × jx_S) ⊕ (Int64 × jx_S))) (res : Option Value × jx_S) (h : p_r_putFunction_106_s x3 x4 x5 σ = some t) (hK : kk_r_putFunction_106 d t res) : jE d 214 106 [(0, .ref 106), (3, .int x3), (4, .int x4), (5, .int x5)] [] σ res := by
  unfold p_r_putFunction_106_s at h
  refine jE_blk (bs := [(.iload 5, 0, 0), (.iload_n 3, 0, 0)]) (i := .if_icmp .ge (59)) (a1 := 0) (a2 := 0) (pc1 := 109) (l1 := [(0, .ref 106), (3, .int x3), (4, .int x4), (5, .int x5)]) (st1 := [.int x3, .int x5]) (σ1 := σ) (by decide +kernel) rfl (fun hC => ?_)
  rcases Classical.em (x3 ≤ x5) with hc | hc
  · rw [if_pos hc] at h
    refine jE_icT 168 hC (by decide) hc ?_
    obtain ⟨t9_1, h9_1, h8_1⟩ := Option.map_eq_some_iff.mp h
    clear h
    subst h8_1
    have h := h9_1
    clear h9_1
    refine jE_blk (bs := [(.aload_n 0, 0, 0), (.dup, 0, 0), (.getfield 545, 12, 101), (.iload_n 3, 0, 0), (.iadd, 0, 0), (.putfield 545, 12, 101), (.aload_n 0, 0, 0), (.dup, 0, 0), (.getfield 491, 12, 76), (.iload_n 3, 0, 0), (.iadd, 0, 0), (.putfield 491, 12, 76), (.aload_n 0, 0, 0), (.dup, 0, 0), (.getfield 488, 12, 74), (.iconst (1), 1, 0), (.iadd, 0, 0), (.putfield 488, 12, 74), (.ldc2_w 548, 5, 0), (.aload_n 0, 0, 0), (.getfield 488, 12, 74), (.iconst (1), 1, 0), (.isub, 0, 0)]) (i := .invokestatic 533) (a1 := 209) (a2 := 0) (pc1 := 207) (l1 := [(0, .ref 106), (3, .int x3), (4, .int x4), (5, .int x5)]) (st1 := [.int (((σ.1 106 74) + (1 : Int32)) - (1 : Int32)), .long (5 : Int64)]) (σ1 := (jx_i (jx_i (jx_i σ 106 101 ((σ.1 106 101) + x3)) 106 76 ((σ.1 106 76) + x3)) 106 74 ((σ.1 106 74) + (1 : Int32)))) (by decide +kernel) rfl (fun hC => ?_)
    refine jE_call (as := [.long (5 : Int64), .int (((σ.1 106 74) + (1 : Int32)) - (1 : Int32))]) (pc1 := 210) (st1 := []) hC rfl (by decide) (by omega) (xv_r_tagged (d - 1) (by omega) (5 : Int64) (((σ.1 106 74) + (1 : Int32)) - (1 : Int32)) (jx_i (jx_i (jx_i σ 106 101 ((σ.1 106 101) + x3)) 106 76 ((σ.1 106 76) + x3)) 106 74 ((σ.1 106 74) + (1 : Int32)))) ?_
    refine jE_blk (bs := []) (i := .lreturn) (a1 := 0) (a2 := 0) (pc1 := 210) (l1 := [(0, .ref 106), (3, .int x3), (4, .int x4), (5, .int x5)]) (st1 := [.long (v_r_tagged (5 : Int64) (((σ.1 106 74) + (1 : Int32)) - (1 : Int32)) (jx_i (jx_i (jx_i σ 106 101 ((σ.1 106 101) + x3)) 106 76 ((σ.1 106 76) + x3)) 106 74 ((σ.1 106 74) + (1 : Int32))))]) (σ1 := (jx_i (jx_i (jx_i σ 106 101 ((σ.1 106 101) + x3)) 106 76 ((σ.1 106 76) + x3)) 106 74 ((σ.1 106 74) + (1 : Int32)))) (by decide +kernel) rfl (fun hC => ?_)
    have h9 := Option.some.inj h
    subst h9
    have e9 : ((some (.long (v_r_tagged (5 : Int64) (((σ.1 106 74) + (1 : Int32)) - (1 : Int32)) (jx_i (jx_i (jx_i σ 106 101 ((σ.1 106 101) + x3)) 106 76 ((σ.1 106 76) + x3)) 106 74 ((σ.1 106 74) + (1 : Int32))))), (jx_i (jx_i (jx_i σ 106 101 ((σ.1 106 101) + x3)) 106 76 ((σ.1 106 76) + x3)) 106 74 ((σ.1 106 74) + (1 : Int32)))) : Option Value × jx_S) = res := hK
    subst e9
    exact jE_ret hC rfl
  · rw [if_neg hc] at h
    refine jE_icF 168 hC (by decide) hc ?_
    refine jE_blk (bs := [(.aload_n 0, 0, 0), (.getfield 203, 12, 99), (.aload_n 0, 0, 0), (.getfield 545, 12, 101), (.iload_n 3, 0, 0), (.iadd, 0, 0), (.iconst (1), 1, 0), (.isub, 0, 0), (.iload 5, 0, 0), (.isub, 0, 0), (.iload 4, 0, 0)]) (i := .iastore) (a1 := 0) (a2 := 0) (pc1 := 129) (l1 := [(0, .ref 106), (3, .int x3), (4, .int x4), (5, .int x5)]) (st1 := [.int x4, .int ((((σ.1 106 101) + x3) - (1 : Int32)) - x5), .ref 169]) (σ1 := σ) (by decide +kernel) rfl (fun hC => ?_)
    obtain ⟨hi, h⟩ := jx_ite0_inv h
    refine jE_iast (n := 3000) hC (by decide) rfl hi ?_
    refine jE_blk (bs := [(.aload_n 0, 0, 0), (.getfield 206, 12, 100), (.aload_n 0, 0, 0), (.getfield 545, 12, 101), (.iload_n 3, 0, 0), (.iadd, 0, 0), (.iconst (1), 1, 0), (.isub, 0, 0), (.iload 5, 0, 0), (.isub, 0, 0), (.aload_n 0, 0, 0), (.getfield 491, 12, 76), (.iload 5, 0, 0), (.iadd, 0, 0)]) (i := .iastore) (a1 := 0) (a2 := 0) (pc1 := 152) (l1 := [(0, .ref 106), (3, .int x3), (4, .int x4), (5, .int x5)]) (st1 := [.int ((σ.1 106 76) + x5), .int ((((σ.1 106 101) + x3) - (1 : Int32)) - x5), .ref 170]) (σ1 := (jx_i σ 169 (((((σ.1 106 101) + x3) - (1 : Int32)) - x5)).toNatClampNeg x4)) (by decide +kernel) rfl (fun hC => ?_)
    obtain ⟨hi, h⟩ := jx_ite0_inv h
    refine jE_iast (n := 3000) hC (by decide) rfl hi ?_
    refine jE_blk (bs := [(.aload_n 0, 0, 0), (.getfield 53, 12, 19), (.iload 4, 0, 0)]) (i := .iaload) (a1 := 0) (a2 := 0) (pc1 := 159) (l1 := [(0, .ref 106), (3, .int x3), (4, .int x4), (5, .int x5)]) (st1 := [.int x4, .ref 120]) (σ1 := (jx_i (jx_i σ 169 (((((σ.1 106 101) + x3) - (1 : Int32)) - x5)).toNatClampNeg x4) 170 (((((σ.1 106 101) + x3) - (1 : Int32)) - x5)).toNatClampNeg ((σ.1 106 76) + x5))) (by decide +kernel) rfl (fun hC => ?_)
    obtain ⟨hi, h⟩ := jx_ite0_inv h
    refine jE_iald (n := 3000) hC (by decide) rfl hi ?_
    refine jE_blk (bs := [(.istore 4, 6, 0), (.iinc 5 (1), 6, 2), (.goto (-59), 0, 0)]) (i := .iload 5) (a1 := 0) (a2 := 0) (pc1 := 106) (l1 := [(5, .int (x5 + 1)), (4, .int ((σ.1 120) (x4).toNatClampNeg)), (0, .ref 106), (3, .int x3)]) (st1 := []) (σ1 := (jx_i (jx_i σ 169 (((((σ.1 106 101) + x3) - (1 : Int32)) - x5)).toNatClampNeg x4) 170 (((((σ.1 106 101) + x3) - (1 : Int32)) - x5)).toNatClampNeg ((σ.1 106 76) + x5))) (by decide +kernel) rfl (fun hC => ?_)
    have h9 := Option.some.inj h
    subst h9
    exact jE_loc (l := [(0, .ref 106), (3, .int x3), (4, .int ((σ.1 120) (x4).toNatClampNeg)), (5, .int (x5 + 1))]) (ks := [0, 3, 4, 5]) rfl (by decide) ⟨rfl, rfl, rfl, rfl, trivial⟩ hK
def p_r_putFunction_106 (x3 : Int32) (x4 : Int32) (x5 : Int32) (σ : jx_S) : Option (Int64 × jx_S) := jx_loop 100000000 (fun s => p_r_putFunction_106_s s.1 s.2.1 s.2.2.1 (s.2.2.2)) (x3, x4, x5, σ)
theorem x_r_putFunction_106 (d : Nat) (hd : 1 ≤ d) (x3 : Int32) (x4 : Int32) (x5 : Int32) (σ : jx_S) (t : (Int64 × jx_S)) (res : Option Value × jx_S) (h : p_r_putFunction_106 x3 x4 x5 σ = some t) (hK : kkJ t res) : jE d 214 106 [(0, .ref 106), (3, .int x3), (4, .int x4), (5, .int x5)] [] σ res := by
  refine jx_loop_ok (E := fun s t => ∀ res, kkJ t res → jE d 214 106 [(0, .ref 106), (3, .int s.1), (4, .int s.2.1), (5, .int s.2.2.1)] [] s.2.2.2 res) (fun s t hs => ?_) _ _ _ h res hK
  cases t with
  | inl s1 => exact fun b hb res hk => x_r_putFunction_106_s d hd (s.1) (s.2.1) (s.2.2.1) (s.2.2.2) _ res hs (hb res hk)
  | inr b => exact fun res hk => x_r_putFunction_106_s d hd (s.1) (s.2.1) (s.2.2.1) (s.2.2.2) _ res hs hk
def p_r_putFunction_71 (x1 : Int32) (x3 : Int32) (y0 : Int64) (y1 : Int32) (σ : jx_S) : Option (Int64 × jx_S) := (if y1 < 0 ∨ 6000 ≤ (y1).toNatClampNeg then none else (if (σ.1 106 74) < 0 ∨ 6000 ≤ ((σ.1 106 74)).toNatClampNeg then none else (if (σ.1 106 74) < 0 ∨ 6000 ≤ ((σ.1 106 74)).toNatClampNeg then none else (if x1 < 0 ∨ 3000 ≤ (x1).toNatClampNeg then none else (p_r_putFunction_106 x3 ((σ.1 114) (x1).toNatClampNeg) (0 : Int32) (jx_i (jx_i (jx_l σ 157 (y1).toNatClampNeg y0) 158 ((σ.1 106 74)).toNatClampNeg (σ.1 106 76)) 159 ((σ.1 106 74)).toNatClampNeg x3))))))
theorem x_r_putFunction_71 (d : Nat) (hd : 1 ≤ d) (x1 : Int32) (x3 : Int32) (y0 : Int64) (y1 : Int32) (σ : jx_S) (t : (Int64 × jx_S)) (res : Option Value × jx_S) (h : p_r_putFunction_71 x1 x3 y0 y1 σ = some t) (hK : kkJ t res) : jE d 214 71 [(0, .ref 106), (1, .int x1), (3, .int x3)] [.long y0, .int y1, .ref 157] σ res := by
  unfold p_r_putFunction_71 at h
  refine jE_blk (bs := []) (i := .lastore) (a1 := 0) (a2 := 0) (pc1 := 71) (l1 := [(0, .ref 106), (1, .int x1), (3, .int x3)]) (st1 := [.long y0, .int y1, .ref 157]) (σ1 := σ) (by decide +kernel) rfl (fun hC => ?_)
  obtain ⟨hi, h⟩ := jx_ite0_inv h
  refine jE_last (n := 6000) hC (by decide) rfl hi ?_
  refine jE_blk (bs := [(.aload_n 0, 0, 0), (.getfield 170, 12, 72), (.aload_n 0, 0, 0), (.getfield 488, 12, 74), (.aload_n 0, 0, 0), (.getfield 491, 12, 76)]) (i := .iastore) (a1 := 0) (a2 := 0) (pc1 := 84) (l1 := [(0, .ref 106), (1, .int x1), (3, .int x3)]) (st1 := [.int (σ.1 106 76), .int (σ.1 106 74), .ref 158]) (σ1 := (jx_l σ 157 (y1).toNatClampNeg y0)) (by decide +kernel) rfl (fun hC => ?_)
  obtain ⟨hi, h⟩ := jx_ite0_inv h
  refine jE_iast (n := 6000) hC (by decide) rfl hi ?_
  refine jE_blk (bs := [(.aload_n 0, 0, 0), (.getfield 173, 12, 73), (.aload_n 0, 0, 0), (.getfield 488, 12, 74), (.iload_n 3, 0, 0)]) (i := .iastore) (a1 := 0) (a2 := 0) (pc1 := 94) (l1 := [(0, .ref 106), (1, .int x1), (3, .int x3)]) (st1 := [.int x3, .int (σ.1 106 74), .ref 159]) (σ1 := (jx_i (jx_l σ 157 (y1).toNatClampNeg y0) 158 ((σ.1 106 74)).toNatClampNeg (σ.1 106 76))) (by decide +kernel) rfl (fun hC => ?_)
  obtain ⟨hi, h⟩ := jx_ite0_inv h
  refine jE_iast (n := 6000) hC (by decide) rfl hi ?_
  refine jE_blk (bs := [(.aload_n 0, 0, 0), (.getfield 35, 12, 13), (.iload_n 1, 0, 0)]) (i := .iaload) (a1 := 0) (a2 := 0) (pc1 := 100) (l1 := [(0, .ref 106), (1, .int x1), (3, .int x3)]) (st1 := [.int x1, .ref 114]) (σ1 := (jx_i (jx_i (jx_l σ 157 (y1).toNatClampNeg y0) 158 ((σ.1 106 74)).toNatClampNeg (σ.1 106 76)) 159 ((σ.1 106 74)).toNatClampNeg x3)) (by decide +kernel) rfl (fun hC => ?_)
  obtain ⟨hi, h⟩ := jx_ite0_inv h
  refine jE_iald (n := 3000) hC (by decide) rfl hi ?_
  refine jE_blk (bs := [(.istore 4, 6, 0), (.iconst (0), 0, 0), (.istore 5, 6, 0)]) (i := .iload 5) (a1 := 0) (a2 := 0) (pc1 := 106) (l1 := [(5, .int (0 : Int32)), (4, .int ((σ.1 114) (x1).toNatClampNeg)), (0, .ref 106), (1, .int x1), (3, .int x3)]) (st1 := []) (σ1 := (jx_i (jx_i (jx_l σ 157 (y1).toNatClampNeg y0) 158 ((σ.1 106 74)).toNatClampNeg (σ.1 106 76)) 159 ((σ.1 106 74)).toNatClampNeg x3)) (by decide +kernel) rfl (fun hC => ?_)
  exact jE_loc (l := [(0, .ref 106), (3, .int x3), (4, .int ((σ.1 114) (x1).toNatClampNeg)), (5, .int (0 : Int32))]) (ks := [0, 3, 4, 5]) rfl (by decide) ⟨rfl, rfl, rfl, rfl, trivial⟩ (x_r_putFunction_106 d hd x3 ((σ.1 114) (x1).toNatClampNeg) (0 : Int32) (jx_i (jx_i (jx_l σ 157 (y1).toNatClampNeg y0) 158 ((σ.1 106 74)).toNatClampNeg (σ.1 106 76)) 159 ((σ.1 106 74)).toNatClampNeg x3) _ res h hK)
def p_r_putFunction (x1 : Int32) (x2 : Int32) (σ : jx_S) : Option (Int64 × jx_S) := (if x1 < 0 ∨ 3000 ≤ (x1).toNatClampNeg then none else (if ((σ.1 106 76) + ((σ.1 119) (x1).toNatClampNeg)) ≤ (6000 : Int32) then (if x1 < 0 ∨ 3000 ≤ (x1).toNatClampNeg then none else (if ((σ.1 117) (x1).toNatClampNeg) < 0 then (if x1 < 0 ∨ 3000 ≤ (x1).toNatClampNeg then none else (p_r_putFunction_71 x1 ((σ.1 119) (x1).toNatClampNeg) (v_r_tagged (4 : Int64) ((σ.1 123) (x1).toNatClampNeg) σ) (σ.1 106 74) σ)) else (if x1 < 0 ∨ 3000 ≤ (x1).toNatClampNeg then none else (if (x2 + ((σ.1 117) (x1).toNatClampNeg)) < 0 ∨ 30000 ≤ ((x2 + ((σ.1 117) (x1).toNatClampNeg))).toNatClampNeg then none else (p_r_putFunction_71 x1 ((σ.1 119) (x1).toNatClampNeg) ((σ.2 150) ((x2 + ((σ.1 117) (x1).toNatClampNeg))).toNatClampNeg) (σ.1 106 74) σ))))) else (some (((0 : Int64), (jx_i σ 106 87 (5 : Int32)))))))
theorem x_r_putFunction (d : Nat) (hd : 1 ≤ d) (x1 : Int32) (x2 : Int32) (σ : jx_S) (t : (Int64 × jx_S)) (res : Option Value × jx_S) (h : p_r_putFunction x1 x2 σ = some t) (hK : kkJ t res) : jE d 214 0 [(0, .ref 106), (1, .int x1), (2, .int x2)] [] σ res := by
  unfold p_r_putFunction at h
  refine jE_blk (bs := [(.aload_n 0, 0, 0), (.getfield 50, 12, 18), (.iload_n 1, 0, 0)]) (i := .iaload) (a1 := 0) (a2 := 0) (pc1 := 5) (l1 := [(0, .ref 106), (1, .int x1), (2, .int x2)]) (st1 := [.int x1, .ref 119]) (σ1 := σ) (by decide +kernel) rfl (fun hC => ?_)
  obtain ⟨hi, h⟩ := jx_ite0_inv h
  refine jE_iald (n := 3000) hC (by decide) rfl hi ?_
  refine jE_blk (bs := [(.istore_n 3, 6, 0), (.aload_n 0, 0, 0), (.getfield 491, 12, 76), (.iload_n 3, 0, 0), (.iadd, 0, 0), (.sipush (6000), 6000, 0)]) (i := .if_icmp .le (10)) (a1 := 0) (a2 := 0) (pc1 := 16) (l1 := [(3, .int ((σ.1 119) (x1).toNatClampNeg)), (0, .ref 106), (1, .int x1), (2, .int x2)]) (st1 := [.int (6000 : Int32), .int ((σ.1 106 76) + ((σ.1 119) (x1).toNatClampNeg))]) (σ1 := σ) (by decide +kernel) rfl (fun hC => ?_)
  rcases Classical.em (((σ.1 106 76) + ((σ.1 119) (x1).toNatClampNeg)) ≤ (6000 : Int32)) with hc | hc
  · rw [if_pos hc] at h
    refine jE_icT 26 hC (by decide) hc ?_
    refine jE_blk (bs := [(.aload_n 0, 0, 0), (.getfield 167, 12, 71), (.aload_n 0, 0, 0), (.getfield 488, 12, 74), (.aload_n 0, 0, 0), (.getfield 44, 12, 16), (.iload_n 1, 0, 0)]) (i := .iaload) (a1 := 0) (a2 := 0) (pc1 := 39) (l1 := [(3, .int ((σ.1 119) (x1).toNatClampNeg)), (0, .ref 106), (1, .int x1), (2, .int x2)]) (st1 := [.int x1, .ref 117, .int (σ.1 106 74), .ref 157]) (σ1 := σ) (by decide +kernel) rfl (fun hC => ?_)
    obtain ⟨hi, h⟩ := jx_ite0_inv h
    refine jE_iald (n := 3000) hC (by decide) rfl hi ?_
    refine jE_blk (bs := []) (i := .ifCond .lt (19)) (a1 := 0) (a2 := 0) (pc1 := 40) (l1 := [(3, .int ((σ.1 119) (x1).toNatClampNeg)), (0, .ref 106), (1, .int x1), (2, .int x2)]) (st1 := [.int ((σ.1 117) (x1).toNatClampNeg), .int (σ.1 106 74), .ref 157]) (σ1 := σ) (by decide +kernel) rfl (fun hC => ?_)
    rcases Classical.em (((σ.1 117) (x1).toNatClampNeg) < 0) with hc | hc
    · rw [if_pos hc] at h
      refine jE_ifT 59 hC (by decide) hc ?_
      refine jE_blk (bs := [(.ldc2_w 537, 4, 0), (.aload_n 0, 0, 0), (.getfield 62, 12, 22), (.iload_n 1, 0, 0)]) (i := .iaload) (a1 := 0) (a2 := 0) (pc1 := 67) (l1 := [(3, .int ((σ.1 119) (x1).toNatClampNeg)), (0, .ref 106), (1, .int x1), (2, .int x2)]) (st1 := [.int x1, .ref 123, .long (4 : Int64), .int (σ.1 106 74), .ref 157]) (σ1 := σ) (by decide +kernel) rfl (fun hC => ?_)
      obtain ⟨hi, h⟩ := jx_ite0_inv h
      refine jE_iald (n := 3000) hC (by decide) rfl hi ?_
      refine jE_blk (bs := []) (i := .invokestatic 533) (a1 := 209) (a2 := 0) (pc1 := 68) (l1 := [(3, .int ((σ.1 119) (x1).toNatClampNeg)), (0, .ref 106), (1, .int x1), (2, .int x2)]) (st1 := [.int ((σ.1 123) (x1).toNatClampNeg), .long (4 : Int64), .int (σ.1 106 74), .ref 157]) (σ1 := σ) (by decide +kernel) rfl (fun hC => ?_)
      refine jE_call (as := [.long (4 : Int64), .int ((σ.1 123) (x1).toNatClampNeg)]) (pc1 := 71) (st1 := [.int (σ.1 106 74), .ref 157]) hC rfl (by decide) (by omega) (xv_r_tagged (d - 1) (by omega) (4 : Int64) ((σ.1 123) (x1).toNatClampNeg) σ) ?_
      exact jE_loc (l := [(0, .ref 106), (1, .int x1), (3, .int ((σ.1 119) (x1).toNatClampNeg))]) (ks := [0, 1, 3]) rfl (by decide) ⟨rfl, rfl, rfl, trivial⟩ (x_r_putFunction_71 d hd x1 ((σ.1 119) (x1).toNatClampNeg) (v_r_tagged (4 : Int64) ((σ.1 123) (x1).toNatClampNeg) σ) (σ.1 106 74) σ _ res h hK)
    · rw [if_neg hc] at h
      refine jE_ifF 59 hC (by decide) hc ?_
      refine jE_blk (bs := [(.aload_n 0, 0, 0), (.getfield 145, 12, 61), (.iload_n 2, 0, 0), (.aload_n 0, 0, 0), (.getfield 44, 12, 16), (.iload_n 1, 0, 0)]) (i := .iaload) (a1 := 0) (a2 := 0) (pc1 := 53) (l1 := [(3, .int ((σ.1 119) (x1).toNatClampNeg)), (0, .ref 106), (1, .int x1), (2, .int x2)]) (st1 := [.int x1, .ref 117, .int x2, .ref 150, .int (σ.1 106 74), .ref 157]) (σ1 := σ) (by decide +kernel) rfl (fun hC => ?_)
      obtain ⟨hi, h⟩ := jx_ite0_inv h
      refine jE_iald (n := 3000) hC (by decide) rfl hi ?_
      refine jE_blk (bs := [(.iadd, 0, 0)]) (i := .laload) (a1 := 0) (a2 := 0) (pc1 := 55) (l1 := [(3, .int ((σ.1 119) (x1).toNatClampNeg)), (0, .ref 106), (1, .int x1), (2, .int x2)]) (st1 := [.int (x2 + ((σ.1 117) (x1).toNatClampNeg)), .ref 150, .int (σ.1 106 74), .ref 157]) (σ1 := σ) (by decide +kernel) rfl (fun hC => ?_)
      obtain ⟨hi, h⟩ := jx_ite0_inv h
      refine jE_lald (n := 30000) hC (by decide) rfl hi ?_
      refine jE_blk (bs := [(.goto (15), 0, 0)]) (i := .lastore) (a1 := 0) (a2 := 0) (pc1 := 71) (l1 := [(3, .int ((σ.1 119) (x1).toNatClampNeg)), (0, .ref 106), (1, .int x1), (2, .int x2)]) (st1 := [.long ((σ.2 150) ((x2 + ((σ.1 117) (x1).toNatClampNeg))).toNatClampNeg), .int (σ.1 106 74), .ref 157]) (σ1 := σ) (by decide +kernel) rfl (fun hC => ?_)
      exact jE_loc (l := [(0, .ref 106), (1, .int x1), (3, .int ((σ.1 119) (x1).toNatClampNeg))]) (ks := [0, 1, 3]) rfl (by decide) ⟨rfl, rfl, rfl, trivial⟩ (x_r_putFunction_71 d hd x1 ((σ.1 119) (x1).toNatClampNeg) ((σ.2 150) ((x2 + ((σ.1 117) (x1).toNatClampNeg))).toNatClampNeg) (σ.1 106 74) σ _ res h hK)
  · rw [if_neg hc] at h
    refine jE_icF 26 hC (by decide) hc ?_
    refine jE_blk (bs := [(.aload_n 0, 0, 0), (.iconst (5), 5, 0), (.putfield 521, 12, 87), (.lconst 0, 0, 0)]) (i := .lreturn) (a1 := 0) (a2 := 0) (pc1 := 25) (l1 := [(3, .int ((σ.1 119) (x1).toNatClampNeg)), (0, .ref 106), (1, .int x1), (2, .int x2)]) (st1 := [.long (0 : Int64)]) (σ1 := (jx_i σ 106 87 (5 : Int32))) (by decide +kernel) rfl (fun hC => ?_)
    have h9 := Option.some.inj h
    subst h9
    have e9 : ((some (.long (0 : Int64)), (jx_i σ 106 87 (5 : Int32))) : Option Value × jx_S) = res := hK
    subst e9
    exact jE_ret hC rfl
def p_r_putOne_146 (x1 : Int32) (x2 : Int32) (σ : jx_S) : Option (Int64 × jx_S) := (if ¬ (σ.1 106 67) = (3000 : Int32) then (if (σ.1 106 67) < 0 ∨ 3000 ≤ ((σ.1 106 67)).toNatClampNeg then none else (if (σ.1 106 67) < 0 ∨ 3000 ≤ ((σ.1 106 67)).toNatClampNeg then none else (if (σ.1 106 67) < 0 ∨ 3000 ≤ ((σ.1 106 67)).toNatClampNeg then none else (some (((v_r_tagged (3 : Int64) (((σ.1 106 67) + (1 : Int32)) - (1 : Int32)) (jx_i (jx_i (jx_i (jx_i σ 151 ((σ.1 106 67)).toNatClampNeg x1) 152 ((σ.1 106 67)).toNatClampNeg x2) 153 ((σ.1 106 67)).toNatClampNeg (0 : Int32)) 106 67 ((σ.1 106 67) + (1 : Int32)))), (jx_i (jx_i (jx_i (jx_i σ 151 ((σ.1 106 67)).toNatClampNeg x1) 152 ((σ.1 106 67)).toNatClampNeg x2) 153 ((σ.1 106 67)).toNatClampNeg (0 : Int32)) 106 67 ((σ.1 106 67) + (1 : Int32))))))))) else (some (((0 : Int64), (jx_i σ 106 87 (5 : Int32))))))
theorem x_r_putOne_146 (d : Nat) (hd : 2 ≤ d) (x1 : Int32) (x2 : Int32) (σ : jx_S) (t : (Int64 × jx_S)) (res : Option Value × jx_S) (h : p_r_putOne_146 x1 x2 σ = some t) (hK : kkJ t res) : jE d 213 146 [(0, .ref 106), (1, .int x1), (2, .int x2)] [] σ res := by
  unfold p_r_putOne_146 at h
  refine jE_blk (bs := [(.aload_n 0, 0, 0), (.getfield 482, 12, 67), (.sipush (3000), 3000, 0)]) (i := .if_icmp .ne (10)) (a1 := 0) (a2 := 0) (pc1 := 153) (l1 := [(0, .ref 106), (1, .int x1), (2, .int x2)]) (st1 := [.int (3000 : Int32), .int (σ.1 106 67)]) (σ1 := σ) (by decide +kernel) rfl (fun hC => ?_)
  rcases Classical.em (¬ (σ.1 106 67) = (3000 : Int32)) with hc | hc
  · rw [if_pos hc] at h
    refine jE_icT 163 hC (by decide) hc ?_
    refine jE_blk (bs := [(.aload_n 0, 0, 0), (.getfield 149, 12, 63), (.aload_n 0, 0, 0), (.getfield 482, 12, 67), (.iload_n 1, 0, 0)]) (i := .iastore) (a1 := 0) (a2 := 0) (pc1 := 172) (l1 := [(0, .ref 106), (1, .int x1), (2, .int x2)]) (st1 := [.int x1, .int (σ.1 106 67), .ref 151]) (σ1 := σ) (by decide +kernel) rfl (fun hC => ?_)
    obtain ⟨hi, h⟩ := jx_ite0_inv h
    refine jE_iast (n := 3000) hC (by decide) rfl hi ?_
    refine jE_blk (bs := [(.aload_n 0, 0, 0), (.getfield 152, 12, 64), (.aload_n 0, 0, 0), (.getfield 482, 12, 67), (.iload_n 2, 0, 0)]) (i := .iastore) (a1 := 0) (a2 := 0) (pc1 := 182) (l1 := [(0, .ref 106), (1, .int x1), (2, .int x2)]) (st1 := [.int x2, .int (σ.1 106 67), .ref 152]) (σ1 := (jx_i σ 151 ((σ.1 106 67)).toNatClampNeg x1)) (by decide +kernel) rfl (fun hC => ?_)
    obtain ⟨hi, h⟩ := jx_ite0_inv h
    refine jE_iast (n := 3000) hC (by decide) rfl hi ?_
    refine jE_blk (bs := [(.aload_n 0, 0, 0), (.getfield 155, 12, 65), (.aload_n 0, 0, 0), (.getfield 482, 12, 67), (.iconst (0), 0, 0)]) (i := .iastore) (a1 := 0) (a2 := 0) (pc1 := 192) (l1 := [(0, .ref 106), (1, .int x1), (2, .int x2)]) (st1 := [.int (0 : Int32), .int (σ.1 106 67), .ref 153]) (σ1 := (jx_i (jx_i σ 151 ((σ.1 106 67)).toNatClampNeg x1) 152 ((σ.1 106 67)).toNatClampNeg x2)) (by decide +kernel) rfl (fun hC => ?_)
    obtain ⟨hi, h⟩ := jx_ite0_inv h
    refine jE_iast (n := 3000) hC (by decide) rfl hi ?_
    refine jE_blk (bs := [(.aload_n 0, 0, 0), (.dup, 0, 0), (.getfield 482, 12, 67), (.iconst (1), 1, 0), (.iadd, 0, 0), (.putfield 482, 12, 67), (.ldc2_w 543, 3, 0), (.aload_n 0, 0, 0), (.getfield 482, 12, 67), (.iconst (1), 1, 0), (.isub, 0, 0)]) (i := .invokestatic 533) (a1 := 209) (a2 := 0) (pc1 := 212) (l1 := [(0, .ref 106), (1, .int x1), (2, .int x2)]) (st1 := [.int (((σ.1 106 67) + (1 : Int32)) - (1 : Int32)), .long (3 : Int64)]) (σ1 := (jx_i (jx_i (jx_i (jx_i σ 151 ((σ.1 106 67)).toNatClampNeg x1) 152 ((σ.1 106 67)).toNatClampNeg x2) 153 ((σ.1 106 67)).toNatClampNeg (0 : Int32)) 106 67 ((σ.1 106 67) + (1 : Int32)))) (by decide +kernel) rfl (fun hC => ?_)
    refine jE_call (as := [.long (3 : Int64), .int (((σ.1 106 67) + (1 : Int32)) - (1 : Int32))]) (pc1 := 215) (st1 := []) hC rfl (by decide) (by omega) (xv_r_tagged (d - 1) (by omega) (3 : Int64) (((σ.1 106 67) + (1 : Int32)) - (1 : Int32)) (jx_i (jx_i (jx_i (jx_i σ 151 ((σ.1 106 67)).toNatClampNeg x1) 152 ((σ.1 106 67)).toNatClampNeg x2) 153 ((σ.1 106 67)).toNatClampNeg (0 : Int32)) 106 67 ((σ.1 106 67) + (1 : Int32)))) ?_
    refine jE_blk (bs := []) (i := .lreturn) (a1 := 0) (a2 := 0) (pc1 := 215) (l1 := [(0, .ref 106), (1, .int x1), (2, .int x2)]) (st1 := [.long (v_r_tagged (3 : Int64) (((σ.1 106 67) + (1 : Int32)) - (1 : Int32)) (jx_i (jx_i (jx_i (jx_i σ 151 ((σ.1 106 67)).toNatClampNeg x1) 152 ((σ.1 106 67)).toNatClampNeg x2) 153 ((σ.1 106 67)).toNatClampNeg (0 : Int32)) 106 67 ((σ.1 106 67) + (1 : Int32))))]) (σ1 := (jx_i (jx_i (jx_i (jx_i σ 151 ((σ.1 106 67)).toNatClampNeg x1) 152 ((σ.1 106 67)).toNatClampNeg x2) 153 ((σ.1 106 67)).toNatClampNeg (0 : Int32)) 106 67 ((σ.1 106 67) + (1 : Int32)))) (by decide +kernel) rfl (fun hC => ?_)
    have h9 := Option.some.inj h
    subst h9
    have e9 : ((some (.long (v_r_tagged (3 : Int64) (((σ.1 106 67) + (1 : Int32)) - (1 : Int32)) (jx_i (jx_i (jx_i (jx_i σ 151 ((σ.1 106 67)).toNatClampNeg x1) 152 ((σ.1 106 67)).toNatClampNeg x2) 153 ((σ.1 106 67)).toNatClampNeg (0 : Int32)) 106 67 ((σ.1 106 67) + (1 : Int32))))), (jx_i (jx_i (jx_i (jx_i σ 151 ((σ.1 106 67)).toNatClampNeg x1) 152 ((σ.1 106 67)).toNatClampNeg x2) 153 ((σ.1 106 67)).toNatClampNeg (0 : Int32)) 106 67 ((σ.1 106 67) + (1 : Int32)))) : Option Value × jx_S) = res := hK
    subst e9
    exact jE_ret hC rfl
  · rw [if_neg hc] at h
    refine jE_icF 163 hC (by decide) hc ?_
    refine jE_blk (bs := [(.aload_n 0, 0, 0), (.iconst (5), 5, 0), (.putfield 521, 12, 87), (.lconst 0, 0, 0)]) (i := .lreturn) (a1 := 0) (a2 := 0) (pc1 := 162) (l1 := [(0, .ref 106), (1, .int x1), (2, .int x2)]) (st1 := [.long (0 : Int64)]) (σ1 := (jx_i σ 106 87 (5 : Int32))) (by decide +kernel) rfl (fun hC => ?_)
    have h9 := Option.some.inj h
    subst h9
    have e9 : ((some (.long (0 : Int64)), (jx_i σ 106 87 (5 : Int32))) : Option Value × jx_S) = res := hK
    subst e9
    exact jE_ret hC rfl
def p_r_putOne_119 (x1 : Int32) (x2 : Int32) (σ : jx_S) : Option (Int64 × jx_S) := (if x1 < 0 ∨ 3000 ≤ (x1).toNatClampNeg then none else (if ¬ ((σ.1 112) (x1).toNatClampNeg) = (1 : Int32) then (p_r_putOne_146 x1 x2 σ) else (if x1 < 0 ∨ 3000 ≤ (x1).toNatClampNeg then none else (if ((σ.1 124) (x1).toNatClampNeg) ≤ (1 : Int32) then (p_r_putOne_146 x1 x2 σ) else ((p_r_putFunction x1 x2 σ).bind fun q1 => (some ((q1.1, q1.2))))))))
theorem x_r_putOne_119 (d : Nat) (hd : 2 ≤ d) (x1 : Int32) (x2 : Int32) (σ : jx_S) (t : (Int64 × jx_S)) (res : Option Value × jx_S) (h : p_r_putOne_119 x1 x2 σ = some t) (hK : kkJ t res) : jE d 213 119 [(0, .ref 106), (1, .int x1), (2, .int x2)] [] σ res := by
  unfold p_r_putOne_119 at h
  refine jE_blk (bs := [(.aload_n 0, 0, 0), (.getfield 29, 12, 11), (.iload_n 1, 0, 0)]) (i := .iaload) (a1 := 0) (a2 := 0) (pc1 := 124) (l1 := [(0, .ref 106), (1, .int x1), (2, .int x2)]) (st1 := [.int x1, .ref 112]) (σ1 := σ) (by decide +kernel) rfl (fun hC => ?_)
  obtain ⟨hi, h⟩ := jx_ite0_inv h
  refine jE_iald (n := 3000) hC (by decide) rfl hi ?_
  refine jE_blk (bs := [(.iconst (1), 1, 0)]) (i := .if_icmp .ne (20)) (a1 := 0) (a2 := 0) (pc1 := 126) (l1 := [(0, .ref 106), (1, .int x1), (2, .int x2)]) (st1 := [.int (1 : Int32), .int ((σ.1 112) (x1).toNatClampNeg)]) (σ1 := σ) (by decide +kernel) rfl (fun hC => ?_)
  rcases Classical.em (¬ ((σ.1 112) (x1).toNatClampNeg) = (1 : Int32)) with hc | hc
  · rw [if_pos hc] at h
    refine jE_icT 146 hC (by decide) hc ?_
    exact jE_loc (l := [(0, .ref 106), (1, .int x1), (2, .int x2)]) (ks := [0, 1, 2]) rfl (by decide) ⟨rfl, rfl, rfl, trivial⟩ (x_r_putOne_146 d hd x1 x2 σ _ res h hK)
  · rw [if_neg hc] at h
    refine jE_icF 146 hC (by decide) hc ?_
    refine jE_blk (bs := [(.aload_n 0, 0, 0), (.getfield 65, 12, 23), (.iload_n 1, 0, 0)]) (i := .iaload) (a1 := 0) (a2 := 0) (pc1 := 134) (l1 := [(0, .ref 106), (1, .int x1), (2, .int x2)]) (st1 := [.int x1, .ref 124]) (σ1 := σ) (by decide +kernel) rfl (fun hC => ?_)
    obtain ⟨hi, h⟩ := jx_ite0_inv h
    refine jE_iald (n := 3000) hC (by decide) rfl hi ?_
    refine jE_blk (bs := [(.iconst (1), 1, 0)]) (i := .if_icmp .le (10)) (a1 := 0) (a2 := 0) (pc1 := 136) (l1 := [(0, .ref 106), (1, .int x1), (2, .int x2)]) (st1 := [.int (1 : Int32), .int ((σ.1 124) (x1).toNatClampNeg)]) (σ1 := σ) (by decide +kernel) rfl (fun hC => ?_)
    rcases Classical.em (((σ.1 124) (x1).toNatClampNeg) ≤ (1 : Int32)) with hc | hc
    · rw [if_pos hc] at h
      refine jE_icT 146 hC (by decide) hc ?_
      exact jE_loc (l := [(0, .ref 106), (1, .int x1), (2, .int x2)]) (ks := [0, 1, 2]) rfl (by decide) ⟨rfl, rfl, rfl, trivial⟩ (x_r_putOne_146 d hd x1 x2 σ _ res h hK)
    · rw [if_neg hc] at h
      refine jE_icF 146 hC (by decide) hc ?_
      refine jE_blk (bs := [(.aload_n 0, 0, 0), (.iload_n 1, 0, 0), (.iload_n 2, 0, 0)]) (i := .invokevirtual 539) (a1 := 214) (a2 := 0) (pc1 := 142) (l1 := [(0, .ref 106), (1, .int x1), (2, .int x2)]) (st1 := [.int x2, .int x1, .ref 106]) (σ1 := σ) (by decide +kernel) rfl (fun hC => ?_)
      obtain ⟨q1, hq, h⟩ := Option.bind_eq_some_iff.mp h
      refine jE_call (as := [.ref 106, .int x1, .int x2]) (pc1 := 145) (st1 := []) hC rfl (by decide) (by omega) (x_r_putFunction (d - 1) (by omega) x1 x2 σ q1 (some (.long q1.1), q1.2) hq rfl) ?_
      refine jE_blk (bs := []) (i := .lreturn) (a1 := 0) (a2 := 0) (pc1 := 145) (l1 := [(0, .ref 106), (1, .int x1), (2, .int x2)]) (st1 := [.long q1.1]) (σ1 := q1.2) (by decide +kernel) rfl (fun hC => ?_)
      have h9 := Option.some.inj h
      subst h9
      have e9 : ((some (.long q1.1), q1.2) : Option Value × jx_S) = res := hK
      subst e9
      exact jE_ret hC rfl
def p_r_putOne_81 (x1 : Int32) (x2 : Int32) (σ : jx_S) : Option (Int64 × jx_S) := (if x1 < 0 ∨ 3000 ≤ (x1).toNatClampNeg then none else (if ((σ.1 117) (x1).toNatClampNeg) < 0 then (if x1 < 0 ∨ 3000 ≤ (x1).toNatClampNeg then none else (some (((v_r_tagged (4 : Int64) ((σ.1 123) (x1).toNatClampNeg) σ), σ)))) else (if x1 < 0 ∨ 3000 ≤ (x1).toNatClampNeg then none else (if (x2 + ((σ.1 117) (x1).toNatClampNeg)) < 0 ∨ 30000 ≤ ((x2 + ((σ.1 117) (x1).toNatClampNeg))).toNatClampNeg then none else (some ((((σ.2 150) ((x2 + ((σ.1 117) (x1).toNatClampNeg))).toNatClampNeg), σ)))))))
theorem x_r_putOne_81 (d : Nat) (hd : 2 ≤ d) (x1 : Int32) (x2 : Int32) (σ : jx_S) (t : (Int64 × jx_S)) (res : Option Value × jx_S) (h : p_r_putOne_81 x1 x2 σ = some t) (hK : kkJ t res) : jE d 213 81 [(0, .ref 106), (1, .int x1), (2, .int x2)] [] σ res := by
  unfold p_r_putOne_81 at h
  refine jE_blk (bs := [(.aload_n 0, 0, 0), (.getfield 44, 12, 16), (.iload_n 1, 0, 0)]) (i := .iaload) (a1 := 0) (a2 := 0) (pc1 := 86) (l1 := [(0, .ref 106), (1, .int x1), (2, .int x2)]) (st1 := [.int x1, .ref 117]) (σ1 := σ) (by decide +kernel) rfl (fun hC => ?_)
  obtain ⟨hi, h⟩ := jx_ite0_inv h
  refine jE_iald (n := 3000) hC (by decide) rfl hi ?_
  refine jE_blk (bs := []) (i := .ifCond .lt (19)) (a1 := 0) (a2 := 0) (pc1 := 87) (l1 := [(0, .ref 106), (1, .int x1), (2, .int x2)]) (st1 := [.int ((σ.1 117) (x1).toNatClampNeg)]) (σ1 := σ) (by decide +kernel) rfl (fun hC => ?_)
  rcases Classical.em (((σ.1 117) (x1).toNatClampNeg) < 0) with hc | hc
  · rw [if_pos hc] at h
    refine jE_ifT 106 hC (by decide) hc ?_
    refine jE_blk (bs := [(.ldc2_w 537, 4, 0), (.aload_n 0, 0, 0), (.getfield 62, 12, 22), (.iload_n 1, 0, 0)]) (i := .iaload) (a1 := 0) (a2 := 0) (pc1 := 114) (l1 := [(0, .ref 106), (1, .int x1), (2, .int x2)]) (st1 := [.int x1, .ref 123, .long (4 : Int64)]) (σ1 := σ) (by decide +kernel) rfl (fun hC => ?_)
    obtain ⟨hi, h⟩ := jx_ite0_inv h
    refine jE_iald (n := 3000) hC (by decide) rfl hi ?_
    refine jE_blk (bs := []) (i := .invokestatic 533) (a1 := 209) (a2 := 0) (pc1 := 115) (l1 := [(0, .ref 106), (1, .int x1), (2, .int x2)]) (st1 := [.int ((σ.1 123) (x1).toNatClampNeg), .long (4 : Int64)]) (σ1 := σ) (by decide +kernel) rfl (fun hC => ?_)
    refine jE_call (as := [.long (4 : Int64), .int ((σ.1 123) (x1).toNatClampNeg)]) (pc1 := 118) (st1 := []) hC rfl (by decide) (by omega) (xv_r_tagged (d - 1) (by omega) (4 : Int64) ((σ.1 123) (x1).toNatClampNeg) σ) ?_
    refine jE_blk (bs := []) (i := .lreturn) (a1 := 0) (a2 := 0) (pc1 := 118) (l1 := [(0, .ref 106), (1, .int x1), (2, .int x2)]) (st1 := [.long (v_r_tagged (4 : Int64) ((σ.1 123) (x1).toNatClampNeg) σ)]) (σ1 := σ) (by decide +kernel) rfl (fun hC => ?_)
    have h9 := Option.some.inj h
    subst h9
    have e9 : ((some (.long (v_r_tagged (4 : Int64) ((σ.1 123) (x1).toNatClampNeg) σ)), σ) : Option Value × jx_S) = res := hK
    subst e9
    exact jE_ret hC rfl
  · rw [if_neg hc] at h
    refine jE_ifF 106 hC (by decide) hc ?_
    refine jE_blk (bs := [(.aload_n 0, 0, 0), (.getfield 145, 12, 61), (.iload_n 2, 0, 0), (.aload_n 0, 0, 0), (.getfield 44, 12, 16), (.iload_n 1, 0, 0)]) (i := .iaload) (a1 := 0) (a2 := 0) (pc1 := 100) (l1 := [(0, .ref 106), (1, .int x1), (2, .int x2)]) (st1 := [.int x1, .ref 117, .int x2, .ref 150]) (σ1 := σ) (by decide +kernel) rfl (fun hC => ?_)
    obtain ⟨hi, h⟩ := jx_ite0_inv h
    refine jE_iald (n := 3000) hC (by decide) rfl hi ?_
    refine jE_blk (bs := [(.iadd, 0, 0)]) (i := .laload) (a1 := 0) (a2 := 0) (pc1 := 102) (l1 := [(0, .ref 106), (1, .int x1), (2, .int x2)]) (st1 := [.int (x2 + ((σ.1 117) (x1).toNatClampNeg)), .ref 150]) (σ1 := σ) (by decide +kernel) rfl (fun hC => ?_)
    obtain ⟨hi, h⟩ := jx_ite0_inv h
    refine jE_lald (n := 30000) hC (by decide) rfl hi ?_
    refine jE_blk (bs := [(.goto (15), 0, 0)]) (i := .lreturn) (a1 := 0) (a2 := 0) (pc1 := 118) (l1 := [(0, .ref 106), (1, .int x1), (2, .int x2)]) (st1 := [.long ((σ.2 150) ((x2 + ((σ.1 117) (x1).toNatClampNeg))).toNatClampNeg)]) (σ1 := σ) (by decide +kernel) rfl (fun hC => ?_)
    have h9 := Option.some.inj h
    subst h9
    have e9 : ((some (.long ((σ.2 150) ((x2 + ((σ.1 117) (x1).toNatClampNeg))).toNatClampNeg)), σ) : Option Value × jx_S) = res := hK
    subst e9
    exact jE_ret hC rfl
def p_r_putOne (x1 : Int32) (x2 : Int32) (σ : jx_S) : Option (Int64 × jx_S) := (if x1 < 0 ∨ 3000 ≤ (x1).toNatClampNeg then none else (if ¬ ((σ.1 112) (x1).toNatClampNeg) = (2 : Int32) then (if x1 < 0 ∨ 3000 ≤ (x1).toNatClampNeg then none else (if ¬ ((σ.1 112) (x1).toNatClampNeg) = (13 : Int32) then (if x1 < 0 ∨ 3000 ≤ (x1).toNatClampNeg then none else (if ¬ ((σ.1 112) (x1).toNatClampNeg) = (1 : Int32) then (p_r_putOne_119 x1 x2 σ) else (if x1 < 0 ∨ 3000 ≤ (x1).toNatClampNeg then none else (if ¬ ((σ.1 119) (x1).toNatClampNeg) = 0 then (p_r_putOne_119 x1 x2 σ) else (if x1 < 0 ∨ 3000 ≤ (x1).toNatClampNeg then none else (if 0 ≤ ((σ.1 117) (x1).toNatClampNeg) then (p_r_putOne_81 x1 x2 σ) else (if x1 < 0 ∨ 3000 ≤ (x1).toNatClampNeg then none else (if ((σ.1 124) (x1).toNatClampNeg) ≤ (1 : Int32) then (p_r_putOne_119 x1 x2 σ) else (p_r_putOne_81 x1 x2 σ))))))))) else (some (((v_r_tagged (1 : Int64) (0 : Int32) σ), σ))))) else (if x1 < 0 ∨ 3000 ≤ (x1).toNatClampNeg then none else (if ((σ.1 113) (x1).toNatClampNeg) < 0 ∨ 1202 ≤ (((σ.1 113) (x1).toNatClampNeg)).toNatClampNeg then none else (some (((v_r_tagged (0 : Int64) ((σ.1 111) (((σ.1 113) (x1).toNatClampNeg)).toNatClampNeg) σ), σ)))))))
theorem x_r_putOne (d : Nat) (hd : 2 ≤ d) (x1 : Int32) (x2 : Int32) (σ : jx_S) (t : (Int64 × jx_S)) (res : Option Value × jx_S) (h : p_r_putOne x1 x2 σ = some t) (hK : kkJ t res) : jE d 213 0 [(0, .ref 106), (1, .int x1), (2, .int x2)] [] σ res := by
  unfold p_r_putOne at h
  refine jE_blk (bs := [(.aload_n 0, 0, 0), (.getfield 29, 12, 11), (.iload_n 1, 0, 0)]) (i := .iaload) (a1 := 0) (a2 := 0) (pc1 := 5) (l1 := [(0, .ref 106), (1, .int x1), (2, .int x2)]) (st1 := [.int x1, .ref 112]) (σ1 := σ) (by decide +kernel) rfl (fun hC => ?_)
  obtain ⟨hi, h⟩ := jx_ite0_inv h
  refine jE_iald (n := 3000) hC (by decide) rfl hi ?_
  refine jE_blk (bs := [(.iconst (2), 2, 0)]) (i := .if_icmp .ne (19)) (a1 := 0) (a2 := 0) (pc1 := 7) (l1 := [(0, .ref 106), (1, .int x1), (2, .int x2)]) (st1 := [.int (2 : Int32), .int ((σ.1 112) (x1).toNatClampNeg)]) (σ1 := σ) (by decide +kernel) rfl (fun hC => ?_)
  rcases Classical.em (¬ ((σ.1 112) (x1).toNatClampNeg) = (2 : Int32)) with hc | hc
  · rw [if_pos hc] at h
    refine jE_icT 26 hC (by decide) hc ?_
    refine jE_blk (bs := [(.aload_n 0, 0, 0), (.getfield 29, 12, 11), (.iload_n 1, 0, 0)]) (i := .iaload) (a1 := 0) (a2 := 0) (pc1 := 31) (l1 := [(0, .ref 106), (1, .int x1), (2, .int x2)]) (st1 := [.int x1, .ref 112]) (σ1 := σ) (by decide +kernel) rfl (fun hC => ?_)
    obtain ⟨hi, h⟩ := jx_ite0_inv h
    refine jE_iald (n := 3000) hC (by decide) rfl hi ?_
    refine jE_blk (bs := [(.bipush (13), 13, 0)]) (i := .if_icmp .ne (9)) (a1 := 0) (a2 := 0) (pc1 := 34) (l1 := [(0, .ref 106), (1, .int x1), (2, .int x2)]) (st1 := [.int (13 : Int32), .int ((σ.1 112) (x1).toNatClampNeg)]) (σ1 := σ) (by decide +kernel) rfl (fun hC => ?_)
    rcases Classical.em (¬ ((σ.1 112) (x1).toNatClampNeg) = (13 : Int32)) with hc | hc
    · rw [if_pos hc] at h
      refine jE_icT 43 hC (by decide) hc ?_
      refine jE_blk (bs := [(.aload_n 0, 0, 0), (.getfield 29, 12, 11), (.iload_n 1, 0, 0)]) (i := .iaload) (a1 := 0) (a2 := 0) (pc1 := 48) (l1 := [(0, .ref 106), (1, .int x1), (2, .int x2)]) (st1 := [.int x1, .ref 112]) (σ1 := σ) (by decide +kernel) rfl (fun hC => ?_)
      obtain ⟨hi, h⟩ := jx_ite0_inv h
      refine jE_iald (n := 3000) hC (by decide) rfl hi ?_
      refine jE_blk (bs := [(.iconst (1), 1, 0)]) (i := .if_icmp .ne (69)) (a1 := 0) (a2 := 0) (pc1 := 50) (l1 := [(0, .ref 106), (1, .int x1), (2, .int x2)]) (st1 := [.int (1 : Int32), .int ((σ.1 112) (x1).toNatClampNeg)]) (σ1 := σ) (by decide +kernel) rfl (fun hC => ?_)
      rcases Classical.em (¬ ((σ.1 112) (x1).toNatClampNeg) = (1 : Int32)) with hc | hc
      · rw [if_pos hc] at h
        refine jE_icT 119 hC (by decide) hc ?_
        exact jE_loc (l := [(0, .ref 106), (1, .int x1), (2, .int x2)]) (ks := [0, 1, 2]) rfl (by decide) ⟨rfl, rfl, rfl, trivial⟩ (x_r_putOne_119 d hd x1 x2 σ _ res h hK)
      · rw [if_neg hc] at h
        refine jE_icF 119 hC (by decide) hc ?_
        refine jE_blk (bs := [(.aload_n 0, 0, 0), (.getfield 50, 12, 18), (.iload_n 1, 0, 0)]) (i := .iaload) (a1 := 0) (a2 := 0) (pc1 := 58) (l1 := [(0, .ref 106), (1, .int x1), (2, .int x2)]) (st1 := [.int x1, .ref 119]) (σ1 := σ) (by decide +kernel) rfl (fun hC => ?_)
        obtain ⟨hi, h⟩ := jx_ite0_inv h
        refine jE_iald (n := 3000) hC (by decide) rfl hi ?_
        refine jE_blk (bs := []) (i := .ifCond .ne (60)) (a1 := 0) (a2 := 0) (pc1 := 59) (l1 := [(0, .ref 106), (1, .int x1), (2, .int x2)]) (st1 := [.int ((σ.1 119) (x1).toNatClampNeg)]) (σ1 := σ) (by decide +kernel) rfl (fun hC => ?_)
        rcases Classical.em (¬ ((σ.1 119) (x1).toNatClampNeg) = 0) with hc | hc
        · rw [if_pos hc] at h
          refine jE_ifT 119 hC (by decide) hc ?_
          exact jE_loc (l := [(0, .ref 106), (1, .int x1), (2, .int x2)]) (ks := [0, 1, 2]) rfl (by decide) ⟨rfl, rfl, rfl, trivial⟩ (x_r_putOne_119 d hd x1 x2 σ _ res h hK)
        · rw [if_neg hc] at h
          refine jE_ifF 119 hC (by decide) hc ?_
          refine jE_blk (bs := [(.aload_n 0, 0, 0), (.getfield 44, 12, 16), (.iload_n 1, 0, 0)]) (i := .iaload) (a1 := 0) (a2 := 0) (pc1 := 67) (l1 := [(0, .ref 106), (1, .int x1), (2, .int x2)]) (st1 := [.int x1, .ref 117]) (σ1 := σ) (by decide +kernel) rfl (fun hC => ?_)
          obtain ⟨hi, h⟩ := jx_ite0_inv h
          refine jE_iald (n := 3000) hC (by decide) rfl hi ?_
          refine jE_blk (bs := []) (i := .ifCond .ge (13)) (a1 := 0) (a2 := 0) (pc1 := 68) (l1 := [(0, .ref 106), (1, .int x1), (2, .int x2)]) (st1 := [.int ((σ.1 117) (x1).toNatClampNeg)]) (σ1 := σ) (by decide +kernel) rfl (fun hC => ?_)
          rcases Classical.em (0 ≤ ((σ.1 117) (x1).toNatClampNeg)) with hc | hc
          · rw [if_pos hc] at h
            refine jE_ifT 81 hC (by decide) hc ?_
            exact jE_loc (l := [(0, .ref 106), (1, .int x1), (2, .int x2)]) (ks := [0, 1, 2]) rfl (by decide) ⟨rfl, rfl, rfl, trivial⟩ (x_r_putOne_81 d hd x1 x2 σ _ res h hK)
          · rw [if_neg hc] at h
            refine jE_ifF 81 hC (by decide) hc ?_
            refine jE_blk (bs := [(.aload_n 0, 0, 0), (.getfield 65, 12, 23), (.iload_n 1, 0, 0)]) (i := .iaload) (a1 := 0) (a2 := 0) (pc1 := 76) (l1 := [(0, .ref 106), (1, .int x1), (2, .int x2)]) (st1 := [.int x1, .ref 124]) (σ1 := σ) (by decide +kernel) rfl (fun hC => ?_)
            obtain ⟨hi, h⟩ := jx_ite0_inv h
            refine jE_iald (n := 3000) hC (by decide) rfl hi ?_
            refine jE_blk (bs := [(.iconst (1), 1, 0)]) (i := .if_icmp .le (41)) (a1 := 0) (a2 := 0) (pc1 := 78) (l1 := [(0, .ref 106), (1, .int x1), (2, .int x2)]) (st1 := [.int (1 : Int32), .int ((σ.1 124) (x1).toNatClampNeg)]) (σ1 := σ) (by decide +kernel) rfl (fun hC => ?_)
            rcases Classical.em (((σ.1 124) (x1).toNatClampNeg) ≤ (1 : Int32)) with hc | hc
            · rw [if_pos hc] at h
              refine jE_icT 119 hC (by decide) hc ?_
              exact jE_loc (l := [(0, .ref 106), (1, .int x1), (2, .int x2)]) (ks := [0, 1, 2]) rfl (by decide) ⟨rfl, rfl, rfl, trivial⟩ (x_r_putOne_119 d hd x1 x2 σ _ res h hK)
            · rw [if_neg hc] at h
              refine jE_icF 119 hC (by decide) hc ?_
              exact jE_loc (l := [(0, .ref 106), (1, .int x1), (2, .int x2)]) (ks := [0, 1, 2]) rfl (by decide) ⟨rfl, rfl, rfl, trivial⟩ (x_r_putOne_81 d hd x1 x2 σ _ res h hK)
    · rw [if_neg hc] at h
      refine jE_icF 43 hC (by decide) hc ?_
      refine jE_blk (bs := [(.lconst 1, 0, 0), (.iconst (0), 0, 0)]) (i := .invokestatic 533) (a1 := 209) (a2 := 0) (pc1 := 39) (l1 := [(0, .ref 106), (1, .int x1), (2, .int x2)]) (st1 := [.int (0 : Int32), .long (1 : Int64)]) (σ1 := σ) (by decide +kernel) rfl (fun hC => ?_)
      refine jE_call (as := [.long (1 : Int64), .int (0 : Int32)]) (pc1 := 42) (st1 := []) hC rfl (by decide) (by omega) (xv_r_tagged (d - 1) (by omega) (1 : Int64) (0 : Int32) σ) ?_
      refine jE_blk (bs := []) (i := .lreturn) (a1 := 0) (a2 := 0) (pc1 := 42) (l1 := [(0, .ref 106), (1, .int x1), (2, .int x2)]) (st1 := [.long (v_r_tagged (1 : Int64) (0 : Int32) σ)]) (σ1 := σ) (by decide +kernel) rfl (fun hC => ?_)
      have h9 := Option.some.inj h
      subst h9
      have e9 : ((some (.long (v_r_tagged (1 : Int64) (0 : Int32) σ)), σ) : Option Value × jx_S) = res := hK
      subst e9
      exact jE_ret hC rfl
  · rw [if_neg hc] at h
    refine jE_icF 26 hC (by decide) hc ?_
    refine jE_blk (bs := [(.lconst 0, 0, 0), (.aload_n 0, 0, 0), (.getfield 26, 12, 9), (.aload_n 0, 0, 0), (.getfield 32, 12, 12), (.iload_n 1, 0, 0)]) (i := .iaload) (a1 := 0) (a2 := 0) (pc1 := 20) (l1 := [(0, .ref 106), (1, .int x1), (2, .int x2)]) (st1 := [.int x1, .ref 113, .ref 111, .long (0 : Int64)]) (σ1 := σ) (by decide +kernel) rfl (fun hC => ?_)
    obtain ⟨hi, h⟩ := jx_ite0_inv h
    refine jE_iald (n := 3000) hC (by decide) rfl hi ?_
    refine jE_blk (bs := []) (i := .iaload) (a1 := 0) (a2 := 0) (pc1 := 21) (l1 := [(0, .ref 106), (1, .int x1), (2, .int x2)]) (st1 := [.int ((σ.1 113) (x1).toNatClampNeg), .ref 111, .long (0 : Int64)]) (σ1 := σ) (by decide +kernel) rfl (fun hC => ?_)
    obtain ⟨hi, h⟩ := jx_ite0_inv h
    refine jE_iald (n := 1202) hC (by decide) rfl hi ?_
    refine jE_blk (bs := []) (i := .invokestatic 533) (a1 := 209) (a2 := 0) (pc1 := 22) (l1 := [(0, .ref 106), (1, .int x1), (2, .int x2)]) (st1 := [.int ((σ.1 111) (((σ.1 113) (x1).toNatClampNeg)).toNatClampNeg), .long (0 : Int64)]) (σ1 := σ) (by decide +kernel) rfl (fun hC => ?_)
    refine jE_call (as := [.long (0 : Int64), .int ((σ.1 111) (((σ.1 113) (x1).toNatClampNeg)).toNatClampNeg)]) (pc1 := 25) (st1 := []) hC rfl (by decide) (by omega) (xv_r_tagged (d - 1) (by omega) (0 : Int64) ((σ.1 111) (((σ.1 113) (x1).toNatClampNeg)).toNatClampNeg) σ) ?_
    refine jE_blk (bs := []) (i := .lreturn) (a1 := 0) (a2 := 0) (pc1 := 25) (l1 := [(0, .ref 106), (1, .int x1), (2, .int x2)]) (st1 := [.long (v_r_tagged (0 : Int64) ((σ.1 111) (((σ.1 113) (x1).toNatClampNeg)).toNatClampNeg) σ)]) (σ1 := σ) (by decide +kernel) rfl (fun hC => ?_)
    have h9 := Option.some.inj h
    subst h9
    have e9 : ((some (.long (v_r_tagged (0 : Int64) ((σ.1 111) (((σ.1 113) (x1).toNatClampNeg)).toNatClampNeg) σ)), σ) : Option Value × jx_S) = res := hK
    subst e9
    exact jE_ret hC rfl
def kk_r_putOff_12 (d : Nat) (t : ((Int32 × Int64 × jx_S) ⊕ (Int64 × jx_S))) (res : Option Value × jx_S) : Prop := match t with
  | .inl s => jE d 215 12 [(0, .ref 106), (2, .int s.1), (3, .long s.2.1)] [] s.2.2 res
  | .inr t => kkJ t res
def p_r_putOff_12_s (x2 : Int32) (x3 : Int64) (σ : jx_S) : Option ((Int32 × Int64 × jx_S) ⊕ (Int64 × jx_S)) := (if (σ.1 106 101) ≤ 0 then (Option.map Sum.inr (some ((x3, σ)))) else (if ¬ (σ.1 106 87) = 0 then (Option.map Sum.inr (some ((x3, σ)))) else (if ((σ.1 106 101) - (1 : Int32)) < 0 ∨ 3000 ≤ (((σ.1 106 101) - (1 : Int32))).toNatClampNeg then none else (if ((σ.1 106 101) - (1 : Int32)) < 0 ∨ 3000 ≤ (((σ.1 106 101) - (1 : Int32))).toNatClampNeg then none else ((p_r_putOne ((σ.1 169) (((σ.1 106 101) - (1 : Int32))).toNatClampNeg) x2 (jx_i σ 106 101 ((σ.1 106 101) - (1 : Int32)))).bind fun q4 => (if ((σ.1 170) (((σ.1 106 101) - (1 : Int32))).toNatClampNeg) < 0 ∨ 6000 ≤ (((σ.1 170) (((σ.1 106 101) - (1 : Int32))).toNatClampNeg)).toNatClampNeg then none else (some (.inl (x2, x3, (jx_l q4.2 160 (((σ.1 170) (((σ.1 106 101) - (1 : Int32))).toNatClampNeg)).toNatClampNeg q4.1))))))))))
theorem x_r_putOff_12_s (d : Nat) (hd : 3 ≤ d) (x2 : Int32) (x3 : Int64) (σ : jx_S) (t : ((Int32 × Int64 × jx_S) ⊕ (Int64 × jx_S))) (res : Option Value × jx_S) (h : p_r_putOff_12_s x2 x3 σ = some t) (hK : kk_r_putOff_12 d t res) : jE d 215 12 [(0, .ref 106), (2, .int x2), (3, .long x3)] [] σ res := by
  unfold p_r_putOff_12_s at h
  refine jE_blk (bs := [(.aload_n 0, 0, 0), (.getfield 545, 12, 101)]) (i := .ifCond .le (59)) (a1 := 0) (a2 := 0) (pc1 := 16) (l1 := [(0, .ref 106), (2, .int x2), (3, .long x3)]) (st1 := [.int (σ.1 106 101)]) (σ1 := σ) (by decide +kernel) rfl (fun hC => ?_)
  rcases Classical.em ((σ.1 106 101) ≤ 0) with hc | hc
  · rw [if_pos hc] at h
    refine jE_ifT 75 hC (by decide) hc ?_
    obtain ⟨t9_2, h9_2, h8_2⟩ := Option.map_eq_some_iff.mp h
    clear h
    subst h8_2
    have h := h9_2
    clear h9_2
    refine jE_blk (bs := [(.lload_n 3, 0, 0)]) (i := .lreturn) (a1 := 0) (a2 := 0) (pc1 := 76) (l1 := [(0, .ref 106), (2, .int x2), (3, .long x3)]) (st1 := [.long x3]) (σ1 := σ) (by decide +kernel) rfl (fun hC => ?_)
    have h9 := Option.some.inj h
    subst h9
    have e9 : ((some (.long x3), σ) : Option Value × jx_S) = res := hK
    subst e9
    exact jE_ret hC rfl
  · rw [if_neg hc] at h
    refine jE_ifF 75 hC (by decide) hc ?_
    refine jE_blk (bs := [(.aload_n 0, 0, 0), (.getfield 521, 12, 87)]) (i := .ifCond .ne (52)) (a1 := 0) (a2 := 0) (pc1 := 23) (l1 := [(0, .ref 106), (2, .int x2), (3, .long x3)]) (st1 := [.int (σ.1 106 87)]) (σ1 := σ) (by decide +kernel) rfl (fun hC => ?_)
    rcases Classical.em (¬ (σ.1 106 87) = 0) with hc | hc
    · rw [if_pos hc] at h
      refine jE_ifT 75 hC (by decide) hc ?_
      obtain ⟨t9_3, h9_3, h8_3⟩ := Option.map_eq_some_iff.mp h
      clear h
      subst h8_3
      have h := h9_3
      clear h9_3
      refine jE_blk (bs := [(.lload_n 3, 0, 0)]) (i := .lreturn) (a1 := 0) (a2 := 0) (pc1 := 76) (l1 := [(0, .ref 106), (2, .int x2), (3, .long x3)]) (st1 := [.long x3]) (σ1 := σ) (by decide +kernel) rfl (fun hC => ?_)
      have h9 := Option.some.inj h
      subst h9
      have e9 : ((some (.long x3), σ) : Option Value × jx_S) = res := hK
      subst e9
      exact jE_ret hC rfl
    · rw [if_neg hc] at h
      refine jE_ifF 75 hC (by decide) hc ?_
      refine jE_blk (bs := [(.aload_n 0, 0, 0), (.dup, 0, 0), (.getfield 545, 12, 101), (.iconst (1), 1, 0), (.isub, 0, 0), (.putfield 545, 12, 101), (.aload_n 0, 0, 0), (.getfield 206, 12, 100), (.aload_n 0, 0, 0), (.getfield 545, 12, 101)]) (i := .iaload) (a1 := 0) (a2 := 0) (pc1 := 44) (l1 := [(0, .ref 106), (2, .int x2), (3, .long x3)]) (st1 := [.int ((σ.1 106 101) - (1 : Int32)), .ref 170]) (σ1 := (jx_i σ 106 101 ((σ.1 106 101) - (1 : Int32)))) (by decide +kernel) rfl (fun hC => ?_)
      obtain ⟨hi, h⟩ := jx_ite0_inv h
      refine jE_iald (n := 3000) hC (by decide) rfl hi ?_
      refine jE_blk (bs := [(.istore 5, 8, 0), (.aload_n 0, 0, 0), (.aload_n 0, 0, 0), (.getfield 203, 12, 99), (.aload_n 0, 0, 0), (.getfield 545, 12, 101)]) (i := .iaload) (a1 := 0) (a2 := 0) (pc1 := 56) (l1 := [(5, .int ((σ.1 170) (((σ.1 106 101) - (1 : Int32))).toNatClampNeg)), (0, .ref 106), (2, .int x2), (3, .long x3)]) (st1 := [.int ((σ.1 106 101) - (1 : Int32)), .ref 169, .ref 106]) (σ1 := (jx_i σ 106 101 ((σ.1 106 101) - (1 : Int32)))) (by decide +kernel) rfl (fun hC => ?_)
      obtain ⟨hi, h⟩ := jx_ite0_inv h
      refine jE_iald (n := 3000) hC (by decide) rfl hi ?_
      refine jE_blk (bs := [(.iload_n 2, 0, 0)]) (i := .invokevirtual 550) (a1 := 213) (a2 := 0) (pc1 := 58) (l1 := [(5, .int ((σ.1 170) (((σ.1 106 101) - (1 : Int32))).toNatClampNeg)), (0, .ref 106), (2, .int x2), (3, .long x3)]) (st1 := [.int x2, .int ((σ.1 169) (((σ.1 106 101) - (1 : Int32))).toNatClampNeg), .ref 106]) (σ1 := (jx_i σ 106 101 ((σ.1 106 101) - (1 : Int32)))) (by decide +kernel) rfl (fun hC => ?_)
      obtain ⟨q4, hq, h⟩ := Option.bind_eq_some_iff.mp h
      refine jE_call (as := [.ref 106, .int ((σ.1 169) (((σ.1 106 101) - (1 : Int32))).toNatClampNeg), .int x2]) (pc1 := 61) (st1 := []) hC rfl (by decide) (by omega) (x_r_putOne (d - 1) (by omega) ((σ.1 169) (((σ.1 106 101) - (1 : Int32))).toNatClampNeg) x2 (jx_i σ 106 101 ((σ.1 106 101) - (1 : Int32))) q4 (some (.long q4.1), q4.2) hq rfl) ?_
      refine jE_blk (bs := [(.lstore 6, 8, 0), (.aload_n 0, 0, 0), (.getfield 176, 12, 75), (.iload 5, 0, 0), (.lload 6, 0, 0)]) (i := .lastore) (a1 := 0) (a2 := 0) (pc1 := 71) (l1 := [(6, .long q4.1), (5, .int ((σ.1 170) (((σ.1 106 101) - (1 : Int32))).toNatClampNeg)), (0, .ref 106), (2, .int x2), (3, .long x3)]) (st1 := [.long q4.1, .int ((σ.1 170) (((σ.1 106 101) - (1 : Int32))).toNatClampNeg), .ref 160]) (σ1 := q4.2) (by decide +kernel) rfl (fun hC => ?_)
      obtain ⟨hi, h⟩ := jx_ite0_inv h
      refine jE_last (n := 6000) hC (by decide) rfl hi ?_
      refine jE_blk (bs := [(.goto (-60), 0, 0)]) (i := .aload_n 0) (a1 := 0) (a2 := 0) (pc1 := 12) (l1 := [(6, .long q4.1), (5, .int ((σ.1 170) (((σ.1 106 101) - (1 : Int32))).toNatClampNeg)), (0, .ref 106), (2, .int x2), (3, .long x3)]) (st1 := []) (σ1 := (jx_l q4.2 160 (((σ.1 170) (((σ.1 106 101) - (1 : Int32))).toNatClampNeg)).toNatClampNeg q4.1)) (by decide +kernel) rfl (fun hC => ?_)
      have h9 := Option.some.inj h
      subst h9
      exact jE_loc (l := [(0, .ref 106), (2, .int x2), (3, .long x3)]) (ks := [0, 2, 3]) rfl (by decide) ⟨rfl, rfl, rfl, trivial⟩ hK
def p_r_putOff_12 (x2 : Int32) (x3 : Int64) (σ : jx_S) : Option (Int64 × jx_S) := jx_loop 100000000 (fun s => p_r_putOff_12_s s.1 s.2.1 (s.2.2)) (x2, x3, σ)
theorem x_r_putOff_12 (d : Nat) (hd : 3 ≤ d) (x2 : Int32) (x3 : Int64) (σ : jx_S) (t : (Int64 × jx_S)) (res : Option Value × jx_S) (h : p_r_putOff_12 x2 x3 σ = some t) (hK : kkJ t res) : jE d 215 12 [(0, .ref 106), (2, .int x2), (3, .long x3)] [] σ res := by
  refine jx_loop_ok (E := fun s t => ∀ res, kkJ t res → jE d 215 12 [(0, .ref 106), (2, .int s.1), (3, .long s.2.1)] [] s.2.2 res) (fun s t hs => ?_) _ _ _ h res hK
  cases t with
  | inl s1 => exact fun b hb res hk => x_r_putOff_12_s d hd (s.1) (s.2.1) (s.2.2) _ res hs (hb res hk)
  | inr b => exact fun res hk => x_r_putOff_12_s d hd (s.1) (s.2.1) (s.2.2) _ res hs hk
def p_r_putOff (x1 : Int32) (x2 : Int32) (σ : jx_S) : Option (Int64 × jx_S) := ((p_r_putOne x1 x2 (jx_i σ 106 101 (0 : Int32))).bind fun q1 => (p_r_putOff_12 x2 q1.1 q1.2))
theorem x_r_putOff (d : Nat) (hd : 3 ≤ d) (x1 : Int32) (x2 : Int32) (σ : jx_S) (t : (Int64 × jx_S)) (res : Option Value × jx_S) (h : p_r_putOff x1 x2 σ = some t) (hK : kkJ t res) : jE d 215 0 [(0, .ref 106), (1, .int x1), (2, .int x2)] [] σ res := by
  unfold p_r_putOff at h
  refine jE_blk (bs := [(.aload_n 0, 0, 0), (.iconst (0), 0, 0), (.putfield 545, 12, 101), (.aload_n 0, 0, 0), (.iload_n 1, 0, 0), (.iload_n 2, 0, 0)]) (i := .invokevirtual 550) (a1 := 213) (a2 := 0) (pc1 := 8) (l1 := [(0, .ref 106), (1, .int x1), (2, .int x2)]) (st1 := [.int x2, .int x1, .ref 106]) (σ1 := (jx_i σ 106 101 (0 : Int32))) (by decide +kernel) rfl (fun hC => ?_)
  obtain ⟨q1, hq, h⟩ := Option.bind_eq_some_iff.mp h
  refine jE_call (as := [.ref 106, .int x1, .int x2]) (pc1 := 11) (st1 := []) hC rfl (by decide) (by omega) (x_r_putOne (d - 1) (by omega) x1 x2 (jx_i σ 106 101 (0 : Int32)) q1 (some (.long q1.1), q1.2) hq rfl) ?_
  refine jE_blk (bs := [(.lstore_n 3, 8, 0)]) (i := .aload_n 0) (a1 := 0) (a2 := 0) (pc1 := 12) (l1 := [(3, .long q1.1), (0, .ref 106), (1, .int x1), (2, .int x2)]) (st1 := []) (σ1 := q1.2) (by decide +kernel) rfl (fun hC => ?_)
  exact jE_loc (l := [(0, .ref 106), (2, .int x2), (3, .long q1.1)]) (ks := [0, 2, 3]) rfl (by decide) ⟨rfl, rfl, rfl, trivial⟩ (x_r_putOff_12 d hd x2 q1.1 q1.2 _ res h hK)
def kk_r_functionOf_2 (d : Nat) (t : ((Int64 × jx_S) ⊕ (Int32 × jx_S))) (res : Option Value × jx_S) : Prop := match t with
  | .inl s => jE d 216 2 [(0, .ref 106), (3, .long s.1)] [] s.2 res
  | .inr t => kkI t res
def p_r_functionOf_2_s (x3 : Int64) (σ : jx_S) : Option ((Int64 × jx_S) ⊕ (Int32 × jx_S)) := (if ¬ (v_r_tagOf x3 σ) = (5 : Int32) then (Option.map Sum.inr (some (((x3).toInt32, σ)))) else (if (x3).toInt32 < 0 ∨ 6000 ≤ ((x3).toInt32).toNatClampNeg then none else (some (.inl (((σ.2 157) ((x3).toInt32).toNatClampNeg), σ)))))
theorem x_r_functionOf_2_s (d : Nat) (hd : 1 ≤ d) (x3 : Int64) (σ : jx_S) (t : ((Int64 × jx_S) ⊕ (Int32 × jx_S))) (res : Option Value × jx_S) (h : p_r_functionOf_2_s x3 σ = some t) (hK : kk_r_functionOf_2 d t res) : jE d 216 2 [(0, .ref 106), (3, .long x3)] [] σ res := by
  unfold p_r_functionOf_2_s at h
  refine jE_blk (bs := [(.lload_n 3, 0, 0)]) (i := .invokestatic 553) (a1 := 210) (a2 := 0) (pc1 := 3) (l1 := [(0, .ref 106), (3, .long x3)]) (st1 := [.long x3]) (σ1 := σ) (by decide +kernel) rfl (fun hC => ?_)
  refine jE_call (as := [.long x3]) (pc1 := 6) (st1 := []) hC rfl (by decide) (by omega) (xv_r_tagOf (d - 1) (by omega) x3 σ) ?_
  refine jE_blk (bs := [(.iconst (5), 5, 0)]) (i := .if_icmp .ne (14)) (a1 := 0) (a2 := 0) (pc1 := 7) (l1 := [(0, .ref 106), (3, .long x3)]) (st1 := [.int (5 : Int32), .int (v_r_tagOf x3 σ)]) (σ1 := σ) (by decide +kernel) rfl (fun hC => ?_)
  rcases Classical.em (¬ (v_r_tagOf x3 σ) = (5 : Int32)) with hc | hc
  · rw [if_pos hc] at h
    refine jE_icT 21 hC (by decide) hc ?_
    obtain ⟨t9_1, h9_1, h8_1⟩ := Option.map_eq_some_iff.mp h
    clear h
    subst h8_1
    have h := h9_1
    clear h9_1
    refine jE_blk (bs := [(.lload_n 3, 0, 0), (.l2i, 0, 0)]) (i := .ireturn) (a1 := 0) (a2 := 0) (pc1 := 23) (l1 := [(0, .ref 106), (3, .long x3)]) (st1 := [.int (x3).toInt32]) (σ1 := σ) (by decide +kernel) rfl (fun hC => ?_)
    have h9 := Option.some.inj h
    subst h9
    have e9 : ((some (.int (x3).toInt32), σ) : Option Value × jx_S) = res := hK
    subst e9
    exact jE_ret hC rfl
  · rw [if_neg hc] at h
    refine jE_icF 21 hC (by decide) hc ?_
    refine jE_blk (bs := [(.aload_n 0, 0, 0), (.getfield 167, 12, 71), (.lload_n 3, 0, 0), (.l2i, 0, 0)]) (i := .laload) (a1 := 0) (a2 := 0) (pc1 := 16) (l1 := [(0, .ref 106), (3, .long x3)]) (st1 := [.int (x3).toInt32, .ref 157]) (σ1 := σ) (by decide +kernel) rfl (fun hC => ?_)
    obtain ⟨hi, h⟩ := jx_ite0_inv h
    refine jE_lald (n := 6000) hC (by decide) rfl hi ?_
    refine jE_blk (bs := [(.lstore_n 3, 5, 0), (.goto (-16), 0, 0)]) (i := .lload_n 3) (a1 := 0) (a2 := 0) (pc1 := 2) (l1 := [(3, .long ((σ.2 157) ((x3).toInt32).toNatClampNeg)), (0, .ref 106)]) (st1 := []) (σ1 := σ) (by decide +kernel) rfl (fun hC => ?_)
    have h9 := Option.some.inj h
    subst h9
    exact jE_loc (l := [(0, .ref 106), (3, .long ((σ.2 157) ((x3).toInt32).toNatClampNeg))]) (ks := [0, 3]) rfl (by decide) ⟨rfl, rfl, trivial⟩ hK
def p_r_functionOf_2 (x3 : Int64) (σ : jx_S) : Option (Int32 × jx_S) := jx_loop 100000000 (fun s => p_r_functionOf_2_s s.1 (s.2)) (x3, σ)
theorem x_r_functionOf_2 (d : Nat) (hd : 1 ≤ d) (x3 : Int64) (σ : jx_S) (t : (Int32 × jx_S)) (res : Option Value × jx_S) (h : p_r_functionOf_2 x3 σ = some t) (hK : kkI t res) : jE d 216 2 [(0, .ref 106), (3, .long x3)] [] σ res := by
  refine jx_loop_ok (E := fun s t => ∀ res, kkI t res → jE d 216 2 [(0, .ref 106), (3, .long s.1)] [] s.2 res) (fun s t hs => ?_) _ _ _ h res hK
  cases t with
  | inl s1 => exact fun b hb res hk => x_r_functionOf_2_s d hd (s.1) (s.2) _ res hs (hb res hk)
  | inr b => exact fun res hk => x_r_functionOf_2_s d hd (s.1) (s.2) _ res hs hk
def p_r_functionOf (x1 : Int64) (σ : jx_S) : Option (Int32 × jx_S) := (p_r_functionOf_2 x1 σ)
theorem x_r_functionOf (d : Nat) (hd : 1 ≤ d) (x1 : Int64) (σ : jx_S) (t : (Int32 × jx_S)) (res : Option Value × jx_S) (h : p_r_functionOf x1 σ = some t) (hK : kkI t res) : jE d 216 0 [(0, .ref 106), (1, .long x1)] [] σ res := by
  unfold p_r_functionOf at h
  refine jE_blk (bs := [(.lload_n 1, 0, 0), (.lstore_n 3, 5, 0)]) (i := .lload_n 3) (a1 := 0) (a2 := 0) (pc1 := 2) (l1 := [(3, .long x1), (0, .ref 106), (1, .long x1)]) (st1 := []) (σ1 := σ) (by decide +kernel) rfl (fun hC => ?_)
  exact jE_loc (l := [(0, .ref 106), (3, .long x1)]) (ks := [0, 3]) rfl (by decide) ⟨rfl, rfl, trivial⟩ (x_r_functionOf_2 d hd x1 σ _ res h hK)
def kk_r_gotBy_5 (d : Nat) (t : ((Int64 × Int32 × jx_S) ⊕ (Int32 × jx_S))) (res : Option Value × jx_S) : Prop := match t with
  | .inl s => jE d 217 5 [(0, .ref 106), (3, .long s.1), (5, .int s.2.1)] [] s.2.2 res
  | .inr t => kkI t res
def p_r_gotBy_5_s (x3 : Int64) (x5 : Int32) (σ : jx_S) : Option ((Int64 × Int32 × jx_S) ⊕ (Int32 × jx_S)) := (if ¬ (v_r_tagOf x3 σ) = (5 : Int32) then (Option.map Sum.inr (some ((x5, σ)))) else (if (x3).toInt32 < 0 ∨ 6000 ≤ ((x3).toInt32).toNatClampNeg then none else (if (x3).toInt32 < 0 ∨ 6000 ≤ ((x3).toInt32).toNatClampNeg then none else (some (.inl (((σ.2 157) ((x3).toInt32).toNatClampNeg), (x5 + ((σ.1 159) ((x3).toInt32).toNatClampNeg)), σ))))))
theorem x_r_gotBy_5_s (d : Nat) (hd : 1 ≤ d) (x3 : Int64) (x5 : Int32) (σ : jx_S) (t : ((Int64 × Int32 × jx_S) ⊕ (Int32 × jx_S))) (res : Option Value × jx_S) (h : p_r_gotBy_5_s x3 x5 σ = some t) (hK : kk_r_gotBy_5 d t res) : jE d 217 5 [(0, .ref 106), (3, .long x3), (5, .int x5)] [] σ res := by
  unfold p_r_gotBy_5_s at h
  refine jE_blk (bs := [(.lload_n 3, 0, 0)]) (i := .invokestatic 553) (a1 := 210) (a2 := 0) (pc1 := 6) (l1 := [(0, .ref 106), (3, .long x3), (5, .int x5)]) (st1 := [.long x3]) (σ1 := σ) (by decide +kernel) rfl (fun hC => ?_)
  refine jE_call (as := [.long x3]) (pc1 := 9) (st1 := []) hC rfl (by decide) (by omega) (xv_r_tagOf (d - 1) (by omega) x3 σ) ?_
  refine jE_blk (bs := [(.iconst (5), 5, 0)]) (i := .if_icmp .ne (26)) (a1 := 0) (a2 := 0) (pc1 := 10) (l1 := [(0, .ref 106), (3, .long x3), (5, .int x5)]) (st1 := [.int (5 : Int32), .int (v_r_tagOf x3 σ)]) (σ1 := σ) (by decide +kernel) rfl (fun hC => ?_)
  rcases Classical.em (¬ (v_r_tagOf x3 σ) = (5 : Int32)) with hc | hc
  · rw [if_pos hc] at h
    refine jE_icT 36 hC (by decide) hc ?_
    obtain ⟨t9_1, h9_1, h8_1⟩ := Option.map_eq_some_iff.mp h
    clear h
    subst h8_1
    have h := h9_1
    clear h9_1
    refine jE_blk (bs := [(.iload 5, 0, 0)]) (i := .ireturn) (a1 := 0) (a2 := 0) (pc1 := 38) (l1 := [(0, .ref 106), (3, .long x3), (5, .int x5)]) (st1 := [.int x5]) (σ1 := σ) (by decide +kernel) rfl (fun hC => ?_)
    have h9 := Option.some.inj h
    subst h9
    have e9 : ((some (.int x5), σ) : Option Value × jx_S) = res := hK
    subst e9
    exact jE_ret hC rfl
  · rw [if_neg hc] at h
    refine jE_icF 36 hC (by decide) hc ?_
    refine jE_blk (bs := [(.iload 5, 0, 0), (.aload_n 0, 0, 0), (.getfield 173, 12, 73), (.lload_n 3, 0, 0), (.l2i, 0, 0)]) (i := .iaload) (a1 := 0) (a2 := 0) (pc1 := 21) (l1 := [(0, .ref 106), (3, .long x3), (5, .int x5)]) (st1 := [.int (x3).toInt32, .ref 159, .int x5]) (σ1 := σ) (by decide +kernel) rfl (fun hC => ?_)
    obtain ⟨hi, h⟩ := jx_ite0_inv h
    refine jE_iald (n := 6000) hC (by decide) rfl hi ?_
    refine jE_blk (bs := [(.iadd, 0, 0), (.istore 5, 6, 0), (.aload_n 0, 0, 0), (.getfield 167, 12, 71), (.lload_n 3, 0, 0), (.l2i, 0, 0)]) (i := .laload) (a1 := 0) (a2 := 0) (pc1 := 31) (l1 := [(5, .int (x5 + ((σ.1 159) ((x3).toInt32).toNatClampNeg))), (0, .ref 106), (3, .long x3)]) (st1 := [.int (x3).toInt32, .ref 157]) (σ1 := σ) (by decide +kernel) rfl (fun hC => ?_)
    obtain ⟨hi, h⟩ := jx_ite0_inv h
    refine jE_lald (n := 6000) hC (by decide) rfl hi ?_
    refine jE_blk (bs := [(.lstore_n 3, 6, 0), (.goto (-28), 0, 0)]) (i := .lload_n 3) (a1 := 0) (a2 := 0) (pc1 := 5) (l1 := [(3, .long ((σ.2 157) ((x3).toInt32).toNatClampNeg)), (5, .int (x5 + ((σ.1 159) ((x3).toInt32).toNatClampNeg))), (0, .ref 106)]) (st1 := []) (σ1 := σ) (by decide +kernel) rfl (fun hC => ?_)
    have h9 := Option.some.inj h
    subst h9
    exact jE_loc (l := [(0, .ref 106), (3, .long ((σ.2 157) ((x3).toInt32).toNatClampNeg)), (5, .int (x5 + ((σ.1 159) ((x3).toInt32).toNatClampNeg)))]) (ks := [0, 3, 5]) rfl (by decide) ⟨rfl, rfl, rfl, trivial⟩ hK
def p_r_gotBy_5 (x3 : Int64) (x5 : Int32) (σ : jx_S) : Option (Int32 × jx_S) := jx_loop 100000000 (fun s => p_r_gotBy_5_s s.1 s.2.1 (s.2.2)) (x3, x5, σ)
theorem x_r_gotBy_5 (d : Nat) (hd : 1 ≤ d) (x3 : Int64) (x5 : Int32) (σ : jx_S) (t : (Int32 × jx_S)) (res : Option Value × jx_S) (h : p_r_gotBy_5 x3 x5 σ = some t) (hK : kkI t res) : jE d 217 5 [(0, .ref 106), (3, .long x3), (5, .int x5)] [] σ res := by
  refine jx_loop_ok (E := fun s t => ∀ res, kkI t res → jE d 217 5 [(0, .ref 106), (3, .long s.1), (5, .int s.2.1)] [] s.2.2 res) (fun s t hs => ?_) _ _ _ h res hK
  cases t with
  | inl s1 => exact fun b hb res hk => x_r_gotBy_5_s d hd (s.1) (s.2.1) (s.2.2) _ res hs (hb res hk)
  | inr b => exact fun res hk => x_r_gotBy_5_s d hd (s.1) (s.2.1) (s.2.2) _ res hs hk
def p_r_gotBy (x1 : Int64) (σ : jx_S) : Option (Int32 × jx_S) := (p_r_gotBy_5 x1 (0 : Int32) σ)
theorem x_r_gotBy (d : Nat) (hd : 1 ≤ d) (x1 : Int64) (σ : jx_S) (t : (Int32 × jx_S)) (res : Option Value × jx_S) (h : p_r_gotBy x1 σ = some t) (hK : kkI t res) : jE d 217 0 [(0, .ref 106), (1, .long x1)] [] σ res := by
  unfold p_r_gotBy at h
  refine jE_blk (bs := [(.lload_n 1, 0, 0), (.lstore_n 3, 6, 0), (.iconst (0), 0, 0), (.istore 5, 6, 0)]) (i := .lload_n 3) (a1 := 0) (a2 := 0) (pc1 := 5) (l1 := [(5, .int (0 : Int32)), (3, .long x1), (0, .ref 106), (1, .long x1)]) (st1 := []) (σ1 := σ) (by decide +kernel) rfl (fun hC => ?_)
  exact jE_loc (l := [(0, .ref 106), (3, .long x1), (5, .int (0 : Int32))]) (ks := [0, 3, 5]) rfl (by decide) ⟨rfl, rfl, rfl, trivial⟩ (x_r_gotBy_5 d hd x1 (0 : Int32) σ _ res h hK)
def kk_r_putGot_10 (d : Nat) (t : ((Int32 × Int64 × Int32 × jx_S) ⊕ jx_S)) (res : Option Value × jx_S) : Prop := match t with
  | .inl s => jE d 218 10 [(0, .ref 106), (3, .int s.1), (4, .long s.2.1), (6, .int s.2.2.1)] [] s.2.2.2 res
  | .inr t => kkV t res
def kk_r_putGot_27 (d : Nat) (t : ((Int32 × Int32 × Int32 × Int32 × jx_S) ⊕ ((Int32 × Int64 × Int32 × jx_S) ⊕ jx_S))) (res : Option Value × jx_S) : Prop := match t with
  | .inl s => jE d 218 27 [(0, .ref 106), (3, .int s.1), (6, .int s.2.1), (7, .int s.2.2.1), (8, .int s.2.2.2.1)] [] s.2.2.2.2 res
  | .inr t => kk_r_putGot_10 d t res
def p_r_putGot_27_s (x3 : Int32) (x6 : Int32) (x7 : Int32) (x8 : Int32) (σ : jx_S) : Option ((Int32 × Int32 × Int32 × Int32 × jx_S) ⊕ ((Int32 × Int64 × Int32 × jx_S) ⊕ jx_S)) := (if x7 < 0 ∨ 6000 ≤ (x7).toNatClampNeg then none else (if ((σ.1 159) (x7).toNatClampNeg) ≤ x8 then (Option.map Sum.inr (if x7 < 0 ∨ 6000 ≤ (x7).toNatClampNeg then none else (if x7 < 0 ∨ 6000 ≤ (x7).toNatClampNeg then none else (some (.inl (x3, ((σ.2 157) (x7).toNatClampNeg), (x6 - ((σ.1 159) (x7).toNatClampNeg)), σ)))))) else (if x7 < 0 ∨ 6000 ≤ (x7).toNatClampNeg then none else (if x7 < 0 ∨ 6000 ≤ (x7).toNatClampNeg then none else (if (((σ.1 158) (x7).toNatClampNeg) + x8) < 0 ∨ 6000 ≤ ((((σ.1 158) (x7).toNatClampNeg) + x8)).toNatClampNeg then none else (if (((x3 + x6) - ((σ.1 159) (x7).toNatClampNeg)) + x8) < 0 ∨ 30000 ≤ ((((x3 + x6) - ((σ.1 159) (x7).toNatClampNeg)) + x8)).toNatClampNeg then none else (some (.inl (x3, x6, x7, (x8 + 1), (jx_l σ 150 ((((x3 + x6) - ((σ.1 159) (x7).toNatClampNeg)) + x8)).toNatClampNeg ((σ.2 160) ((((σ.1 158) (x7).toNatClampNeg) + x8)).toNatClampNeg)))))))))))
theorem x_r_putGot_27_s (d : Nat) (hd : 2 ≤ d) (x3 : Int32) (x6 : Int32) (x7 : Int32) (x8 : Int32) (σ : jx_S) (t : ((Int32 × Int32 × Int32 × Int32 × jx_S) ⊕ ((Int32 × Int64 × Int32 × jx_S) ⊕ jx_S))) (res : Option Value × jx_S) (h : p_r_putGot_27_s x3 x6 x7 x8 σ = some t) (hK : kk_r_putGot_27 d t res) : jE d 218 27 [(0, .ref 106), (3, .int x3), (6, .int x6), (7, .int x7), (8, .int x8)] [] σ res := by
  unfold p_r_putGot_27_s at h
  refine jE_blk (bs := [(.iload 8, 0, 0), (.aload_n 0, 0, 0), (.getfield 173, 12, 73), (.iload 7, 0, 0)]) (i := .iaload) (a1 := 0) (a2 := 0) (pc1 := 35) (l1 := [(0, .ref 106), (3, .int x3), (6, .int x6), (7, .int x7), (8, .int x8)]) (st1 := [.int x7, .ref 159, .int x8]) (σ1 := σ) (by decide +kernel) rfl (fun hC => ?_)
  obtain ⟨hi, h⟩ := jx_ite0_inv h
  refine jE_iald (n := 6000) hC (by decide) rfl hi ?_
  refine jE_blk (bs := []) (i := .if_icmp .ge (44)) (a1 := 0) (a2 := 0) (pc1 := 36) (l1 := [(0, .ref 106), (3, .int x3), (6, .int x6), (7, .int x7), (8, .int x8)]) (st1 := [.int ((σ.1 159) (x7).toNatClampNeg), .int x8]) (σ1 := σ) (by decide +kernel) rfl (fun hC => ?_)
  rcases Classical.em (((σ.1 159) (x7).toNatClampNeg) ≤ x8) with hc | hc
  · rw [if_pos hc] at h
    refine jE_icT 80 hC (by decide) hc ?_
    obtain ⟨t9_3, h9_3, h8_3⟩ := Option.map_eq_some_iff.mp h
    clear h
    subst h8_3
    have h := h9_3
    clear h9_3
    refine jE_blk (bs := [(.iload 6, 0, 0), (.aload_n 0, 0, 0), (.getfield 173, 12, 73), (.iload 7, 0, 0)]) (i := .iaload) (a1 := 0) (a2 := 0) (pc1 := 88) (l1 := [(0, .ref 106), (3, .int x3), (6, .int x6), (7, .int x7), (8, .int x8)]) (st1 := [.int x7, .ref 159, .int x6]) (σ1 := σ) (by decide +kernel) rfl (fun hC => ?_)
    obtain ⟨hi, h⟩ := jx_ite0_inv h
    refine jE_iald (n := 6000) hC (by decide) rfl hi ?_
    refine jE_blk (bs := [(.isub, 0, 0), (.istore 6, 9, 0), (.aload_n 0, 0, 0), (.getfield 167, 12, 71), (.iload 7, 0, 0)]) (i := .laload) (a1 := 0) (a2 := 0) (pc1 := 98) (l1 := [(6, .int (x6 - ((σ.1 159) (x7).toNatClampNeg))), (0, .ref 106), (3, .int x3), (7, .int x7), (8, .int x8)]) (st1 := [.int x7, .ref 157]) (σ1 := σ) (by decide +kernel) rfl (fun hC => ?_)
    obtain ⟨hi, h⟩ := jx_ite0_inv h
    refine jE_lald (n := 6000) hC (by decide) rfl hi ?_
    refine jE_blk (bs := [(.lstore 4, 9, 0), (.goto (-91), 0, 0)]) (i := .lload 4) (a1 := 0) (a2 := 0) (pc1 := 10) (l1 := [(4, .long ((σ.2 157) (x7).toNatClampNeg)), (6, .int (x6 - ((σ.1 159) (x7).toNatClampNeg))), (0, .ref 106), (3, .int x3), (7, .int x7), (8, .int x8)]) (st1 := []) (σ1 := σ) (by decide +kernel) rfl (fun hC => ?_)
    have h9 := Option.some.inj h
    subst h9
    exact jE_loc (l := [(0, .ref 106), (3, .int x3), (4, .long ((σ.2 157) (x7).toNatClampNeg)), (6, .int (x6 - ((σ.1 159) (x7).toNatClampNeg)))]) (ks := [0, 3, 4, 6]) rfl (by decide) ⟨rfl, rfl, rfl, rfl, trivial⟩ hK
  · rw [if_neg hc] at h
    refine jE_icF 80 hC (by decide) hc ?_
    refine jE_blk (bs := [(.aload_n 0, 0, 0), (.getfield 145, 12, 61), (.iload_n 3, 0, 0), (.iload 6, 0, 0), (.iadd, 0, 0), (.aload_n 0, 0, 0), (.getfield 173, 12, 73), (.iload 7, 0, 0)]) (i := .iaload) (a1 := 0) (a2 := 0) (pc1 := 53) (l1 := [(0, .ref 106), (3, .int x3), (6, .int x6), (7, .int x7), (8, .int x8)]) (st1 := [.int x7, .ref 159, .int (x3 + x6), .ref 150]) (σ1 := σ) (by decide +kernel) rfl (fun hC => ?_)
    obtain ⟨hi, h⟩ := jx_ite0_inv h
    refine jE_iald (n := 6000) hC (by decide) rfl hi ?_
    refine jE_blk (bs := [(.isub, 0, 0), (.iload 8, 0, 0), (.iadd, 0, 0), (.aload_n 0, 0, 0), (.getfield 176, 12, 75), (.aload_n 0, 0, 0), (.getfield 170, 12, 72), (.iload 7, 0, 0)]) (i := .iaload) (a1 := 0) (a2 := 0) (pc1 := 68) (l1 := [(0, .ref 106), (3, .int x3), (6, .int x6), (7, .int x7), (8, .int x8)]) (st1 := [.int x7, .ref 158, .ref 160, .int (((x3 + x6) - ((σ.1 159) (x7).toNatClampNeg)) + x8), .ref 150]) (σ1 := σ) (by decide +kernel) rfl (fun hC => ?_)
    obtain ⟨hi, h⟩ := jx_ite0_inv h
    refine jE_iald (n := 6000) hC (by decide) rfl hi ?_
    refine jE_blk (bs := [(.iload 8, 0, 0), (.iadd, 0, 0)]) (i := .laload) (a1 := 0) (a2 := 0) (pc1 := 72) (l1 := [(0, .ref 106), (3, .int x3), (6, .int x6), (7, .int x7), (8, .int x8)]) (st1 := [.int (((σ.1 158) (x7).toNatClampNeg) + x8), .ref 160, .int (((x3 + x6) - ((σ.1 159) (x7).toNatClampNeg)) + x8), .ref 150]) (σ1 := σ) (by decide +kernel) rfl (fun hC => ?_)
    obtain ⟨hi, h⟩ := jx_ite0_inv h
    refine jE_lald (n := 6000) hC (by decide) rfl hi ?_
    refine jE_blk (bs := []) (i := .lastore) (a1 := 0) (a2 := 0) (pc1 := 73) (l1 := [(0, .ref 106), (3, .int x3), (6, .int x6), (7, .int x7), (8, .int x8)]) (st1 := [.long ((σ.2 160) ((((σ.1 158) (x7).toNatClampNeg) + x8)).toNatClampNeg), .int (((x3 + x6) - ((σ.1 159) (x7).toNatClampNeg)) + x8), .ref 150]) (σ1 := σ) (by decide +kernel) rfl (fun hC => ?_)
    obtain ⟨hi, h⟩ := jx_ite0_inv h
    refine jE_last (n := 30000) hC (by decide) rfl hi ?_
    refine jE_blk (bs := [(.iinc 8 (1), 9, 2), (.goto (-50), 0, 0)]) (i := .iload 8) (a1 := 0) (a2 := 0) (pc1 := 27) (l1 := [(8, .int (x8 + 1)), (0, .ref 106), (3, .int x3), (6, .int x6), (7, .int x7)]) (st1 := []) (σ1 := (jx_l σ 150 ((((x3 + x6) - ((σ.1 159) (x7).toNatClampNeg)) + x8)).toNatClampNeg ((σ.2 160) ((((σ.1 158) (x7).toNatClampNeg) + x8)).toNatClampNeg))) (by decide +kernel) rfl (fun hC => ?_)
    have h9 := Option.some.inj h
    subst h9
    exact jE_loc (l := [(0, .ref 106), (3, .int x3), (6, .int x6), (7, .int x7), (8, .int (x8 + 1))]) (ks := [0, 3, 6, 7, 8]) rfl (by decide) ⟨rfl, rfl, rfl, rfl, rfl, trivial⟩ hK
def p_r_putGot_27 (x3 : Int32) (x6 : Int32) (x7 : Int32) (x8 : Int32) (σ : jx_S) : Option ((Int32 × Int64 × Int32 × jx_S) ⊕ jx_S) := jx_loop 100000000 (fun s => p_r_putGot_27_s s.1 s.2.1 s.2.2.1 s.2.2.2.1 (s.2.2.2.2)) (x3, x6, x7, x8, σ)
theorem x_r_putGot_27 (d : Nat) (hd : 2 ≤ d) (x3 : Int32) (x6 : Int32) (x7 : Int32) (x8 : Int32) (σ : jx_S) (t : ((Int32 × Int64 × Int32 × jx_S) ⊕ jx_S)) (res : Option Value × jx_S) (h : p_r_putGot_27 x3 x6 x7 x8 σ = some t) (hK : kk_r_putGot_10 d t res) : jE d 218 27 [(0, .ref 106), (3, .int x3), (6, .int x6), (7, .int x7), (8, .int x8)] [] σ res := by
  refine jx_loop_ok (E := fun s t => ∀ res, kk_r_putGot_10 d t res → jE d 218 27 [(0, .ref 106), (3, .int s.1), (6, .int s.2.1), (7, .int s.2.2.1), (8, .int s.2.2.2.1)] [] s.2.2.2.2 res) (fun s t hs => ?_) _ _ _ h res hK
  cases t with
  | inl s1 => exact fun b hb res hk => x_r_putGot_27_s d hd (s.1) (s.2.1) (s.2.2.1) (s.2.2.2.1) (s.2.2.2.2) _ res hs (hb res hk)
  | inr b => exact fun res hk => x_r_putGot_27_s d hd (s.1) (s.2.1) (s.2.2.1) (s.2.2.2.1) (s.2.2.2.2) _ res hs hk
def p_r_putGot_10_s (x3 : Int32) (x4 : Int64) (x6 : Int32) (σ : jx_S) : Option ((Int32 × Int64 × Int32 × jx_S) ⊕ jx_S) := (if ¬ (v_r_tagOf x4 σ) = (5 : Int32) then (Option.map Sum.inr (some (σ))) else (p_r_putGot_27 x3 x6 (x4).toInt32 (0 : Int32) σ))
theorem x_r_putGot_10_s (d : Nat) (hd : 2 ≤ d) (x3 : Int32) (x4 : Int64) (x6 : Int32) (σ : jx_S) (t : ((Int32 × Int64 × Int32 × jx_S) ⊕ jx_S)) (res : Option Value × jx_S) (h : p_r_putGot_10_s x3 x4 x6 σ = some t) (hK : kk_r_putGot_10 d t res) : jE d 218 10 [(0, .ref 106), (3, .int x3), (4, .long x4), (6, .int x6)] [] σ res := by
  unfold p_r_putGot_10_s at h
  refine jE_blk (bs := [(.lload 4, 0, 0)]) (i := .invokestatic 553) (a1 := 210) (a2 := 0) (pc1 := 12) (l1 := [(0, .ref 106), (3, .int x3), (4, .long x4), (6, .int x6)]) (st1 := [.long x4]) (σ1 := σ) (by decide +kernel) rfl (fun hC => ?_)
  refine jE_call (as := [.long x4]) (pc1 := 15) (st1 := []) hC rfl (by decide) (by omega) (xv_r_tagOf (d - 1) (by omega) x4 σ) ?_
  refine jE_blk (bs := [(.iconst (5), 5, 0)]) (i := .if_icmp .ne (88)) (a1 := 0) (a2 := 0) (pc1 := 16) (l1 := [(0, .ref 106), (3, .int x3), (4, .long x4), (6, .int x6)]) (st1 := [.int (5 : Int32), .int (v_r_tagOf x4 σ)]) (σ1 := σ) (by decide +kernel) rfl (fun hC => ?_)
  rcases Classical.em (¬ (v_r_tagOf x4 σ) = (5 : Int32)) with hc | hc
  · rw [if_pos hc] at h
    refine jE_icT 104 hC (by decide) hc ?_
    obtain ⟨t9_2, h9_2, h8_2⟩ := Option.map_eq_some_iff.mp h
    clear h
    subst h8_2
    have h := h9_2
    clear h9_2
    refine jE_blk (bs := []) (i := .return_) (a1 := 0) (a2 := 0) (pc1 := 104) (l1 := [(0, .ref 106), (3, .int x3), (4, .long x4), (6, .int x6)]) (st1 := []) (σ1 := σ) (by decide +kernel) rfl (fun hC => ?_)
    have h9 := Option.some.inj h
    subst h9
    have e9 : ((none, σ) : Option Value × jx_S) = res := hK
    subst e9
    exact jE_ret hC rfl
  · rw [if_neg hc] at h
    refine jE_icF 104 hC (by decide) hc ?_
    refine jE_blk (bs := [(.lload 4, 0, 0), (.l2i, 0, 0), (.istore 7, 9, 0), (.iconst (0), 0, 0), (.istore 8, 9, 0)]) (i := .iload 8) (a1 := 0) (a2 := 0) (pc1 := 27) (l1 := [(8, .int (0 : Int32)), (7, .int (x4).toInt32), (0, .ref 106), (3, .int x3), (4, .long x4), (6, .int x6)]) (st1 := []) (σ1 := σ) (by decide +kernel) rfl (fun hC => ?_)
    exact jE_loc (l := [(0, .ref 106), (3, .int x3), (6, .int x6), (7, .int (x4).toInt32), (8, .int (0 : Int32))]) (ks := [0, 3, 6, 7, 8]) rfl (by decide) ⟨rfl, rfl, rfl, rfl, rfl, trivial⟩ (x_r_putGot_27 d hd x3 x6 (x4).toInt32 (0 : Int32) σ _ res h hK)
def p_r_putGot_10 (x3 : Int32) (x4 : Int64) (x6 : Int32) (σ : jx_S) : Option jx_S := jx_loop 100000000 (fun s => p_r_putGot_10_s s.1 s.2.1 s.2.2.1 (s.2.2.2)) (x3, x4, x6, σ)
theorem x_r_putGot_10 (d : Nat) (hd : 2 ≤ d) (x3 : Int32) (x4 : Int64) (x6 : Int32) (σ : jx_S) (t : jx_S) (res : Option Value × jx_S) (h : p_r_putGot_10 x3 x4 x6 σ = some t) (hK : kkV t res) : jE d 218 10 [(0, .ref 106), (3, .int x3), (4, .long x4), (6, .int x6)] [] σ res := by
  refine jx_loop_ok (E := fun s t => ∀ res, kkV t res → jE d 218 10 [(0, .ref 106), (3, .int s.1), (4, .long s.2.1), (6, .int s.2.2.1)] [] s.2.2.2 res) (fun s t hs => ?_) _ _ _ h res hK
  cases t with
  | inl s1 => exact fun b hb res hk => x_r_putGot_10_s d hd (s.1) (s.2.1) (s.2.2.1) (s.2.2.2) _ res hs (hb res hk)
  | inr b => exact fun res hk => x_r_putGot_10_s d hd (s.1) (s.2.1) (s.2.2.1) (s.2.2.2) _ res hs hk
def p_r_putGot (x1 : Int64) (x3 : Int32) (σ : jx_S) : Option jx_S := ((p_r_gotBy x1 σ).bind fun q1 => (p_r_putGot_10 x3 x1 q1.1 q1.2))
theorem x_r_putGot (d : Nat) (hd : 2 ≤ d) (x1 : Int64) (x3 : Int32) (σ : jx_S) (t : jx_S) (res : Option Value × jx_S) (h : p_r_putGot x1 x3 σ = some t) (hK : kkV t res) : jE d 218 0 [(0, .ref 106), (1, .long x1), (3, .int x3)] [] σ res := by
  unfold p_r_putGot at h
  refine jE_blk (bs := [(.lload_n 1, 0, 0), (.lstore 4, 9, 0), (.aload_n 0, 0, 0), (.lload_n 1, 0, 0)]) (i := .invokevirtual 557) (a1 := 217) (a2 := 0) (pc1 := 5) (l1 := [(4, .long x1), (0, .ref 106), (1, .long x1), (3, .int x3)]) (st1 := [.long x1, .ref 106]) (σ1 := σ) (by decide +kernel) rfl (fun hC => ?_)
  obtain ⟨q1, hq, h⟩ := Option.bind_eq_some_iff.mp h
  refine jE_call (as := [.ref 106, .long x1]) (pc1 := 8) (st1 := []) hC rfl (by decide) (by omega) (x_r_gotBy (d - 1) (by omega) x1 σ q1 (some (.int q1.1), q1.2) hq rfl) ?_
  refine jE_blk (bs := [(.istore 6, 9, 0)]) (i := .lload 4) (a1 := 0) (a2 := 0) (pc1 := 10) (l1 := [(6, .int q1.1), (4, .long x1), (0, .ref 106), (1, .long x1), (3, .int x3)]) (st1 := []) (σ1 := q1.2) (by decide +kernel) rfl (fun hC => ?_)
  exact jE_loc (l := [(0, .ref 106), (3, .int x3), (4, .long x1), (6, .int q1.1)]) (ks := [0, 3, 4, 6]) rfl (by decide) ⟨rfl, rfl, rfl, rfl, trivial⟩ (x_r_putGot_10 d hd x3 x1 q1.1 q1.2 _ res h hK)
def p_r_workLocal (x1 : Int32) (x2 : Int64) (σ : jx_S) : Option jx_S := (if x1 < 0 ∨ 251 ≤ (x1).toNatClampNeg then none else (if ¬ ((σ.1 163) (x1).toNatClampNeg) = (1 : Int32) then (if (v_r_tagOf x2 σ) = (3 : Int32) then (if (x2).toInt32 < 0 ∨ 3000 ≤ ((x2).toInt32).toNatClampNeg then none else (if ¬ ((σ.1 153) ((x2).toInt32).toNatClampNeg) = (2 : Int32) then (if (x2).toInt32 < 0 ∨ 3000 ≤ ((x2).toInt32).toNatClampNeg then none else (if ¬ ((σ.1 153) ((x2).toInt32).toNatClampNeg) = (1 : Int32) then (if (x2).toInt32 < 0 ∨ 3000 ≤ ((x2).toInt32).toNatClampNeg then none else (if x1 < 0 ∨ 251 ≤ (x1).toNatClampNeg then none else (if (x2).toInt32 < 0 ∨ 3000 ≤ ((x2).toInt32).toNatClampNeg then none else (if (x2).toInt32 < 0 ∨ 3000 ≤ ((x2).toInt32).toNatClampNeg then none else ((p_r_begin ((σ.1 151) ((x2).toInt32).toNatClampNeg) ((σ.1 152) ((x2).toInt32).toNatClampNeg) (x2).toInt32 (jx_i (jx_i σ 153 ((x2).toInt32).toNatClampNeg (1 : Int32)) 163 (x1).toNatClampNeg (1 : Int32))).bind fun q1 => (some (q1))))))) else (some ((jx_i σ 106 87 (2 : Int32)))))) else (if (x2).toInt32 < 0 ∨ 3000 ≤ ((x2).toInt32).toNatClampNeg then none else ((p_r_finish ((σ.2 154) ((x2).toInt32).toNatClampNeg) σ).bind fun q2 => (some (q2)))))) else ((p_r_finish x2 σ).bind fun q3 => (some (q3)))) else ((p_r_finish (σ.2 106 90) σ).bind fun q4 => (some (q4)))))
theorem x_r_workLocal (d : Nat) (hd : 1 ≤ d) (x1 : Int32) (x2 : Int64) (σ : jx_S) (t : jx_S) (res : Option Value × jx_S) (h : p_r_workLocal x1 x2 σ = some t) (hK : kkV t res) : jE d 221 0 [(0, .ref 106), (1, .int x1), (2, .long x2)] [] σ res := by
  unfold p_r_workLocal at h
  refine jE_blk (bs := [(.aload_n 0, 0, 0), (.getfield 185, 12, 79), (.iload_n 1, 0, 0)]) (i := .iaload) (a1 := 0) (a2 := 0) (pc1 := 5) (l1 := [(0, .ref 106), (1, .int x1), (2, .long x2)]) (st1 := [.int x1, .ref 163]) (σ1 := σ) (by decide +kernel) rfl (fun hC => ?_)
  obtain ⟨hi, h⟩ := jx_ite0_inv h
  refine jE_iald (n := 251) hC (by decide) rfl hi ?_
  refine jE_blk (bs := [(.iconst (1), 1, 0)]) (i := .if_icmp .ne (14)) (a1 := 0) (a2 := 0) (pc1 := 7) (l1 := [(0, .ref 106), (1, .int x1), (2, .long x2)]) (st1 := [.int (1 : Int32), .int ((σ.1 163) (x1).toNatClampNeg)]) (σ1 := σ) (by decide +kernel) rfl (fun hC => ?_)
  rcases Classical.em (¬ ((σ.1 163) (x1).toNatClampNeg) = (1 : Int32)) with hc | hc
  · rw [if_pos hc] at h
    refine jE_icT 21 hC (by decide) hc ?_
    refine jE_blk (bs := [(.lload_n 2, 0, 0)]) (i := .invokestatic 553) (a1 := 210) (a2 := 0) (pc1 := 22) (l1 := [(0, .ref 106), (1, .int x1), (2, .long x2)]) (st1 := [.long x2]) (σ1 := σ) (by decide +kernel) rfl (fun hC => ?_)
    refine jE_call (as := [.long x2]) (pc1 := 25) (st1 := []) hC rfl (by decide) (by omega) (xv_r_tagOf (d - 1) (by omega) x2 σ) ?_
    refine jE_blk (bs := [(.iconst (3), 3, 0)]) (i := .if_icmp .eq (11)) (a1 := 0) (a2 := 0) (pc1 := 26) (l1 := [(0, .ref 106), (1, .int x1), (2, .long x2)]) (st1 := [.int (3 : Int32), .int (v_r_tagOf x2 σ)]) (σ1 := σ) (by decide +kernel) rfl (fun hC => ?_)
    rcases Classical.em ((v_r_tagOf x2 σ) = (3 : Int32)) with hc | hc
    · rw [if_pos hc] at h
      refine jE_icT 37 hC (by decide) hc ?_
      refine jE_blk (bs := [(.lload_n 2, 0, 0), (.l2i, 0, 0), (.istore 4, 5, 0), (.aload_n 0, 0, 0), (.getfield 155, 12, 65), (.iload 4, 0, 0)]) (i := .iaload) (a1 := 0) (a2 := 0) (pc1 := 47) (l1 := [(4, .int (x2).toInt32), (0, .ref 106), (1, .int x1), (2, .long x2)]) (st1 := [.int (x2).toInt32, .ref 153]) (σ1 := σ) (by decide +kernel) rfl (fun hC => ?_)
      obtain ⟨hi, h⟩ := jx_ite0_inv h
      refine jE_iald (n := 3000) hC (by decide) rfl hi ?_
      refine jE_blk (bs := [(.iconst (2), 2, 0)]) (i := .if_icmp .ne (17)) (a1 := 0) (a2 := 0) (pc1 := 49) (l1 := [(4, .int (x2).toInt32), (0, .ref 106), (1, .int x1), (2, .long x2)]) (st1 := [.int (2 : Int32), .int ((σ.1 153) ((x2).toInt32).toNatClampNeg)]) (σ1 := σ) (by decide +kernel) rfl (fun hC => ?_)
      rcases Classical.em (¬ ((σ.1 153) ((x2).toInt32).toNatClampNeg) = (2 : Int32)) with hc | hc
      · rw [if_pos hc] at h
        refine jE_icT 66 hC (by decide) hc ?_
        refine jE_blk (bs := [(.aload_n 0, 0, 0), (.getfield 155, 12, 65), (.iload 4, 0, 0)]) (i := .iaload) (a1 := 0) (a2 := 0) (pc1 := 72) (l1 := [(4, .int (x2).toInt32), (0, .ref 106), (1, .int x1), (2, .long x2)]) (st1 := [.int (x2).toInt32, .ref 153]) (σ1 := σ) (by decide +kernel) rfl (fun hC => ?_)
        obtain ⟨hi, h⟩ := jx_ite0_inv h
        refine jE_iald (n := 3000) hC (by decide) rfl hi ?_
        refine jE_blk (bs := [(.iconst (1), 1, 0)]) (i := .if_icmp .ne (11)) (a1 := 0) (a2 := 0) (pc1 := 74) (l1 := [(4, .int (x2).toInt32), (0, .ref 106), (1, .int x1), (2, .long x2)]) (st1 := [.int (1 : Int32), .int ((σ.1 153) ((x2).toInt32).toNatClampNeg)]) (σ1 := σ) (by decide +kernel) rfl (fun hC => ?_)
        rcases Classical.em (¬ ((σ.1 153) ((x2).toInt32).toNatClampNeg) = (1 : Int32)) with hc | hc
        · rw [if_pos hc] at h
          refine jE_icT 85 hC (by decide) hc ?_
          refine jE_blk (bs := [(.aload_n 0, 0, 0), (.getfield 155, 12, 65), (.iload 4, 0, 0), (.iconst (1), 1, 0)]) (i := .iastore) (a1 := 0) (a2 := 0) (pc1 := 92) (l1 := [(4, .int (x2).toInt32), (0, .ref 106), (1, .int x1), (2, .long x2)]) (st1 := [.int (1 : Int32), .int (x2).toInt32, .ref 153]) (σ1 := σ) (by decide +kernel) rfl (fun hC => ?_)
          obtain ⟨hi, h⟩ := jx_ite0_inv h
          refine jE_iast (n := 3000) hC (by decide) rfl hi ?_
          refine jE_blk (bs := [(.aload_n 0, 0, 0), (.getfield 185, 12, 79), (.iload_n 1, 0, 0), (.iconst (1), 1, 0)]) (i := .iastore) (a1 := 0) (a2 := 0) (pc1 := 99) (l1 := [(4, .int (x2).toInt32), (0, .ref 106), (1, .int x1), (2, .long x2)]) (st1 := [.int (1 : Int32), .int x1, .ref 163]) (σ1 := (jx_i σ 153 ((x2).toInt32).toNatClampNeg (1 : Int32))) (by decide +kernel) rfl (fun hC => ?_)
          obtain ⟨hi, h⟩ := jx_ite0_inv h
          refine jE_iast (n := 251) hC (by decide) rfl hi ?_
          refine jE_blk (bs := [(.aload_n 0, 0, 0), (.aload_n 0, 0, 0), (.getfield 149, 12, 63), (.iload 4, 0, 0)]) (i := .iaload) (a1 := 0) (a2 := 0) (pc1 := 107) (l1 := [(4, .int (x2).toInt32), (0, .ref 106), (1, .int x1), (2, .long x2)]) (st1 := [.int (x2).toInt32, .ref 151, .ref 106]) (σ1 := (jx_i (jx_i σ 153 ((x2).toInt32).toNatClampNeg (1 : Int32)) 163 (x1).toNatClampNeg (1 : Int32))) (by decide +kernel) rfl (fun hC => ?_)
          obtain ⟨hi, h⟩ := jx_ite0_inv h
          refine jE_iald (n := 3000) hC (by decide) rfl hi ?_
          refine jE_blk (bs := [(.aload_n 0, 0, 0), (.getfield 152, 12, 64), (.iload 4, 0, 0)]) (i := .iaload) (a1 := 0) (a2 := 0) (pc1 := 114) (l1 := [(4, .int (x2).toInt32), (0, .ref 106), (1, .int x1), (2, .long x2)]) (st1 := [.int (x2).toInt32, .ref 152, .int ((σ.1 151) ((x2).toInt32).toNatClampNeg), .ref 106]) (σ1 := (jx_i (jx_i σ 153 ((x2).toInt32).toNatClampNeg (1 : Int32)) 163 (x1).toNatClampNeg (1 : Int32))) (by decide +kernel) rfl (fun hC => ?_)
          obtain ⟨hi, h⟩ := jx_ite0_inv h
          refine jE_iald (n := 3000) hC (by decide) rfl hi ?_
          refine jE_blk (bs := [(.iload 4, 0, 0)]) (i := .invokevirtual 571) (a1 := 211) (a2 := 0) (pc1 := 117) (l1 := [(4, .int (x2).toInt32), (0, .ref 106), (1, .int x1), (2, .long x2)]) (st1 := [.int (x2).toInt32, .int ((σ.1 152) ((x2).toInt32).toNatClampNeg), .int ((σ.1 151) ((x2).toInt32).toNatClampNeg), .ref 106]) (σ1 := (jx_i (jx_i σ 153 ((x2).toInt32).toNatClampNeg (1 : Int32)) 163 (x1).toNatClampNeg (1 : Int32))) (by decide +kernel) rfl (fun hC => ?_)
          obtain ⟨q1, hq, h⟩ := Option.bind_eq_some_iff.mp h
          refine jE_call (as := [.ref 106, .int ((σ.1 151) ((x2).toInt32).toNatClampNeg), .int ((σ.1 152) ((x2).toInt32).toNatClampNeg), .int (x2).toInt32]) (pc1 := 120) (st1 := []) hC rfl (by decide) (by omega) (x_r_begin (d - 1) (by omega) ((σ.1 151) ((x2).toInt32).toNatClampNeg) ((σ.1 152) ((x2).toInt32).toNatClampNeg) (x2).toInt32 (jx_i (jx_i σ 153 ((x2).toInt32).toNatClampNeg (1 : Int32)) 163 (x1).toNatClampNeg (1 : Int32)) q1 (none, q1) hq rfl) ?_
          refine jE_blk (bs := []) (i := .return_) (a1 := 0) (a2 := 0) (pc1 := 120) (l1 := [(4, .int (x2).toInt32), (0, .ref 106), (1, .int x1), (2, .long x2)]) (st1 := []) (σ1 := q1) (by decide +kernel) rfl (fun hC => ?_)
          have h9 := Option.some.inj h
          subst h9
          have e9 : ((none, q1) : Option Value × jx_S) = res := hK
          subst e9
          exact jE_ret hC rfl
        · rw [if_neg hc] at h
          refine jE_icF 85 hC (by decide) hc ?_
          refine jE_blk (bs := [(.aload_n 0, 0, 0), (.iconst (2), 2, 0), (.putfield 521, 12, 87), (.goto (38), 0, 0)]) (i := .return_) (a1 := 0) (a2 := 0) (pc1 := 120) (l1 := [(4, .int (x2).toInt32), (0, .ref 106), (1, .int x1), (2, .long x2)]) (st1 := []) (σ1 := (jx_i σ 106 87 (2 : Int32))) (by decide +kernel) rfl (fun hC => ?_)
          have h9 := Option.some.inj h
          subst h9
          have e9 : ((none, (jx_i σ 106 87 (2 : Int32))) : Option Value × jx_S) = res := hK
          subst e9
          exact jE_ret hC rfl
      · rw [if_neg hc] at h
        refine jE_icF 66 hC (by decide) hc ?_
        refine jE_blk (bs := [(.aload_n 0, 0, 0), (.aload_n 0, 0, 0), (.getfield 158, 12, 66), (.iload 4, 0, 0)]) (i := .laload) (a1 := 0) (a2 := 0) (pc1 := 59) (l1 := [(4, .int (x2).toInt32), (0, .ref 106), (1, .int x1), (2, .long x2)]) (st1 := [.int (x2).toInt32, .ref 154, .ref 106]) (σ1 := σ) (by decide +kernel) rfl (fun hC => ?_)
        obtain ⟨hi, h⟩ := jx_ite0_inv h
        refine jE_lald (n := 3000) hC (by decide) rfl hi ?_
        refine jE_blk (bs := []) (i := .invokevirtual 564) (a1 := 212) (a2 := 0) (pc1 := 60) (l1 := [(4, .int (x2).toInt32), (0, .ref 106), (1, .int x1), (2, .long x2)]) (st1 := [.long ((σ.2 154) ((x2).toInt32).toNatClampNeg), .ref 106]) (σ1 := σ) (by decide +kernel) rfl (fun hC => ?_)
        obtain ⟨q2, hq, h⟩ := Option.bind_eq_some_iff.mp h
        refine jE_call (as := [.ref 106, .long ((σ.2 154) ((x2).toInt32).toNatClampNeg)]) (pc1 := 63) (st1 := []) hC rfl (by decide) (by omega) (x_r_finish (d - 1) (by omega) ((σ.2 154) ((x2).toInt32).toNatClampNeg) σ q2 (none, q2) hq rfl) ?_
        refine jE_blk (bs := [(.goto (57), 0, 0)]) (i := .return_) (a1 := 0) (a2 := 0) (pc1 := 120) (l1 := [(4, .int (x2).toInt32), (0, .ref 106), (1, .int x1), (2, .long x2)]) (st1 := []) (σ1 := q2) (by decide +kernel) rfl (fun hC => ?_)
        have h9 := Option.some.inj h
        subst h9
        have e9 : ((none, q2) : Option Value × jx_S) = res := hK
        subst e9
        exact jE_ret hC rfl
    · rw [if_neg hc] at h
      refine jE_icF 37 hC (by decide) hc ?_
      refine jE_blk (bs := [(.aload_n 0, 0, 0), (.lload_n 2, 0, 0)]) (i := .invokevirtual 564) (a1 := 212) (a2 := 0) (pc1 := 31) (l1 := [(0, .ref 106), (1, .int x1), (2, .long x2)]) (st1 := [.long x2, .ref 106]) (σ1 := σ) (by decide +kernel) rfl (fun hC => ?_)
      obtain ⟨q3, hq, h⟩ := Option.bind_eq_some_iff.mp h
      refine jE_call (as := [.ref 106, .long x2]) (pc1 := 34) (st1 := []) hC rfl (by decide) (by omega) (x_r_finish (d - 1) (by omega) x2 σ q3 (none, q3) hq rfl) ?_
      refine jE_blk (bs := [(.goto (86), 0, 0)]) (i := .return_) (a1 := 0) (a2 := 0) (pc1 := 120) (l1 := [(0, .ref 106), (1, .int x1), (2, .long x2)]) (st1 := []) (σ1 := q3) (by decide +kernel) rfl (fun hC => ?_)
      have h9 := Option.some.inj h
      subst h9
      have e9 : ((none, q3) : Option Value × jx_S) = res := hK
      subst e9
      exact jE_ret hC rfl
  · rw [if_neg hc] at h
    refine jE_icF 21 hC (by decide) hc ?_
    refine jE_blk (bs := [(.aload_n 0, 0, 0), (.aload_n 0, 0, 0), (.getfield 529, 12, 90)]) (i := .invokevirtual 564) (a1 := 212) (a2 := 0) (pc1 := 15) (l1 := [(0, .ref 106), (1, .int x1), (2, .long x2)]) (st1 := [.long (σ.2 106 90), .ref 106]) (σ1 := σ) (by decide +kernel) rfl (fun hC => ?_)
    obtain ⟨q4, hq, h⟩ := Option.bind_eq_some_iff.mp h
    refine jE_call (as := [.ref 106, .long (σ.2 106 90)]) (pc1 := 18) (st1 := []) hC rfl (by decide) (by omega) (x_r_finish (d - 1) (by omega) (σ.2 106 90) σ q4 (none, q4) hq rfl) ?_
    refine jE_blk (bs := [(.goto (102), 0, 0)]) (i := .return_) (a1 := 0) (a2 := 0) (pc1 := 120) (l1 := [(0, .ref 106), (1, .int x1), (2, .long x2)]) (st1 := []) (σ1 := q4) (by decide +kernel) rfl (fun hC => ?_)
    have h9 := Option.some.inj h
    subst h9
    have e9 : ((none, q4) : Option Value × jx_S) = res := hK
    subst e9
    exact jE_ret hC rfl
def kk_r_call_66 (d : Nat) (t : ((Int64 × Int32 × Int32 × Int32 × Int32 × jx_S) ⊕ jx_S)) (res : Option Value × jx_S) : Prop := match t with
  | .inl s => jE d 220 66 [(0, .ref 106), (1, .long s.1), (3, .int s.2.1), (4, .int s.2.2.1), (5, .int s.2.2.2.1), (6, .int s.2.2.2.2.1)] [] s.2.2.2.2.2 res
  | .inr t => kkV t res
def kk_r_call_122 (d : Nat) (t : ((Int32 × Int32 × Int32 × Int32 × Int32 × jx_S) ⊕ jx_S)) (res : Option Value × jx_S) : Prop := match t with
  | .inl s => jE d 220 122 [(0, .ref 106), (3, .int s.1), (4, .int s.2.1), (5, .int s.2.2.1), (6, .int s.2.2.2.1), (7, .int s.2.2.2.2.1)] [] s.2.2.2.2.2 res
  | .inr t => kkV t res
def p_r_call_122_s (x3 : Int32) (x4 : Int32) (x5 : Int32) (x6 : Int32) (x7 : Int32) (σ : jx_S) : Option ((Int32 × Int32 × Int32 × Int32 × Int32 × jx_S) ⊕ jx_S) := (if x3 ≤ x7 then (Option.map Sum.inr (if x4 < 0 ∨ 40 ≤ (x4).toNatClampNeg then none else ((p_r_begin ((σ.1 131) (x4).toNatClampNeg) x5 (-1 : Int32) σ).bind fun q4 => (some (q4))))) else (if ((σ.1 106 85) + x7) < 0 ∨ 4000 ≤ (((σ.1 106 85) + x7)).toNatClampNeg then none else (if ((x5 + x6) + x7) < 0 ∨ 30000 ≤ (((x5 + x6) + x7)).toNatClampNeg then none else (some (.inl (x3, x4, x5, x6, (x7 + 1), (jx_l σ 150 (((x5 + x6) + x7)).toNatClampNeg ((σ.2 166) (((σ.1 106 85) + x7)).toNatClampNeg))))))))
theorem x_r_call_122_s (d : Nat) (hd : 3 ≤ d) (x3 : Int32) (x4 : Int32) (x5 : Int32) (x6 : Int32) (x7 : Int32) (σ : jx_S) (t : ((Int32 × Int32 × Int32 × Int32 × Int32 × jx_S) ⊕ jx_S)) (res : Option Value × jx_S) (h : p_r_call_122_s x3 x4 x5 x6 x7 σ = some t) (hK : kk_r_call_122 d t res) : jE d 220 122 [(0, .ref 106), (3, .int x3), (4, .int x4), (5, .int x5), (6, .int x6), (7, .int x7)] [] σ res := by
  unfold p_r_call_122_s at h
  refine jE_blk (bs := [(.iload 7, 0, 0), (.iload_n 3, 0, 0)]) (i := .if_icmp .ge (34)) (a1 := 0) (a2 := 0) (pc1 := 125) (l1 := [(0, .ref 106), (3, .int x3), (4, .int x4), (5, .int x5), (6, .int x6), (7, .int x7)]) (st1 := [.int x3, .int x7]) (σ1 := σ) (by decide +kernel) rfl (fun hC => ?_)
  rcases Classical.em (x3 ≤ x7) with hc | hc
  · rw [if_pos hc] at h
    refine jE_icT 159 hC (by decide) hc ?_
    obtain ⟨t9_5, h9_5, h8_5⟩ := Option.map_eq_some_iff.mp h
    clear h
    subst h8_5
    have h := h9_5
    clear h9_5
    refine jE_blk (bs := [(.aload_n 0, 0, 0), (.aload_n 0, 0, 0), (.getfield 87, 12, 31), (.iload 4, 0, 0)]) (i := .iaload) (a1 := 0) (a2 := 0) (pc1 := 166) (l1 := [(0, .ref 106), (3, .int x3), (4, .int x4), (5, .int x5), (6, .int x6), (7, .int x7)]) (st1 := [.int x4, .ref 131, .ref 106]) (σ1 := σ) (by decide +kernel) rfl (fun hC => ?_)
    obtain ⟨hi, h⟩ := jx_ite0_inv h
    refine jE_iald (n := 40) hC (by decide) rfl hi ?_
    refine jE_blk (bs := [(.iload 5, 0, 0), (.iconst (-1), 1, 1)]) (i := .invokevirtual 571) (a1 := 211) (a2 := 0) (pc1 := 170) (l1 := [(0, .ref 106), (3, .int x3), (4, .int x4), (5, .int x5), (6, .int x6), (7, .int x7)]) (st1 := [.int (-1 : Int32), .int x5, .int ((σ.1 131) (x4).toNatClampNeg), .ref 106]) (σ1 := σ) (by decide +kernel) rfl (fun hC => ?_)
    obtain ⟨q4, hq, h⟩ := Option.bind_eq_some_iff.mp h
    refine jE_call (as := [.ref 106, .int ((σ.1 131) (x4).toNatClampNeg), .int x5, .int (-1 : Int32)]) (pc1 := 173) (st1 := []) hC rfl (by decide) (by omega) (x_r_begin (d - 1) (by omega) ((σ.1 131) (x4).toNatClampNeg) x5 (-1 : Int32) σ q4 (none, q4) hq rfl) ?_
    refine jE_blk (bs := []) (i := .return_) (a1 := 0) (a2 := 0) (pc1 := 173) (l1 := [(0, .ref 106), (3, .int x3), (4, .int x4), (5, .int x5), (6, .int x6), (7, .int x7)]) (st1 := []) (σ1 := q4) (by decide +kernel) rfl (fun hC => ?_)
    have h9 := Option.some.inj h
    subst h9
    have e9 : ((none, q4) : Option Value × jx_S) = res := hK
    subst e9
    exact jE_ret hC rfl
  · rw [if_neg hc] at h
    refine jE_icF 159 hC (by decide) hc ?_
    refine jE_blk (bs := [(.aload_n 0, 0, 0), (.getfield 145, 12, 61), (.iload 5, 0, 0), (.iload 6, 0, 0), (.iadd, 0, 0), (.iload 7, 0, 0), (.iadd, 0, 0), (.aload_n 0, 0, 0), (.getfield 194, 12, 84), (.aload_n 0, 0, 0), (.getfield 500, 12, 85), (.iload 7, 0, 0), (.iadd, 0, 0)]) (i := .laload) (a1 := 0) (a2 := 0) (pc1 := 151) (l1 := [(0, .ref 106), (3, .int x3), (4, .int x4), (5, .int x5), (6, .int x6), (7, .int x7)]) (st1 := [.int ((σ.1 106 85) + x7), .ref 166, .int ((x5 + x6) + x7), .ref 150]) (σ1 := σ) (by decide +kernel) rfl (fun hC => ?_)
    obtain ⟨hi, h⟩ := jx_ite0_inv h
    refine jE_lald (n := 4000) hC (by decide) rfl hi ?_
    refine jE_blk (bs := []) (i := .lastore) (a1 := 0) (a2 := 0) (pc1 := 152) (l1 := [(0, .ref 106), (3, .int x3), (4, .int x4), (5, .int x5), (6, .int x6), (7, .int x7)]) (st1 := [.long ((σ.2 166) (((σ.1 106 85) + x7)).toNatClampNeg), .int ((x5 + x6) + x7), .ref 150]) (σ1 := σ) (by decide +kernel) rfl (fun hC => ?_)
    obtain ⟨hi, h⟩ := jx_ite0_inv h
    refine jE_last (n := 30000) hC (by decide) rfl hi ?_
    refine jE_blk (bs := [(.iinc 7 (1), 8, 2), (.goto (-34), 0, 0)]) (i := .iload 7) (a1 := 0) (a2 := 0) (pc1 := 122) (l1 := [(7, .int (x7 + 1)), (0, .ref 106), (3, .int x3), (4, .int x4), (5, .int x5), (6, .int x6)]) (st1 := []) (σ1 := (jx_l σ 150 (((x5 + x6) + x7)).toNatClampNeg ((σ.2 166) (((σ.1 106 85) + x7)).toNatClampNeg))) (by decide +kernel) rfl (fun hC => ?_)
    have h9 := Option.some.inj h
    subst h9
    exact jE_loc (l := [(0, .ref 106), (3, .int x3), (4, .int x4), (5, .int x5), (6, .int x6), (7, .int (x7 + 1))]) (ks := [0, 3, 4, 5, 6, 7]) rfl (by decide) ⟨rfl, rfl, rfl, rfl, rfl, rfl, trivial⟩ hK
def p_r_call_122 (x3 : Int32) (x4 : Int32) (x5 : Int32) (x6 : Int32) (x7 : Int32) (σ : jx_S) : Option jx_S := jx_loop 100000000 (fun s => p_r_call_122_s s.1 s.2.1 s.2.2.1 s.2.2.2.1 s.2.2.2.2.1 (s.2.2.2.2.2)) (x3, x4, x5, x6, x7, σ)
theorem x_r_call_122 (d : Nat) (hd : 3 ≤ d) (x3 : Int32) (x4 : Int32) (x5 : Int32) (x6 : Int32) (x7 : Int32) (σ : jx_S) (t : jx_S) (res : Option Value × jx_S) (h : p_r_call_122 x3 x4 x5 x6 x7 σ = some t) (hK : kkV t res) : jE d 220 122 [(0, .ref 106), (3, .int x3), (4, .int x4), (5, .int x5), (6, .int x6), (7, .int x7)] [] σ res := by
  refine jx_loop_ok (E := fun s t => ∀ res, kkV t res → jE d 220 122 [(0, .ref 106), (3, .int s.1), (4, .int s.2.1), (5, .int s.2.2.1), (6, .int s.2.2.2.1), (7, .int s.2.2.2.2.1)] [] s.2.2.2.2.2 res) (fun s t hs => ?_) _ _ _ h res hK
  cases t with
  | inl s1 => exact fun b hb res hk => x_r_call_122_s d hd (s.1) (s.2.1) (s.2.2.1) (s.2.2.2.1) (s.2.2.2.2.1) (s.2.2.2.2.2) _ res hs (hb res hk)
  | inr b => exact fun res hk => x_r_call_122_s d hd (s.1) (s.2.1) (s.2.2.1) (s.2.2.2.1) (s.2.2.2.2.1) (s.2.2.2.2.2) _ res hs hk
def p_r_call_66_s (x1 : Int64) (x3 : Int32) (x4 : Int32) (x5 : Int32) (x6 : Int32) (σ : jx_S) : Option ((Int64 × Int32 × Int32 × Int32 × Int32 × jx_S) ⊕ jx_S) := (if x4 < 0 ∨ 40 ≤ (x4).toNatClampNeg then none else (if ((σ.1 129) (x4).toNatClampNeg) ≤ x6 then (Option.map Sum.inr ((p_r_putGot x1 x5 σ).bind fun q2 => ((p_r_gotBy x1 q2).bind fun q3 => (p_r_call_122 x3 x4 x5 q3.1 (0 : Int32) (jx_i q3.2 106 85 ((q3.2.1 106 85) - x3)))))) else (if (x5 + x6) < 0 ∨ 30000 ≤ ((x5 + x6)).toNatClampNeg then none else (some (.inl (x1, x3, x4, x5, (x6 + 1), (jx_l σ 150 ((x5 + x6)).toNatClampNeg (0 : Int64))))))))
theorem x_r_call_66_s (d : Nat) (hd : 3 ≤ d) (x1 : Int64) (x3 : Int32) (x4 : Int32) (x5 : Int32) (x6 : Int32) (σ : jx_S) (t : ((Int64 × Int32 × Int32 × Int32 × Int32 × jx_S) ⊕ jx_S)) (res : Option Value × jx_S) (h : p_r_call_66_s x1 x3 x4 x5 x6 σ = some t) (hK : kk_r_call_66 d t res) : jE d 220 66 [(0, .ref 106), (1, .long x1), (3, .int x3), (4, .int x4), (5, .int x5), (6, .int x6)] [] σ res := by
  unfold p_r_call_66_s at h
  refine jE_blk (bs := [(.iload 6, 0, 0), (.aload_n 0, 0, 0), (.getfield 81, 12, 29), (.iload 4, 0, 0)]) (i := .iaload) (a1 := 0) (a2 := 0) (pc1 := 74) (l1 := [(0, .ref 106), (1, .long x1), (3, .int x3), (4, .int x4), (5, .int x5), (6, .int x6)]) (st1 := [.int x4, .ref 129, .int x6]) (σ1 := σ) (by decide +kernel) rfl (fun hC => ?_)
  obtain ⟨hi, h⟩ := jx_ite0_inv h
  refine jE_iald (n := 40) hC (by decide) rfl hi ?_
  refine jE_blk (bs := []) (i := .if_icmp .ge (20)) (a1 := 0) (a2 := 0) (pc1 := 75) (l1 := [(0, .ref 106), (1, .long x1), (3, .int x3), (4, .int x4), (5, .int x5), (6, .int x6)]) (st1 := [.int ((σ.1 129) (x4).toNatClampNeg), .int x6]) (σ1 := σ) (by decide +kernel) rfl (fun hC => ?_)
  rcases Classical.em (((σ.1 129) (x4).toNatClampNeg) ≤ x6) with hc | hc
  · rw [if_pos hc] at h
    refine jE_icT 95 hC (by decide) hc ?_
    obtain ⟨t9_6, h9_6, h8_6⟩ := Option.map_eq_some_iff.mp h
    clear h
    subst h8_6
    have h := h9_6
    clear h9_6
    refine jE_blk (bs := [(.aload_n 0, 0, 0), (.lload_n 1, 0, 0), (.iload 5, 0, 0)]) (i := .invokevirtual 584) (a1 := 218) (a2 := 0) (pc1 := 99) (l1 := [(0, .ref 106), (1, .long x1), (3, .int x3), (4, .int x4), (5, .int x5), (6, .int x6)]) (st1 := [.int x5, .long x1, .ref 106]) (σ1 := σ) (by decide +kernel) rfl (fun hC => ?_)
    obtain ⟨q2, hq, h⟩ := Option.bind_eq_some_iff.mp h
    refine jE_call (as := [.ref 106, .long x1, .int x5]) (pc1 := 102) (st1 := []) hC rfl (by decide) (by omega) (x_r_putGot (d - 1) (by omega) x1 x5 σ q2 (none, q2) hq rfl) ?_
    refine jE_blk (bs := [(.aload_n 0, 0, 0), (.lload_n 1, 0, 0)]) (i := .invokevirtual 557) (a1 := 217) (a2 := 0) (pc1 := 104) (l1 := [(0, .ref 106), (1, .long x1), (3, .int x3), (4, .int x4), (5, .int x5), (6, .int x6)]) (st1 := [.long x1, .ref 106]) (σ1 := q2) (by decide +kernel) rfl (fun hC => ?_)
    obtain ⟨q3, hq, h⟩ := Option.bind_eq_some_iff.mp h
    refine jE_call (as := [.ref 106, .long x1]) (pc1 := 107) (st1 := []) hC rfl (by decide) (by omega) (x_r_gotBy (d - 1) (by omega) x1 q2 q3 (some (.int q3.1), q3.2) hq rfl) ?_
    refine jE_blk (bs := [(.istore 6, 8, 0), (.aload_n 0, 0, 0), (.dup, 0, 0), (.getfield 500, 12, 85), (.iload_n 3, 0, 0), (.isub, 0, 0), (.putfield 500, 12, 85), (.iconst (0), 0, 0), (.istore 7, 8, 0)]) (i := .iload 7) (a1 := 0) (a2 := 0) (pc1 := 122) (l1 := [(7, .int (0 : Int32)), (6, .int q3.1), (0, .ref 106), (1, .long x1), (3, .int x3), (4, .int x4), (5, .int x5)]) (st1 := []) (σ1 := (jx_i q3.2 106 85 ((q3.2.1 106 85) - x3))) (by decide +kernel) rfl (fun hC => ?_)
    exact jE_loc (l := [(0, .ref 106), (3, .int x3), (4, .int x4), (5, .int x5), (6, .int q3.1), (7, .int (0 : Int32))]) (ks := [0, 3, 4, 5, 6, 7]) rfl (by decide) ⟨rfl, rfl, rfl, rfl, rfl, rfl, trivial⟩ (x_r_call_122 d hd x3 x4 x5 q3.1 (0 : Int32) (jx_i q3.2 106 85 ((q3.2.1 106 85) - x3)) _ res h hK)
  · rw [if_neg hc] at h
    refine jE_icF 95 hC (by decide) hc ?_
    refine jE_blk (bs := [(.aload_n 0, 0, 0), (.getfield 145, 12, 61), (.iload 5, 0, 0), (.iload 6, 0, 0), (.iadd, 0, 0), (.lconst 0, 0, 0)]) (i := .lastore) (a1 := 0) (a2 := 0) (pc1 := 88) (l1 := [(0, .ref 106), (1, .long x1), (3, .int x3), (4, .int x4), (5, .int x5), (6, .int x6)]) (st1 := [.long (0 : Int64), .int (x5 + x6), .ref 150]) (σ1 := σ) (by decide +kernel) rfl (fun hC => ?_)
    obtain ⟨hi, h⟩ := jx_ite0_inv h
    refine jE_last (n := 30000) hC (by decide) rfl hi ?_
    refine jE_blk (bs := [(.iinc 6 (1), 8, 2), (.goto (-26), 0, 0)]) (i := .iload 6) (a1 := 0) (a2 := 0) (pc1 := 66) (l1 := [(6, .int (x6 + 1)), (0, .ref 106), (1, .long x1), (3, .int x3), (4, .int x4), (5, .int x5)]) (st1 := []) (σ1 := (jx_l σ 150 ((x5 + x6)).toNatClampNeg (0 : Int64))) (by decide +kernel) rfl (fun hC => ?_)
    have h9 := Option.some.inj h
    subst h9
    exact jE_loc (l := [(0, .ref 106), (1, .long x1), (3, .int x3), (4, .int x4), (5, .int x5), (6, .int (x6 + 1))]) (ks := [0, 1, 3, 4, 5, 6]) rfl (by decide) ⟨rfl, rfl, rfl, rfl, rfl, rfl, trivial⟩ hK
def p_r_call_66 (x1 : Int64) (x3 : Int32) (x4 : Int32) (x5 : Int32) (x6 : Int32) (σ : jx_S) : Option jx_S := jx_loop 100000000 (fun s => p_r_call_66_s s.1 s.2.1 s.2.2.1 s.2.2.2.1 s.2.2.2.2.1 (s.2.2.2.2.2)) (x1, x3, x4, x5, x6, σ)
theorem x_r_call_66 (d : Nat) (hd : 3 ≤ d) (x1 : Int64) (x3 : Int32) (x4 : Int32) (x5 : Int32) (x6 : Int32) (σ : jx_S) (t : jx_S) (res : Option Value × jx_S) (h : p_r_call_66 x1 x3 x4 x5 x6 σ = some t) (hK : kkV t res) : jE d 220 66 [(0, .ref 106), (1, .long x1), (3, .int x3), (4, .int x4), (5, .int x5), (6, .int x6)] [] σ res := by
  refine jx_loop_ok (E := fun s t => ∀ res, kkV t res → jE d 220 66 [(0, .ref 106), (1, .long s.1), (3, .int s.2.1), (4, .int s.2.2.1), (5, .int s.2.2.2.1), (6, .int s.2.2.2.2.1)] [] s.2.2.2.2.2 res) (fun s t hs => ?_) _ _ _ h res hK
  cases t with
  | inl s1 => exact fun b hb res hk => x_r_call_66_s d hd (s.1) (s.2.1) (s.2.2.1) (s.2.2.2.1) (s.2.2.2.2.1) (s.2.2.2.2.2) _ res hs (hb res hk)
  | inr b => exact fun res hk => x_r_call_66_s d hd (s.1) (s.2.1) (s.2.2.1) (s.2.2.2.1) (s.2.2.2.2.1) (s.2.2.2.2.2) _ res hs hk
def p_r_call (x1 : Int64) (x3 : Int32) (σ : jx_S) : Option jx_S := ((p_r_functionOf x1 σ).bind fun q1 => (if q1.1 < 0 ∨ 40 ≤ (q1.1).toNatClampNeg then none else (if ((q1.2.1 106 62) + ((q1.2.1 129) (q1.1).toNatClampNeg)) ≤ (30000 : Int32) then (if q1.1 < 0 ∨ 40 ≤ (q1.1).toNatClampNeg then none else (p_r_call_66 x1 x3 q1.1 (q1.2.1 106 62) (0 : Int32) (jx_i (jx_i q1.2 106 91 ((q1.2.1 106 91) + (1 : Int32))) 106 62 ((q1.2.1 106 62) + ((q1.2.1 129) (q1.1).toNatClampNeg))))) else (some ((jx_i q1.2 106 87 (5 : Int32)))))))
theorem x_r_call (d : Nat) (hd : 3 ≤ d) (x1 : Int64) (x3 : Int32) (σ : jx_S) (t : jx_S) (res : Option Value × jx_S) (h : p_r_call x1 x3 σ = some t) (hK : kkV t res) : jE d 220 0 [(0, .ref 106), (1, .long x1), (3, .int x3)] [] σ res := by
  unfold p_r_call at h
  refine jE_blk (bs := [(.aload_n 0, 0, 0), (.lload_n 1, 0, 0)]) (i := .invokevirtual 581) (a1 := 216) (a2 := 0) (pc1 := 2) (l1 := [(0, .ref 106), (1, .long x1), (3, .int x3)]) (st1 := [.long x1, .ref 106]) (σ1 := σ) (by decide +kernel) rfl (fun hC => ?_)
  obtain ⟨q1, hq, h⟩ := Option.bind_eq_some_iff.mp h
  refine jE_call (as := [.ref 106, .long x1]) (pc1 := 5) (st1 := []) hC rfl (by decide) (by omega) (x_r_functionOf (d - 1) (by omega) x1 σ q1 (some (.int q1.1), q1.2) hq rfl) ?_
  refine jE_blk (bs := [(.istore 4, 8, 0), (.aload_n 0, 0, 0), (.getfield 479, 12, 62), (.aload_n 0, 0, 0), (.getfield 81, 12, 29), (.iload 4, 0, 0)]) (i := .iaload) (a1 := 0) (a2 := 0) (pc1 := 17) (l1 := [(4, .int q1.1), (0, .ref 106), (1, .long x1), (3, .int x3)]) (st1 := [.int q1.1, .ref 129, .int (q1.2.1 106 62)]) (σ1 := q1.2) (by decide +kernel) rfl (fun hC => ?_)
  obtain ⟨hi, h⟩ := jx_ite0_inv h
  refine jE_iald (n := 40) hC (by decide) rfl hi ?_
  refine jE_blk (bs := [(.iadd, 0, 0), (.sipush (30000), 30000, 0)]) (i := .if_icmp .le (9)) (a1 := 0) (a2 := 0) (pc1 := 22) (l1 := [(4, .int q1.1), (0, .ref 106), (1, .long x1), (3, .int x3)]) (st1 := [.int (30000 : Int32), .int ((q1.2.1 106 62) + ((q1.2.1 129) (q1.1).toNatClampNeg))]) (σ1 := q1.2) (by decide +kernel) rfl (fun hC => ?_)
  rcases Classical.em (((q1.2.1 106 62) + ((q1.2.1 129) (q1.1).toNatClampNeg)) ≤ (30000 : Int32)) with hc | hc
  · rw [if_pos hc] at h
    refine jE_icT 31 hC (by decide) hc ?_
    refine jE_blk (bs := [(.aload_n 0, 0, 0), (.dup, 0, 0), (.getfield 506, 12, 91), (.iconst (1), 1, 0), (.iadd, 0, 0), (.putfield 506, 12, 91), (.aload_n 0, 0, 0), (.getfield 479, 12, 62), (.istore 5, 8, 0), (.aload_n 0, 0, 0), (.dup, 0, 0), (.getfield 479, 12, 62), (.aload_n 0, 0, 0), (.getfield 81, 12, 29), (.iload 4, 0, 0)]) (i := .iaload) (a1 := 0) (a2 := 0) (pc1 := 58) (l1 := [(5, .int (q1.2.1 106 62)), (4, .int q1.1), (0, .ref 106), (1, .long x1), (3, .int x3)]) (st1 := [.int q1.1, .ref 129, .int (q1.2.1 106 62), .ref 106]) (σ1 := (jx_i q1.2 106 91 ((q1.2.1 106 91) + (1 : Int32)))) (by decide +kernel) rfl (fun hC => ?_)
    obtain ⟨hi, h⟩ := jx_ite0_inv h
    refine jE_iald (n := 40) hC (by decide) rfl hi ?_
    refine jE_blk (bs := [(.iadd, 0, 0), (.putfield 479, 12, 62), (.iconst (0), 0, 0), (.istore 6, 8, 0)]) (i := .iload 6) (a1 := 0) (a2 := 0) (pc1 := 66) (l1 := [(6, .int (0 : Int32)), (5, .int (q1.2.1 106 62)), (4, .int q1.1), (0, .ref 106), (1, .long x1), (3, .int x3)]) (st1 := []) (σ1 := (jx_i (jx_i q1.2 106 91 ((q1.2.1 106 91) + (1 : Int32))) 106 62 ((q1.2.1 106 62) + ((q1.2.1 129) (q1.1).toNatClampNeg)))) (by decide +kernel) rfl (fun hC => ?_)
    exact jE_loc (l := [(0, .ref 106), (1, .long x1), (3, .int x3), (4, .int q1.1), (5, .int (q1.2.1 106 62)), (6, .int (0 : Int32))]) (ks := [0, 1, 3, 4, 5, 6]) rfl (by decide) ⟨rfl, rfl, rfl, rfl, rfl, rfl, trivial⟩ (x_r_call_66 d hd x1 x3 q1.1 (q1.2.1 106 62) (0 : Int32) (jx_i (jx_i q1.2 106 91 ((q1.2.1 106 91) + (1 : Int32))) 106 62 ((q1.2.1 106 62) + ((q1.2.1 129) (q1.1).toNatClampNeg))) _ res h hK)
  · rw [if_neg hc] at h
    refine jE_icF 31 hC (by decide) hc ?_
    refine jE_blk (bs := [(.aload_n 0, 0, 0), (.iconst (5), 5, 0), (.putfield 521, 12, 87)]) (i := .return_) (a1 := 0) (a2 := 0) (pc1 := 30) (l1 := [(4, .int q1.1), (0, .ref 106), (1, .long x1), (3, .int x3)]) (st1 := []) (σ1 := (jx_i q1.2 106 87 (5 : Int32))) (by decide +kernel) rfl (fun hC => ?_)
    have h9 := Option.some.inj h
    subst h9
    have e9 : ((none, (jx_i q1.2 106 87 (5 : Int32))) : Option Value × jx_S) = res := hK
    subst e9
    exact jE_ret hC rfl
