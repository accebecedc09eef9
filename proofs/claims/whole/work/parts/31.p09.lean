def p_r_stop (x1 : Int32) (x2 : Int32) (σ : jx_S) : Option jx_S := (if x2 < 0 ∨ 1202 ≤ (x2).toNatClampNeg then none else ((p_r_fails x1 ((σ.1 109) (x2).toNatClampNeg) σ).bind fun q1 => (if q1.1 = 0 ∨ q1.1 = 1 then (some ((jx_i q1.2 106 41 q1.1))) else none)))
theorem x_r_stop (d : Nat) (hd : 1 ≤ d) (x1 : Int32) (x2 : Int32) (σ : jx_S) (t : jx_S) (res : Option Value × jx_S) (h : p_r_stop x1 x2 σ = some t) (hK : kkV t res) : jE d 155 0 [(0, .ref 106), (1, .int x1), (2, .int x2)] [] σ res := by
  unfold p_r_stop at h
  refine jE_blk (bs := [(.aload_n 0, 0, 0), (.aload_n 0, 0, 0), (.iload_n 1, 0, 0), (.aload_n 0, 0, 0), (.getfield 20, 12, 7), (.iload_n 2, 0, 0)]) (i := .iaload) (a1 := 0) (a2 := 0) (pc1 := 8) (l1 := [(0, .ref 106), (1, .int x1), (2, .int x2)]) (st1 := [.int x2, .ref 109, .int x1, .ref 106, .ref 106]) (σ1 := σ) (by decide +kernel) rfl (fun hC => ?_)
  obtain ⟨hi, h⟩ := jx_ite0_inv h
  refine jE_iald (n := 1202) hC (by decide) rfl hi ?_
  refine jE_blk (bs := []) (i := .invokevirtual 296) (a1 := 146) (a2 := 0) (pc1 := 9) (l1 := [(0, .ref 106), (1, .int x1), (2, .int x2)]) (st1 := [.int ((σ.1 109) (x2).toNatClampNeg), .int x1, .ref 106, .ref 106]) (σ1 := σ) (by decide +kernel) rfl (fun hC => ?_)
  obtain ⟨q1, hq, h⟩ := Option.bind_eq_some_iff.mp h
  refine jE_call (as := [.ref 106, .int x1, .int ((σ.1 109) (x2).toNatClampNeg)]) (pc1 := 12) (st1 := [.ref 106]) hC rfl (by decide) (by omega) (x_r_fails (d - 1) (by omega) x1 ((σ.1 109) (x2).toNatClampNeg) σ q1 (some (.int q1.1), q1.2) hq rfl) ?_
  refine jE_blk (bs := []) (i := .putfield 300) (a1 := 12) (a2 := 41) (pc1 := 12) (l1 := [(0, .ref 106), (1, .int x1), (2, .int x2)]) (st1 := [.int q1.1, .ref 106]) (σ1 := q1.2) (by decide +kernel) rfl (fun hC => ?_)
  obtain ⟨hb, h⟩ := jx_ite_inv h
  refine jE_putz hC (by decide) rfl rfl hb ?_
  refine jE_blk (bs := []) (i := .return_) (a1 := 0) (a2 := 0) (pc1 := 15) (l1 := [(0, .ref 106), (1, .int x1), (2, .int x2)]) (st1 := []) (σ1 := (jx_i q1.2 106 41 q1.1)) (by decide +kernel) rfl (fun hC => ?_)
  have h9 := Option.some.inj h
  subst h9
  have e9 : ((none, (jx_i q1.2 106 41 q1.1)) : Option Value × jx_S) = res := hK
  subst e9
  exact jE_ret hC rfl
def p_r_expect_29 (σ : jx_S) : Option jx_S := (if (σ.1 106 41) = 0 then (some ((jx_i σ 106 40 ((σ.1 106 40) + (0 : Int32))))) else (some ((jx_i σ 106 40 ((σ.1 106 40) + (1 : Int32))))))
theorem x_r_expect_29 (d : Nat) (hd : 2 ≤ d) (σ : jx_S) (t : jx_S) (res : Option Value × jx_S) (h : p_r_expect_29 σ = some t) (hK : kkV t res) : jE d 156 29 [(0, .ref 106)] [] σ res := by
  unfold p_r_expect_29 at h
  refine jE_blk (bs := [(.aload_n 0, 0, 0), (.dup, 0, 0), (.getfield 303, 12, 40), (.aload_n 0, 0, 0), (.getfield 300, 12, 41)]) (i := .ifCond .eq (7)) (a1 := 0) (a2 := 0) (pc1 := 38) (l1 := [(0, .ref 106)]) (st1 := [.int (σ.1 106 41), .int (σ.1 106 40), .ref 106]) (σ1 := σ) (by decide +kernel) rfl (fun hC => ?_)
  rcases Classical.em ((σ.1 106 41) = 0) with hc | hc
  · rw [if_pos hc] at h
    refine jE_ifT 45 hC (by decide) hc ?_
    refine jE_blk (bs := [(.iconst (0), 0, 0), (.iadd, 0, 0), (.putfield 303, 12, 40)]) (i := .return_) (a1 := 0) (a2 := 0) (pc1 := 50) (l1 := [(0, .ref 106)]) (st1 := []) (σ1 := (jx_i σ 106 40 ((σ.1 106 40) + (0 : Int32)))) (by decide +kernel) rfl (fun hC => ?_)
    have h9 := Option.some.inj h
    subst h9
    have e9 : ((none, (jx_i σ 106 40 ((σ.1 106 40) + (0 : Int32)))) : Option Value × jx_S) = res := hK
    subst e9
    exact jE_ret hC rfl
  · rw [if_neg hc] at h
    refine jE_ifF 45 hC (by decide) hc ?_
    refine jE_blk (bs := [(.iconst (1), 1, 0), (.goto (4), 0, 0), (.iadd, 0, 0), (.putfield 303, 12, 40)]) (i := .return_) (a1 := 0) (a2 := 0) (pc1 := 50) (l1 := [(0, .ref 106)]) (st1 := []) (σ1 := (jx_i σ 106 40 ((σ.1 106 40) + (1 : Int32)))) (by decide +kernel) rfl (fun hC => ?_)
    have h9 := Option.some.inj h
    subst h9
    have e9 : ((none, (jx_i σ 106 40 ((σ.1 106 40) + (1 : Int32)))) : Option Value × jx_S) = res := hK
    subst e9
    exact jE_ret hC rfl
def p_r_expect (x1 : Int32) (σ : jx_S) : Option jx_S := (if (σ.1 106 41) = 0 then (p_r_expect_29 σ) else (if (σ.1 106 40) < 0 ∨ 1202 ≤ ((σ.1 106 40)).toNatClampNeg then none else (if ((σ.1 108) ((σ.1 106 40)).toNatClampNeg) = x1 then (p_r_expect_29 σ) else ((p_r_stop (2 : Int32) (σ.1 106 40) σ).bind fun q1 => (p_r_expect_29 q1)))))
theorem x_r_expect (d : Nat) (hd : 2 ≤ d) (x1 : Int32) (σ : jx_S) (t : jx_S) (res : Option Value × jx_S) (h : p_r_expect x1 σ = some t) (hK : kkV t res) : jE d 156 0 [(0, .ref 106), (1, .int x1)] [] σ res := by
  unfold p_r_expect at h
  refine jE_blk (bs := [(.aload_n 0, 0, 0), (.getfield 300, 12, 41)]) (i := .ifCond .eq (25)) (a1 := 0) (a2 := 0) (pc1 := 4) (l1 := [(0, .ref 106), (1, .int x1)]) (st1 := [.int (σ.1 106 41)]) (σ1 := σ) (by decide +kernel) rfl (fun hC => ?_)
  rcases Classical.em ((σ.1 106 41) = 0) with hc | hc
  · rw [if_pos hc] at h
    refine jE_ifT 29 hC (by decide) hc ?_
    exact jE_loc (l := [(0, .ref 106)]) (ks := [0]) rfl (by decide) ⟨rfl, trivial⟩ (x_r_expect_29 d hd σ _ res h hK)
  · rw [if_neg hc] at h
    refine jE_ifF 29 hC (by decide) hc ?_
    refine jE_blk (bs := [(.aload_n 0, 0, 0), (.getfield 17, 12, 6), (.aload_n 0, 0, 0), (.getfield 303, 12, 40)]) (i := .iaload) (a1 := 0) (a2 := 0) (pc1 := 15) (l1 := [(0, .ref 106), (1, .int x1)]) (st1 := [.int (σ.1 106 40), .ref 108]) (σ1 := σ) (by decide +kernel) rfl (fun hC => ?_)
    obtain ⟨hi, h⟩ := jx_ite0_inv h
    refine jE_iald (n := 1202) hC (by decide) rfl hi ?_
    refine jE_blk (bs := [(.iload_n 1, 0, 0)]) (i := .if_icmp .eq (12)) (a1 := 0) (a2 := 0) (pc1 := 17) (l1 := [(0, .ref 106), (1, .int x1)]) (st1 := [.int x1, .int ((σ.1 108) ((σ.1 106 40)).toNatClampNeg)]) (σ1 := σ) (by decide +kernel) rfl (fun hC => ?_)
    rcases Classical.em (((σ.1 108) ((σ.1 106 40)).toNatClampNeg) = x1) with hc | hc
    · rw [if_pos hc] at h
      refine jE_icT 29 hC (by decide) hc ?_
      exact jE_loc (l := [(0, .ref 106)]) (ks := [0]) rfl (by decide) ⟨rfl, trivial⟩ (x_r_expect_29 d hd σ _ res h hK)
    · rw [if_neg hc] at h
      refine jE_icF 29 hC (by decide) hc ?_
      refine jE_blk (bs := [(.aload_n 0, 0, 0), (.iconst (2), 2, 0), (.aload_n 0, 0, 0), (.getfield 303, 12, 40)]) (i := .invokevirtual 306) (a1 := 155) (a2 := 0) (pc1 := 26) (l1 := [(0, .ref 106), (1, .int x1)]) (st1 := [.int (σ.1 106 40), .int (2 : Int32), .ref 106]) (σ1 := σ) (by decide +kernel) rfl (fun hC => ?_)
      obtain ⟨q1, hq, h⟩ := Option.bind_eq_some_iff.mp h
      refine jE_call (as := [.ref 106, .int (2 : Int32), .int (σ.1 106 40)]) (pc1 := 29) (st1 := []) hC rfl (by decide) (by omega) (x_r_stop (d - 1) (by omega) (2 : Int32) (σ.1 106 40) σ q1 (none, q1) hq rfl) ?_
      exact jE_loc (l := [(0, .ref 106)]) (ks := [0]) rfl (by decide) ⟨rfl, trivial⟩ (x_r_expect_29 d hd q1 _ res h hK)
def p_r_baseType_61 (x1 : Int32) (σ : jx_S) : Option (Int32 × jx_S) := (if (σ.1 106 41) = 0 then (some ((x1, (jx_i σ 106 40 ((σ.1 106 40) + (0 : Int32)))))) else (some ((x1, (jx_i σ 106 40 ((σ.1 106 40) + (1 : Int32)))))))
theorem x_r_baseType_61 (d : Nat) (hd : 2 ≤ d) (x1 : Int32) (σ : jx_S) (t : (Int32 × jx_S)) (res : Option Value × jx_S) (h : p_r_baseType_61 x1 σ = some t) (hK : kkI t res) : jE d 157 61 [(0, .ref 106), (1, .int x1)] [] σ res := by
  unfold p_r_baseType_61 at h
  refine jE_blk (bs := [(.aload_n 0, 0, 0), (.dup, 0, 0), (.getfield 303, 12, 40), (.aload_n 0, 0, 0), (.getfield 300, 12, 41)]) (i := .ifCond .eq (7)) (a1 := 0) (a2 := 0) (pc1 := 70) (l1 := [(0, .ref 106), (1, .int x1)]) (st1 := [.int (σ.1 106 41), .int (σ.1 106 40), .ref 106]) (σ1 := σ) (by decide +kernel) rfl (fun hC => ?_)
  rcases Classical.em ((σ.1 106 41) = 0) with hc | hc
  · rw [if_pos hc] at h
    refine jE_ifT 77 hC (by decide) hc ?_
    refine jE_blk (bs := [(.iconst (0), 0, 0), (.iadd, 0, 0), (.putfield 303, 12, 40), (.iload_n 1, 0, 0)]) (i := .ireturn) (a1 := 0) (a2 := 0) (pc1 := 83) (l1 := [(0, .ref 106), (1, .int x1)]) (st1 := [.int x1]) (σ1 := (jx_i σ 106 40 ((σ.1 106 40) + (0 : Int32)))) (by decide +kernel) rfl (fun hC => ?_)
    have h9 := Option.some.inj h
    subst h9
    have e9 : ((some (.int x1), (jx_i σ 106 40 ((σ.1 106 40) + (0 : Int32)))) : Option Value × jx_S) = res := hK
    subst e9
    exact jE_ret hC rfl
  · rw [if_neg hc] at h
    refine jE_ifF 77 hC (by decide) hc ?_
    refine jE_blk (bs := [(.iconst (1), 1, 0), (.goto (4), 0, 0), (.iadd, 0, 0), (.putfield 303, 12, 40), (.iload_n 1, 0, 0)]) (i := .ireturn) (a1 := 0) (a2 := 0) (pc1 := 83) (l1 := [(0, .ref 106), (1, .int x1)]) (st1 := [.int x1]) (σ1 := (jx_i σ 106 40 ((σ.1 106 40) + (1 : Int32)))) (by decide +kernel) rfl (fun hC => ?_)
    have h9 := Option.some.inj h
    subst h9
    have e9 : ((some (.int x1), (jx_i σ 106 40 ((σ.1 106 40) + (1 : Int32)))) : Option Value × jx_S) = res := hK
    subst e9
    exact jE_ret hC rfl
def p_r_baseType_18 (y0 : Int32) (σ : jx_S) : Option (Int32 × jx_S) := (if (σ.1 106 41) = 0 then (p_r_baseType_61 y0 σ) else (if (σ.1 106 40) < 0 ∨ 1202 ≤ ((σ.1 106 40)).toNatClampNeg then none else (if ((σ.1 108) ((σ.1 106 40)).toNatClampNeg) = (3 : Int32) then (p_r_baseType_61 y0 σ) else (if (σ.1 106 40) < 0 ∨ 1202 ≤ ((σ.1 106 40)).toNatClampNeg then none else (if ((σ.1 108) ((σ.1 106 40)).toNatClampNeg) = (4 : Int32) then (p_r_baseType_61 y0 σ) else ((p_r_stop (2 : Int32) (σ.1 106 40) σ).bind fun q1 => (p_r_baseType_61 y0 q1)))))))
theorem x_r_baseType_18 (d : Nat) (hd : 2 ≤ d) (y0 : Int32) (σ : jx_S) (t : (Int32 × jx_S)) (res : Option Value × jx_S) (h : p_r_baseType_18 y0 σ = some t) (hK : kkI t res) : jE d 157 18 [(0, .ref 106)] [.int y0] σ res := by
  unfold p_r_baseType_18 at h
  refine jE_blk (bs := [(.istore_n 1, 2, 0), (.aload_n 0, 0, 0), (.getfield 300, 12, 41)]) (i := .ifCond .eq (38)) (a1 := 0) (a2 := 0) (pc1 := 23) (l1 := [(1, .int y0), (0, .ref 106)]) (st1 := [.int (σ.1 106 41)]) (σ1 := σ) (by decide +kernel) rfl (fun hC => ?_)
  rcases Classical.em ((σ.1 106 41) = 0) with hc | hc
  · rw [if_pos hc] at h
    refine jE_ifT 61 hC (by decide) hc ?_
    exact jE_loc (l := [(0, .ref 106), (1, .int y0)]) (ks := [0, 1]) rfl (by decide) ⟨rfl, rfl, trivial⟩ (x_r_baseType_61 d hd y0 σ _ res h hK)
  · rw [if_neg hc] at h
    refine jE_ifF 61 hC (by decide) hc ?_
    refine jE_blk (bs := [(.aload_n 0, 0, 0), (.getfield 17, 12, 6), (.aload_n 0, 0, 0), (.getfield 303, 12, 40)]) (i := .iaload) (a1 := 0) (a2 := 0) (pc1 := 34) (l1 := [(1, .int y0), (0, .ref 106)]) (st1 := [.int (σ.1 106 40), .ref 108]) (σ1 := σ) (by decide +kernel) rfl (fun hC => ?_)
    obtain ⟨hi, h⟩ := jx_ite0_inv h
    refine jE_iald (n := 1202) hC (by decide) rfl hi ?_
    refine jE_blk (bs := [(.iconst (3), 3, 0)]) (i := .if_icmp .eq (25)) (a1 := 0) (a2 := 0) (pc1 := 36) (l1 := [(1, .int y0), (0, .ref 106)]) (st1 := [.int (3 : Int32), .int ((σ.1 108) ((σ.1 106 40)).toNatClampNeg)]) (σ1 := σ) (by decide +kernel) rfl (fun hC => ?_)
    rcases Classical.em (((σ.1 108) ((σ.1 106 40)).toNatClampNeg) = (3 : Int32)) with hc | hc
    · rw [if_pos hc] at h
      refine jE_icT 61 hC (by decide) hc ?_
      exact jE_loc (l := [(0, .ref 106), (1, .int y0)]) (ks := [0, 1]) rfl (by decide) ⟨rfl, rfl, trivial⟩ (x_r_baseType_61 d hd y0 σ _ res h hK)
    · rw [if_neg hc] at h
      refine jE_icF 61 hC (by decide) hc ?_
      refine jE_blk (bs := [(.aload_n 0, 0, 0), (.getfield 17, 12, 6), (.aload_n 0, 0, 0), (.getfield 303, 12, 40)]) (i := .iaload) (a1 := 0) (a2 := 0) (pc1 := 47) (l1 := [(1, .int y0), (0, .ref 106)]) (st1 := [.int (σ.1 106 40), .ref 108]) (σ1 := σ) (by decide +kernel) rfl (fun hC => ?_)
      obtain ⟨hi, h⟩ := jx_ite0_inv h
      refine jE_iald (n := 1202) hC (by decide) rfl hi ?_
      refine jE_blk (bs := [(.iconst (4), 4, 0)]) (i := .if_icmp .eq (12)) (a1 := 0) (a2 := 0) (pc1 := 49) (l1 := [(1, .int y0), (0, .ref 106)]) (st1 := [.int (4 : Int32), .int ((σ.1 108) ((σ.1 106 40)).toNatClampNeg)]) (σ1 := σ) (by decide +kernel) rfl (fun hC => ?_)
      rcases Classical.em (((σ.1 108) ((σ.1 106 40)).toNatClampNeg) = (4 : Int32)) with hc | hc
      · rw [if_pos hc] at h
        refine jE_icT 61 hC (by decide) hc ?_
        exact jE_loc (l := [(0, .ref 106), (1, .int y0)]) (ks := [0, 1]) rfl (by decide) ⟨rfl, rfl, trivial⟩ (x_r_baseType_61 d hd y0 σ _ res h hK)
      · rw [if_neg hc] at h
        refine jE_icF 61 hC (by decide) hc ?_
        refine jE_blk (bs := [(.aload_n 0, 0, 0), (.iconst (2), 2, 0), (.aload_n 0, 0, 0), (.getfield 303, 12, 40)]) (i := .invokevirtual 306) (a1 := 155) (a2 := 0) (pc1 := 58) (l1 := [(1, .int y0), (0, .ref 106)]) (st1 := [.int (σ.1 106 40), .int (2 : Int32), .ref 106]) (σ1 := σ) (by decide +kernel) rfl (fun hC => ?_)
        obtain ⟨q1, hq, h⟩ := Option.bind_eq_some_iff.mp h
        refine jE_call (as := [.ref 106, .int (2 : Int32), .int (σ.1 106 40)]) (pc1 := 61) (st1 := []) hC rfl (by decide) (by omega) (x_r_stop (d - 1) (by omega) (2 : Int32) (σ.1 106 40) σ q1 (none, q1) hq rfl) ?_
        exact jE_loc (l := [(0, .ref 106), (1, .int y0)]) (ks := [0, 1]) rfl (by decide) ⟨rfl, rfl, trivial⟩ (x_r_baseType_61 d hd y0 q1 _ res h hK)
def p_r_baseType (σ : jx_S) : Option (Int32 × jx_S) := (if (σ.1 106 40) < 0 ∨ 1202 ≤ ((σ.1 106 40)).toNatClampNeg then none else (if ¬ ((σ.1 108) ((σ.1 106 40)).toNatClampNeg) = (4 : Int32) then (p_r_baseType_18 (0 : Int32) σ) else (p_r_baseType_18 (1 : Int32) σ)))
theorem x_r_baseType (d : Nat) (hd : 2 ≤ d) (σ : jx_S) (t : (Int32 × jx_S)) (res : Option Value × jx_S) (h : p_r_baseType σ = some t) (hK : kkI t res) : jE d 157 0 [(0, .ref 106)] [] σ res := by
  unfold p_r_baseType at h
  refine jE_blk (bs := [(.aload_n 0, 0, 0), (.getfield 17, 12, 6), (.aload_n 0, 0, 0), (.getfield 303, 12, 40)]) (i := .iaload) (a1 := 0) (a2 := 0) (pc1 := 8) (l1 := [(0, .ref 106)]) (st1 := [.int (σ.1 106 40), .ref 108]) (σ1 := σ) (by decide +kernel) rfl (fun hC => ?_)
  obtain ⟨hi, h⟩ := jx_ite0_inv h
  refine jE_iald (n := 1202) hC (by decide) rfl hi ?_
  refine jE_blk (bs := [(.iconst (4), 4, 0)]) (i := .if_icmp .ne (7)) (a1 := 0) (a2 := 0) (pc1 := 10) (l1 := [(0, .ref 106)]) (st1 := [.int (4 : Int32), .int ((σ.1 108) ((σ.1 106 40)).toNatClampNeg)]) (σ1 := σ) (by decide +kernel) rfl (fun hC => ?_)
  rcases Classical.em (¬ ((σ.1 108) ((σ.1 106 40)).toNatClampNeg) = (4 : Int32)) with hc | hc
  · rw [if_pos hc] at h
    refine jE_icT 17 hC (by decide) hc ?_
    refine jE_blk (bs := [(.iconst (0), 0, 0)]) (i := .istore_n 1) (a1 := 2) (a2 := 0) (pc1 := 18) (l1 := [(0, .ref 106)]) (st1 := [.int (0 : Int32)]) (σ1 := σ) (by decide +kernel) rfl (fun hC => ?_)
    exact jE_loc (l := [(0, .ref 106)]) (ks := [0]) rfl (by decide) ⟨rfl, trivial⟩ (x_r_baseType_18 d hd (0 : Int32) σ _ res h hK)
  · rw [if_neg hc] at h
    refine jE_icF 17 hC (by decide) hc ?_
    refine jE_blk (bs := [(.iconst (1), 1, 0), (.goto (4), 0, 0)]) (i := .istore_n 1) (a1 := 2) (a2 := 0) (pc1 := 18) (l1 := [(0, .ref 106)]) (st1 := [.int (1 : Int32)]) (σ1 := σ) (by decide +kernel) rfl (fun hC => ?_)
    exact jE_loc (l := [(0, .ref 106)]) (ks := [0]) rfl (by decide) ⟨rfl, trivial⟩ (x_r_baseType_18 d hd (1 : Int32) σ _ res h hK)
def p_r_typeText (σ : jx_S) : Option (Int32 × jx_S) := ((p_r_baseType σ).bind fun q1 => (if (q1.2.1 106 41) = 0 then (some ((q1.1, q1.2))) else (if (q1.2.1 106 40) < 0 ∨ 1202 ≤ ((q1.2.1 106 40)).toNatClampNeg then none else (if ((q1.2.1 108) ((q1.2.1 106 40)).toNatClampNeg) = (21 : Int32) then ((p_r_baseType (jx_i q1.2 106 40 ((q1.2.1 106 40) + (1 : Int32)))).bind fun q2 => (if (q2.2.1 106 41) = 0 then (some (((((2 : Int32) + ((2 : Int32) * q1.1)) + q2.1), q2.2))) else (if (q2.2.1 106 40) < 0 ∨ 1202 ≤ ((q2.2.1 106 40)).toNatClampNeg then none else (if ((q2.2.1 108) ((q2.2.1 106 40)).toNatClampNeg) = (21 : Int32) then ((p_r_baseType (jx_i q2.2 106 40 ((q2.2.1 106 40) + (1 : Int32)))).bind fun q3 => (some ((((((6 : Int32) + ((4 : Int32) * q1.1)) + ((2 : Int32) * q2.1)) + q3.1), q3.2)))) else (some (((((2 : Int32) + ((2 : Int32) * q1.1)) + q2.1), q2.2))))))) else (some ((q1.1, q1.2)))))))
theorem x_r_typeText (d : Nat) (hd : 3 ≤ d) (σ : jx_S) (t : (Int32 × jx_S)) (res : Option Value × jx_S) (h : p_r_typeText σ = some t) (hK : kkI t res) : jE d 158 0 [(0, .ref 106)] [] σ res := by
  unfold p_r_typeText at h
  refine jE_blk (bs := [(.aload_n 0, 0, 0)]) (i := .invokevirtual 310) (a1 := 157) (a2 := 0) (pc1 := 1) (l1 := [(0, .ref 106)]) (st1 := [.ref 106]) (σ1 := σ) (by decide +kernel) rfl (fun hC => ?_)
  obtain ⟨q1, hq, h⟩ := Option.bind_eq_some_iff.mp h
  refine jE_call (as := [.ref 106]) (pc1 := 4) (st1 := []) hC rfl (by decide) (by omega) (x_r_baseType (d - 1) (by omega) σ q1 (some (.int q1.1), q1.2) hq rfl) ?_
  refine jE_blk (bs := [(.istore_n 1, 3, 0), (.aload_n 0, 0, 0), (.getfield 300, 12, 41)]) (i := .ifCond .eq (17)) (a1 := 0) (a2 := 0) (pc1 := 9) (l1 := [(1, .int q1.1), (0, .ref 106)]) (st1 := [.int (q1.2.1 106 41)]) (σ1 := q1.2) (by decide +kernel) rfl (fun hC => ?_)
  rcases Classical.em ((q1.2.1 106 41) = 0) with hc | hc
  · rw [if_pos hc] at h
    refine jE_ifT 26 hC (by decide) hc ?_
    refine jE_blk (bs := [(.iload_n 1, 0, 0)]) (i := .ireturn) (a1 := 0) (a2 := 0) (pc1 := 27) (l1 := [(1, .int q1.1), (0, .ref 106)]) (st1 := [.int q1.1]) (σ1 := q1.2) (by decide +kernel) rfl (fun hC => ?_)
    have h9 := Option.some.inj h
    subst h9
    have e9 : ((some (.int q1.1), q1.2) : Option Value × jx_S) = res := hK
    subst e9
    exact jE_ret hC rfl
  · rw [if_neg hc] at h
    refine jE_ifF 26 hC (by decide) hc ?_
    refine jE_blk (bs := [(.aload_n 0, 0, 0), (.getfield 17, 12, 6), (.aload_n 0, 0, 0), (.getfield 303, 12, 40)]) (i := .iaload) (a1 := 0) (a2 := 0) (pc1 := 20) (l1 := [(1, .int q1.1), (0, .ref 106)]) (st1 := [.int (q1.2.1 106 40), .ref 108]) (σ1 := q1.2) (by decide +kernel) rfl (fun hC => ?_)
    obtain ⟨hi, h⟩ := jx_ite0_inv h
    refine jE_iald (n := 1202) hC (by decide) rfl hi ?_
    refine jE_blk (bs := [(.bipush (21), 21, 0)]) (i := .if_icmp .eq (5)) (a1 := 0) (a2 := 0) (pc1 := 23) (l1 := [(1, .int q1.1), (0, .ref 106)]) (st1 := [.int (21 : Int32), .int ((q1.2.1 108) ((q1.2.1 106 40)).toNatClampNeg)]) (σ1 := q1.2) (by decide +kernel) rfl (fun hC => ?_)
    rcases Classical.em (((q1.2.1 108) ((q1.2.1 106 40)).toNatClampNeg) = (21 : Int32)) with hc | hc
    · rw [if_pos hc] at h
      refine jE_icT 28 hC (by decide) hc ?_
      refine jE_blk (bs := [(.aload_n 0, 0, 0), (.dup, 0, 0), (.getfield 303, 12, 40), (.iconst (1), 1, 0), (.iadd, 0, 0), (.putfield 303, 12, 40), (.aload_n 0, 0, 0)]) (i := .invokevirtual 310) (a1 := 157) (a2 := 0) (pc1 := 39) (l1 := [(1, .int q1.1), (0, .ref 106)]) (st1 := [.ref 106]) (σ1 := (jx_i q1.2 106 40 ((q1.2.1 106 40) + (1 : Int32)))) (by decide +kernel) rfl (fun hC => ?_)
      obtain ⟨q2, hq, h⟩ := Option.bind_eq_some_iff.mp h
      refine jE_call (as := [.ref 106]) (pc1 := 42) (st1 := []) hC rfl (by decide) (by omega) (x_r_baseType (d - 1) (by omega) (jx_i q1.2 106 40 ((q1.2.1 106 40) + (1 : Int32))) q2 (some (.int q2.1), q2.2) hq rfl) ?_
      refine jE_blk (bs := [(.istore_n 2, 3, 0), (.aload_n 0, 0, 0), (.getfield 300, 12, 41)]) (i := .ifCond .eq (17)) (a1 := 0) (a2 := 0) (pc1 := 47) (l1 := [(2, .int q2.1), (1, .int q1.1), (0, .ref 106)]) (st1 := [.int (q2.2.1 106 41)]) (σ1 := q2.2) (by decide +kernel) rfl (fun hC => ?_)
      rcases Classical.em ((q2.2.1 106 41) = 0) with hc | hc
      · rw [if_pos hc] at h
        refine jE_ifT 64 hC (by decide) hc ?_
        refine jE_blk (bs := [(.iconst (2), 2, 0), (.iconst (2), 2, 0), (.iload_n 1, 0, 0), (.imul, 0, 0), (.iadd, 0, 0), (.iload_n 2, 0, 0), (.iadd, 0, 0)]) (i := .ireturn) (a1 := 0) (a2 := 0) (pc1 := 71) (l1 := [(2, .int q2.1), (1, .int q1.1), (0, .ref 106)]) (st1 := [.int (((2 : Int32) + ((2 : Int32) * q1.1)) + q2.1)]) (σ1 := q2.2) (by decide +kernel) rfl (fun hC => ?_)
        have h9 := Option.some.inj h
        subst h9
        have e9 : ((some (.int (((2 : Int32) + ((2 : Int32) * q1.1)) + q2.1)), q2.2) : Option Value × jx_S) = res := hK
        subst e9
        exact jE_ret hC rfl
      · rw [if_neg hc] at h
        refine jE_ifF 64 hC (by decide) hc ?_
        refine jE_blk (bs := [(.aload_n 0, 0, 0), (.getfield 17, 12, 6), (.aload_n 0, 0, 0), (.getfield 303, 12, 40)]) (i := .iaload) (a1 := 0) (a2 := 0) (pc1 := 58) (l1 := [(2, .int q2.1), (1, .int q1.1), (0, .ref 106)]) (st1 := [.int (q2.2.1 106 40), .ref 108]) (σ1 := q2.2) (by decide +kernel) rfl (fun hC => ?_)
        obtain ⟨hi, h⟩ := jx_ite0_inv h
        refine jE_iald (n := 1202) hC (by decide) rfl hi ?_
        refine jE_blk (bs := [(.bipush (21), 21, 0)]) (i := .if_icmp .eq (11)) (a1 := 0) (a2 := 0) (pc1 := 61) (l1 := [(2, .int q2.1), (1, .int q1.1), (0, .ref 106)]) (st1 := [.int (21 : Int32), .int ((q2.2.1 108) ((q2.2.1 106 40)).toNatClampNeg)]) (σ1 := q2.2) (by decide +kernel) rfl (fun hC => ?_)
        rcases Classical.em (((q2.2.1 108) ((q2.2.1 106 40)).toNatClampNeg) = (21 : Int32)) with hc | hc
        · rw [if_pos hc] at h
          refine jE_icT 72 hC (by decide) hc ?_
          refine jE_blk (bs := [(.aload_n 0, 0, 0), (.dup, 0, 0), (.getfield 303, 12, 40), (.iconst (1), 1, 0), (.iadd, 0, 0), (.putfield 303, 12, 40), (.bipush (6), 6, 0), (.iconst (4), 4, 0), (.iload_n 1, 0, 0), (.imul, 0, 0), (.iadd, 0, 0), (.iconst (2), 2, 0), (.iload_n 2, 0, 0), (.imul, 0, 0), (.iadd, 0, 0), (.aload_n 0, 0, 0)]) (i := .invokevirtual 310) (a1 := 157) (a2 := 0) (pc1 := 93) (l1 := [(2, .int q2.1), (1, .int q1.1), (0, .ref 106)]) (st1 := [.ref 106, .int (((6 : Int32) + ((4 : Int32) * q1.1)) + ((2 : Int32) * q2.1))]) (σ1 := (jx_i q2.2 106 40 ((q2.2.1 106 40) + (1 : Int32)))) (by decide +kernel) rfl (fun hC => ?_)
          obtain ⟨q3, hq, h⟩ := Option.bind_eq_some_iff.mp h
          refine jE_call (as := [.ref 106]) (pc1 := 96) (st1 := [.int (((6 : Int32) + ((4 : Int32) * q1.1)) + ((2 : Int32) * q2.1))]) hC rfl (by decide) (by omega) (x_r_baseType (d - 1) (by omega) (jx_i q2.2 106 40 ((q2.2.1 106 40) + (1 : Int32))) q3 (some (.int q3.1), q3.2) hq rfl) ?_
          refine jE_blk (bs := [(.iadd, 0, 0)]) (i := .ireturn) (a1 := 0) (a2 := 0) (pc1 := 97) (l1 := [(2, .int q2.1), (1, .int q1.1), (0, .ref 106)]) (st1 := [.int ((((6 : Int32) + ((4 : Int32) * q1.1)) + ((2 : Int32) * q2.1)) + q3.1)]) (σ1 := q3.2) (by decide +kernel) rfl (fun hC => ?_)
          have h9 := Option.some.inj h
          subst h9
          have e9 : ((some (.int ((((6 : Int32) + ((4 : Int32) * q1.1)) + ((2 : Int32) * q2.1)) + q3.1)), q3.2) : Option Value × jx_S) = res := hK
          subst e9
          exact jE_ret hC rfl
        · rw [if_neg hc] at h
          refine jE_icF 72 hC (by decide) hc ?_
          refine jE_blk (bs := [(.iconst (2), 2, 0), (.iconst (2), 2, 0), (.iload_n 1, 0, 0), (.imul, 0, 0), (.iadd, 0, 0), (.iload_n 2, 0, 0), (.iadd, 0, 0)]) (i := .ireturn) (a1 := 0) (a2 := 0) (pc1 := 71) (l1 := [(2, .int q2.1), (1, .int q1.1), (0, .ref 106)]) (st1 := [.int (((2 : Int32) + ((2 : Int32) * q1.1)) + q2.1)]) (σ1 := q2.2) (by decide +kernel) rfl (fun hC => ?_)
          have h9 := Option.some.inj h
          subst h9
          have e9 : ((some (.int (((2 : Int32) + ((2 : Int32) * q1.1)) + q2.1)), q2.2) : Option Value × jx_S) = res := hK
          subst e9
          exact jE_ret hC rfl
    · rw [if_neg hc] at h
      refine jE_icF 28 hC (by decide) hc ?_
      refine jE_blk (bs := [(.iload_n 1, 0, 0)]) (i := .ireturn) (a1 := 0) (a2 := 0) (pc1 := 27) (l1 := [(1, .int q1.1), (0, .ref 106)]) (st1 := [.int q1.1]) (σ1 := q1.2) (by decide +kernel) rfl (fun hC => ?_)
      have h9 := Option.some.inj h
      subst h9
      have e9 : ((some (.int q1.1), q1.2) : Option Value × jx_S) = res := hK
      subst e9
      exact jE_ret hC rfl
def p_r_declare_54 (x1 : Int32) (σ : jx_S) : Option (Int32 × jx_S) := (if (σ.1 106 41) = 0 then (some ((((σ.1 106 49) - (1 : Int32)), σ))) else (if (((30 : Int32) * (σ.1 106 38)) + (σ.1 106 49)) < 0 ∨ 1200 ≤ ((((30 : Int32) * (σ.1 106 38)) + (σ.1 106 49))).toNatClampNeg then none else (some (((((σ.1 106 49) + (1 : Int32)) - (1 : Int32)), (jx_i (jx_i (jx_i σ 137 ((((30 : Int32) * (σ.1 106 38)) + (σ.1 106 49))).toNatClampNeg x1) 106 49 ((σ.1 106 49) + (1 : Int32))) 106 40 ((σ.1 106 40) + (1 : Int32))))))))
theorem x_r_declare_54 (d : Nat) (hd : 2 ≤ d) (x1 : Int32) (σ : jx_S) (t : (Int32 × jx_S)) (res : Option Value × jx_S) (h : p_r_declare_54 x1 σ = some t) (hK : kkI t res) : jE d 159 54 [(0, .ref 106), (1, .int x1)] [] σ res := by
  unfold p_r_declare_54 at h
  refine jE_blk (bs := [(.aload_n 0, 0, 0), (.getfield 300, 12, 41)]) (i := .ifCond .eq (41)) (a1 := 0) (a2 := 0) (pc1 := 58) (l1 := [(0, .ref 106), (1, .int x1)]) (st1 := [.int (σ.1 106 41)]) (σ1 := σ) (by decide +kernel) rfl (fun hC => ?_)
  rcases Classical.em ((σ.1 106 41) = 0) with hc | hc
  · rw [if_pos hc] at h
    refine jE_ifT 99 hC (by decide) hc ?_
    refine jE_blk (bs := [(.aload_n 0, 0, 0), (.getfield 314, 12, 49), (.iconst (1), 1, 0), (.isub, 0, 0)]) (i := .ireturn) (a1 := 0) (a2 := 0) (pc1 := 105) (l1 := [(0, .ref 106), (1, .int x1)]) (st1 := [.int ((σ.1 106 49) - (1 : Int32))]) (σ1 := σ) (by decide +kernel) rfl (fun hC => ?_)
    have h9 := Option.some.inj h
    subst h9
    have e9 : ((some (.int ((σ.1 106 49) - (1 : Int32))), σ) : Option Value × jx_S) = res := hK
    subst e9
    exact jE_ret hC rfl
  · rw [if_neg hc] at h
    refine jE_ifF 99 hC (by decide) hc ?_
    refine jE_blk (bs := [(.aload_n 0, 0, 0), (.getfield 105, 12, 37), (.bipush (30), 30, 0), (.aload_n 0, 0, 0), (.getfield 219, 12, 38), (.imul, 0, 0), (.aload_n 0, 0, 0), (.getfield 314, 12, 49), (.iadd, 0, 0), (.iload_n 1, 0, 0)]) (i := .iastore) (a1 := 0) (a2 := 0) (pc1 := 78) (l1 := [(0, .ref 106), (1, .int x1)]) (st1 := [.int x1, .int (((30 : Int32) * (σ.1 106 38)) + (σ.1 106 49)), .ref 137]) (σ1 := σ) (by decide +kernel) rfl (fun hC => ?_)
    obtain ⟨hi, h⟩ := jx_ite0_inv h
    refine jE_iast (n := 1200) hC (by decide) rfl hi ?_
    refine jE_blk (bs := [(.aload_n 0, 0, 0), (.dup, 0, 0), (.getfield 314, 12, 49), (.iconst (1), 1, 0), (.iadd, 0, 0), (.putfield 314, 12, 49), (.aload_n 0, 0, 0), (.dup, 0, 0), (.getfield 303, 12, 40), (.iconst (1), 1, 0), (.iadd, 0, 0), (.putfield 303, 12, 40), (.aload_n 0, 0, 0), (.getfield 314, 12, 49), (.iconst (1), 1, 0), (.isub, 0, 0)]) (i := .ireturn) (a1 := 0) (a2 := 0) (pc1 := 105) (l1 := [(0, .ref 106), (1, .int x1)]) (st1 := [.int (((σ.1 106 49) + (1 : Int32)) - (1 : Int32))]) (σ1 := (jx_i (jx_i (jx_i σ 137 ((((30 : Int32) * (σ.1 106 38)) + (σ.1 106 49))).toNatClampNeg x1) 106 49 ((σ.1 106 49) + (1 : Int32))) 106 40 ((σ.1 106 40) + (1 : Int32)))) (by decide +kernel) rfl (fun hC => ?_)
    have h9 := Option.some.inj h
    subst h9
    have e9 : ((some (.int (((σ.1 106 49) + (1 : Int32)) - (1 : Int32))), (jx_i (jx_i (jx_i σ 137 ((((30 : Int32) * (σ.1 106 38)) + (σ.1 106 49))).toNatClampNeg x1) 106 49 ((σ.1 106 49) + (1 : Int32))) 106 40 ((σ.1 106 40) + (1 : Int32)))) : Option Value × jx_S) = res := hK
    subst e9
    exact jE_ret hC rfl
def p_r_declare_29 (x1 : Int32) (σ : jx_S) : Option (Int32 × jx_S) := (if (σ.1 106 41) = 0 then (p_r_declare_54 x1 σ) else (if ¬ (σ.1 106 49) = (30 : Int32) then (p_r_declare_54 x1 σ) else ((p_r_stop (4 : Int32) (σ.1 106 40) σ).bind fun q1 => (p_r_declare_54 x1 q1))))
theorem x_r_declare_29 (d : Nat) (hd : 2 ≤ d) (x1 : Int32) (σ : jx_S) (t : (Int32 × jx_S)) (res : Option Value × jx_S) (h : p_r_declare_29 x1 σ = some t) (hK : kkI t res) : jE d 159 29 [(0, .ref 106), (1, .int x1)] [] σ res := by
  unfold p_r_declare_29 at h
  refine jE_blk (bs := [(.aload_n 0, 0, 0), (.getfield 300, 12, 41)]) (i := .ifCond .eq (21)) (a1 := 0) (a2 := 0) (pc1 := 33) (l1 := [(0, .ref 106), (1, .int x1)]) (st1 := [.int (σ.1 106 41)]) (σ1 := σ) (by decide +kernel) rfl (fun hC => ?_)
  rcases Classical.em ((σ.1 106 41) = 0) with hc | hc
  · rw [if_pos hc] at h
    refine jE_ifT 54 hC (by decide) hc ?_
    exact jE_loc (l := [(0, .ref 106), (1, .int x1)]) (ks := [0, 1]) rfl (by decide) ⟨rfl, rfl, trivial⟩ (x_r_declare_54 d hd x1 σ _ res h hK)
  · rw [if_neg hc] at h
    refine jE_ifF 54 hC (by decide) hc ?_
    refine jE_blk (bs := [(.aload_n 0, 0, 0), (.getfield 314, 12, 49), (.bipush (30), 30, 0)]) (i := .if_icmp .ne (12)) (a1 := 0) (a2 := 0) (pc1 := 42) (l1 := [(0, .ref 106), (1, .int x1)]) (st1 := [.int (30 : Int32), .int (σ.1 106 49)]) (σ1 := σ) (by decide +kernel) rfl (fun hC => ?_)
    rcases Classical.em (¬ (σ.1 106 49) = (30 : Int32)) with hc | hc
    · rw [if_pos hc] at h
      refine jE_icT 54 hC (by decide) hc ?_
      exact jE_loc (l := [(0, .ref 106), (1, .int x1)]) (ks := [0, 1]) rfl (by decide) ⟨rfl, rfl, trivial⟩ (x_r_declare_54 d hd x1 σ _ res h hK)
    · rw [if_neg hc] at h
      refine jE_icF 54 hC (by decide) hc ?_
      refine jE_blk (bs := [(.aload_n 0, 0, 0), (.iconst (4), 4, 0), (.aload_n 0, 0, 0), (.getfield 303, 12, 40)]) (i := .invokevirtual 306) (a1 := 155) (a2 := 0) (pc1 := 51) (l1 := [(0, .ref 106), (1, .int x1)]) (st1 := [.int (σ.1 106 40), .int (4 : Int32), .ref 106]) (σ1 := σ) (by decide +kernel) rfl (fun hC => ?_)
      obtain ⟨q1, hq, h⟩ := Option.bind_eq_some_iff.mp h
      refine jE_call (as := [.ref 106, .int (4 : Int32), .int (σ.1 106 40)]) (pc1 := 54) (st1 := []) hC rfl (by decide) (by omega) (x_r_stop (d - 1) (by omega) (4 : Int32) (σ.1 106 40) σ q1 (none, q1) hq rfl) ?_
      exact jE_loc (l := [(0, .ref 106), (1, .int x1)]) (ks := [0, 1]) rfl (by decide) ⟨rfl, rfl, trivial⟩ (x_r_declare_54 d hd x1 q1 _ res h hK)
def p_r_declare (x1 : Int32) (σ : jx_S) : Option (Int32 × jx_S) := (if (σ.1 106 41) = 0 then (p_r_declare_29 x1 σ) else (if (σ.1 106 40) < 0 ∨ 1202 ≤ ((σ.1 106 40)).toNatClampNeg then none else (if ((σ.1 108) ((σ.1 106 40)).toNatClampNeg) = (1 : Int32) then (p_r_declare_29 x1 σ) else ((p_r_stop (2 : Int32) (σ.1 106 40) σ).bind fun q2 => (p_r_declare_29 x1 q2)))))
theorem x_r_declare (d : Nat) (hd : 2 ≤ d) (x1 : Int32) (σ : jx_S) (t : (Int32 × jx_S)) (res : Option Value × jx_S) (h : p_r_declare x1 σ = some t) (hK : kkI t res) : jE d 159 0 [(0, .ref 106), (1, .int x1)] [] σ res := by
  unfold p_r_declare at h
  refine jE_blk (bs := [(.aload_n 0, 0, 0), (.getfield 300, 12, 41)]) (i := .ifCond .eq (25)) (a1 := 0) (a2 := 0) (pc1 := 4) (l1 := [(0, .ref 106), (1, .int x1)]) (st1 := [.int (σ.1 106 41)]) (σ1 := σ) (by decide +kernel) rfl (fun hC => ?_)
  rcases Classical.em ((σ.1 106 41) = 0) with hc | hc
  · rw [if_pos hc] at h
    refine jE_ifT 29 hC (by decide) hc ?_
    exact jE_loc (l := [(0, .ref 106), (1, .int x1)]) (ks := [0, 1]) rfl (by decide) ⟨rfl, rfl, trivial⟩ (x_r_declare_29 d hd x1 σ _ res h hK)
  · rw [if_neg hc] at h
    refine jE_ifF 29 hC (by decide) hc ?_
    refine jE_blk (bs := [(.aload_n 0, 0, 0), (.getfield 17, 12, 6), (.aload_n 0, 0, 0), (.getfield 303, 12, 40)]) (i := .iaload) (a1 := 0) (a2 := 0) (pc1 := 15) (l1 := [(0, .ref 106), (1, .int x1)]) (st1 := [.int (σ.1 106 40), .ref 108]) (σ1 := σ) (by decide +kernel) rfl (fun hC => ?_)
    obtain ⟨hi, h⟩ := jx_ite0_inv h
    refine jE_iald (n := 1202) hC (by decide) rfl hi ?_
    refine jE_blk (bs := [(.iconst (1), 1, 0)]) (i := .if_icmp .eq (12)) (a1 := 0) (a2 := 0) (pc1 := 17) (l1 := [(0, .ref 106), (1, .int x1)]) (st1 := [.int (1 : Int32), .int ((σ.1 108) ((σ.1 106 40)).toNatClampNeg)]) (σ1 := σ) (by decide +kernel) rfl (fun hC => ?_)
    rcases Classical.em (((σ.1 108) ((σ.1 106 40)).toNatClampNeg) = (1 : Int32)) with hc | hc
    · rw [if_pos hc] at h
      refine jE_icT 29 hC (by decide) hc ?_
      exact jE_loc (l := [(0, .ref 106), (1, .int x1)]) (ks := [0, 1]) rfl (by decide) ⟨rfl, rfl, trivial⟩ (x_r_declare_29 d hd x1 σ _ res h hK)
    · rw [if_neg hc] at h
      refine jE_icF 29 hC (by decide) hc ?_
      refine jE_blk (bs := [(.aload_n 0, 0, 0), (.iconst (2), 2, 0), (.aload_n 0, 0, 0), (.getfield 303, 12, 40)]) (i := .invokevirtual 306) (a1 := 155) (a2 := 0) (pc1 := 26) (l1 := [(0, .ref 106), (1, .int x1)]) (st1 := [.int (σ.1 106 40), .int (2 : Int32), .ref 106]) (σ1 := σ) (by decide +kernel) rfl (fun hC => ?_)
      obtain ⟨q2, hq, h⟩ := Option.bind_eq_some_iff.mp h
      refine jE_call (as := [.ref 106, .int (2 : Int32), .int (σ.1 106 40)]) (pc1 := 29) (st1 := []) hC rfl (by decide) (by omega) (x_r_stop (d - 1) (by omega) (2 : Int32) (σ.1 106 40) σ q2 (none, q2) hq rfl) ?_
      exact jE_loc (l := [(0, .ref 106), (1, .int x1)]) (ks := [0, 1]) rfl (by decide) ⟨rfl, rfl, trivial⟩ (x_r_declare_29 d hd x1 q2 _ res h hK)
def p_r_enter (x1 : Int32) (x2 : Int32) (σ : jx_S) : Option jx_S := (if (σ.1 106 52) < 0 ∨ 64 ≤ ((σ.1 106 52)).toNatClampNeg then none else (if (σ.1 106 52) < 0 ∨ 64 ≤ ((σ.1 106 52)).toNatClampNeg then none else (some ((jx_i (jx_i (jx_i σ 142 ((σ.1 106 52)).toNatClampNeg x1) 143 ((σ.1 106 52)).toNatClampNeg x2) 106 52 ((σ.1 106 52) + (1 : Int32)))))))
theorem x_r_enter (d : Nat) (hd : 0 ≤ d) (x1 : Int32) (x2 : Int32) (σ : jx_S) (t : jx_S) (res : Option Value × jx_S) (h : p_r_enter x1 x2 σ = some t) (hK : kkV t res) : jE d 160 0 [(0, .ref 106), (1, .int x1), (2, .int x2)] [] σ res := by
  unfold p_r_enter at h
  refine jE_blk (bs := [(.aload_n 0, 0, 0), (.getfield 120, 12, 50), (.aload_n 0, 0, 0), (.getfield 317, 12, 52), (.iload_n 1, 0, 0)]) (i := .iastore) (a1 := 0) (a2 := 0) (pc1 := 9) (l1 := [(0, .ref 106), (1, .int x1), (2, .int x2)]) (st1 := [.int x1, .int (σ.1 106 52), .ref 142]) (σ1 := σ) (by decide +kernel) rfl (fun hC => ?_)
  obtain ⟨hi, h⟩ := jx_ite0_inv h
  refine jE_iast (n := 64) hC (by decide) rfl hi ?_
  refine jE_blk (bs := [(.aload_n 0, 0, 0), (.getfield 123, 12, 51), (.aload_n 0, 0, 0), (.getfield 317, 12, 52), (.iload_n 2, 0, 0)]) (i := .iastore) (a1 := 0) (a2 := 0) (pc1 := 19) (l1 := [(0, .ref 106), (1, .int x1), (2, .int x2)]) (st1 := [.int x2, .int (σ.1 106 52), .ref 143]) (σ1 := (jx_i σ 142 ((σ.1 106 52)).toNatClampNeg x1)) (by decide +kernel) rfl (fun hC => ?_)
  obtain ⟨hi, h⟩ := jx_ite0_inv h
  refine jE_iast (n := 64) hC (by decide) rfl hi ?_
  refine jE_blk (bs := [(.aload_n 0, 0, 0), (.dup, 0, 0), (.getfield 317, 12, 52), (.iconst (1), 1, 0), (.iadd, 0, 0), (.putfield 317, 12, 52)]) (i := .return_) (a1 := 0) (a2 := 0) (pc1 := 30) (l1 := [(0, .ref 106), (1, .int x1), (2, .int x2)]) (st1 := []) (σ1 := (jx_i (jx_i (jx_i σ 142 ((σ.1 106 52)).toNatClampNeg x1) 143 ((σ.1 106 52)).toNatClampNeg x2) 106 52 ((σ.1 106 52) + (1 : Int32)))) (by decide +kernel) rfl (fun hC => ?_)
  have h9 := Option.some.inj h
  subst h9
  have e9 : ((none, (jx_i (jx_i (jx_i σ 142 ((σ.1 106 52)).toNatClampNeg x1) 143 ((σ.1 106 52)).toNatClampNeg x2) 106 52 ((σ.1 106 52) + (1 : Int32)))) : Option Value × jx_S) = res := hK
  subst e9
  exact jE_ret hC rfl
def kk_r_localNamed_4 (d : Nat) (t : ((Int32 × Int32 × Int32 × jx_S) ⊕ (Int32 × jx_S))) (res : Option Value × jx_S) : Prop := match t with
  | .inl s => jE d 161 4 [(0, .ref 106), (1, .int s.1), (2, .int s.2.1), (3, .int s.2.2.1)] [] s.2.2.2 res
  | .inr t => kkI t res
def p_r_localNamed_36 (x1 : Int32) (x3 : Int32) (y0 : Int32) (σ : jx_S) : Option ((Int32 × Int32 × Int32 × jx_S) ⊕ (Int32 × jx_S)) := (some (.inl (x1, y0, (x3 + 1), σ)))
theorem x_r_localNamed_36 (d : Nat) (hd : 1 ≤ d) (x1 : Int32) (x3 : Int32) (y0 : Int32) (σ : jx_S) (t : ((Int32 × Int32 × Int32 × jx_S) ⊕ (Int32 × jx_S))) (res : Option Value × jx_S) (h : p_r_localNamed_36 x1 x3 y0 σ = some t) (hK : kk_r_localNamed_4 d t res) : jE d 161 36 [(0, .ref 106), (1, .int x1), (3, .int x3)] [.int y0] σ res := by
  unfold p_r_localNamed_36 at h
  refine jE_blk (bs := [(.istore_n 2, 4, 0), (.iinc 3 (1), 4, 2), (.goto (-36), 0, 0)]) (i := .iload_n 3) (a1 := 0) (a2 := 0) (pc1 := 4) (l1 := [(3, .int (x3 + 1)), (2, .int y0), (0, .ref 106), (1, .int x1)]) (st1 := []) (σ1 := σ) (by decide +kernel) rfl (fun hC => ?_)
  have h9 := Option.some.inj h
  subst h9
  exact jE_loc (l := [(0, .ref 106), (1, .int x1), (2, .int y0), (3, .int (x3 + 1))]) (ks := [0, 1, 2, 3]) rfl (by decide) ⟨rfl, rfl, rfl, rfl, trivial⟩ hK
def p_r_localNamed_4_s (x1 : Int32) (x2 : Int32) (x3 : Int32) (σ : jx_S) : Option ((Int32 × Int32 × Int32 × jx_S) ⊕ (Int32 × jx_S)) := (if (σ.1 106 52) ≤ x3 then (Option.map Sum.inr (some ((x2, σ)))) else (if x3 < 0 ∨ 64 ≤ (x3).toNatClampNeg then none else ((p_r_isSame ((σ.1 143) (x3).toNatClampNeg) x1 σ).bind fun q2 => (if q2.1 = 0 then (p_r_localNamed_36 x1 x3 x2 q2.2) else (if x3 < 0 ∨ 64 ≤ (x3).toNatClampNeg then none else (p_r_localNamed_36 x1 x3 ((q2.2.1 142) (x3).toNatClampNeg) q2.2))))))
theorem x_r_localNamed_4_s (d : Nat) (hd : 1 ≤ d) (x1 : Int32) (x2 : Int32) (x3 : Int32) (σ : jx_S) (t : ((Int32 × Int32 × Int32 × jx_S) ⊕ (Int32 × jx_S))) (res : Option Value × jx_S) (h : p_r_localNamed_4_s x1 x2 x3 σ = some t) (hK : kk_r_localNamed_4 d t res) : jE d 161 4 [(0, .ref 106), (1, .int x1), (2, .int x2), (3, .int x3)] [] σ res := by
  unfold p_r_localNamed_4_s at h
  refine jE_blk (bs := [(.iload_n 3, 0, 0), (.aload_n 0, 0, 0), (.getfield 317, 12, 52)]) (i := .if_icmp .ge (34)) (a1 := 0) (a2 := 0) (pc1 := 9) (l1 := [(0, .ref 106), (1, .int x1), (2, .int x2), (3, .int x3)]) (st1 := [.int (σ.1 106 52), .int x3]) (σ1 := σ) (by decide +kernel) rfl (fun hC => ?_)
  rcases Classical.em ((σ.1 106 52) ≤ x3) with hc | hc
  · rw [if_pos hc] at h
    refine jE_icT 43 hC (by decide) hc ?_
    obtain ⟨t9_1, h9_1, h8_1⟩ := Option.map_eq_some_iff.mp h
    clear h
    subst h8_1
    have h := h9_1
    clear h9_1
    refine jE_blk (bs := [(.iload_n 2, 0, 0)]) (i := .ireturn) (a1 := 0) (a2 := 0) (pc1 := 44) (l1 := [(0, .ref 106), (1, .int x1), (2, .int x2), (3, .int x3)]) (st1 := [.int x2]) (σ1 := σ) (by decide +kernel) rfl (fun hC => ?_)
    have h9 := Option.some.inj h
    subst h9
    have e9 : ((some (.int x2), σ) : Option Value × jx_S) = res := hK
    subst e9
    exact jE_ret hC rfl
  · rw [if_neg hc] at h
    refine jE_icF 43 hC (by decide) hc ?_
    refine jE_blk (bs := [(.aload_n 0, 0, 0), (.aload_n 0, 0, 0), (.getfield 123, 12, 51), (.iload_n 3, 0, 0)]) (i := .iaload) (a1 := 0) (a2 := 0) (pc1 := 18) (l1 := [(0, .ref 106), (1, .int x1), (2, .int x2), (3, .int x3)]) (st1 := [.int x3, .ref 143, .ref 106]) (σ1 := σ) (by decide +kernel) rfl (fun hC => ?_)
    obtain ⟨hi, h⟩ := jx_ite0_inv h
    refine jE_iald (n := 64) hC (by decide) rfl hi ?_
    refine jE_blk (bs := [(.iload_n 1, 0, 0)]) (i := .invokevirtual 320) (a1 := 154) (a2 := 0) (pc1 := 20) (l1 := [(0, .ref 106), (1, .int x1), (2, .int x2), (3, .int x3)]) (st1 := [.int x1, .int ((σ.1 143) (x3).toNatClampNeg), .ref 106]) (σ1 := σ) (by decide +kernel) rfl (fun hC => ?_)
    obtain ⟨q2, hq, h⟩ := Option.bind_eq_some_iff.mp h
    refine jE_call (as := [.ref 106, .int ((σ.1 143) (x3).toNatClampNeg), .int x1]) (pc1 := 23) (st1 := []) hC rfl (by decide) (by omega) (x_r_isSame (d - 1) (by omega) ((σ.1 143) (x3).toNatClampNeg) x1 σ q2 (some (.int q2.1), q2.2) hq rfl) ?_
    refine jE_blk (bs := []) (i := .ifCond .eq (12)) (a1 := 0) (a2 := 0) (pc1 := 23) (l1 := [(0, .ref 106), (1, .int x1), (2, .int x2), (3, .int x3)]) (st1 := [.int q2.1]) (σ1 := q2.2) (by decide +kernel) rfl (fun hC => ?_)
    rcases Classical.em (q2.1 = 0) with hc | hc
    · rw [if_pos hc] at h
      refine jE_ifT 35 hC (by decide) hc ?_
      refine jE_blk (bs := [(.iload_n 2, 0, 0)]) (i := .istore_n 2) (a1 := 4) (a2 := 0) (pc1 := 36) (l1 := [(0, .ref 106), (1, .int x1), (2, .int x2), (3, .int x3)]) (st1 := [.int x2]) (σ1 := q2.2) (by decide +kernel) rfl (fun hC => ?_)
      exact jE_loc (l := [(0, .ref 106), (1, .int x1), (3, .int x3)]) (ks := [0, 1, 3]) rfl (by decide) ⟨rfl, rfl, rfl, trivial⟩ (x_r_localNamed_36 d hd x1 x3 x2 q2.2 _ res h hK)
    · rw [if_neg hc] at h
      refine jE_ifF 35 hC (by decide) hc ?_
      refine jE_blk (bs := [(.aload_n 0, 0, 0), (.getfield 120, 12, 50), (.iload_n 3, 0, 0)]) (i := .iaload) (a1 := 0) (a2 := 0) (pc1 := 31) (l1 := [(0, .ref 106), (1, .int x1), (2, .int x2), (3, .int x3)]) (st1 := [.int x3, .ref 142]) (σ1 := q2.2) (by decide +kernel) rfl (fun hC => ?_)
      obtain ⟨hi, h⟩ := jx_ite0_inv h
      refine jE_iald (n := 64) hC (by decide) rfl hi ?_
      refine jE_blk (bs := [(.goto (4), 0, 0)]) (i := .istore_n 2) (a1 := 4) (a2 := 0) (pc1 := 36) (l1 := [(0, .ref 106), (1, .int x1), (2, .int x2), (3, .int x3)]) (st1 := [.int ((q2.2.1 142) (x3).toNatClampNeg)]) (σ1 := q2.2) (by decide +kernel) rfl (fun hC => ?_)
      exact jE_loc (l := [(0, .ref 106), (1, .int x1), (3, .int x3)]) (ks := [0, 1, 3]) rfl (by decide) ⟨rfl, rfl, rfl, trivial⟩ (x_r_localNamed_36 d hd x1 x3 ((q2.2.1 142) (x3).toNatClampNeg) q2.2 _ res h hK)
def p_r_localNamed_4 (x1 : Int32) (x2 : Int32) (x3 : Int32) (σ : jx_S) : Option (Int32 × jx_S) := jx_loop 100000000 (fun s => p_r_localNamed_4_s s.1 s.2.1 s.2.2.1 (s.2.2.2)) (x1, x2, x3, σ)
theorem x_r_localNamed_4 (d : Nat) (hd : 1 ≤ d) (x1 : Int32) (x2 : Int32) (x3 : Int32) (σ : jx_S) (t : (Int32 × jx_S)) (res : Option Value × jx_S) (h : p_r_localNamed_4 x1 x2 x3 σ = some t) (hK : kkI t res) : jE d 161 4 [(0, .ref 106), (1, .int x1), (2, .int x2), (3, .int x3)] [] σ res := by
  refine jx_loop_ok (E := fun s t => ∀ res, kkI t res → jE d 161 4 [(0, .ref 106), (1, .int s.1), (2, .int s.2.1), (3, .int s.2.2.1)] [] s.2.2.2 res) (fun s t hs => ?_) _ _ _ h res hK
  cases t with
  | inl s1 => exact fun b hb res hk => x_r_localNamed_4_s d hd (s.1) (s.2.1) (s.2.2.1) (s.2.2.2) _ res hs (hb res hk)
  | inr b => exact fun res hk => x_r_localNamed_4_s d hd (s.1) (s.2.1) (s.2.2.1) (s.2.2.2) _ res hs hk
def p_r_localNamed (x1 : Int32) (σ : jx_S) : Option (Int32 × jx_S) := (p_r_localNamed_4 x1 (-1 : Int32) (0 : Int32) σ)
theorem x_r_localNamed (d : Nat) (hd : 1 ≤ d) (x1 : Int32) (σ : jx_S) (t : (Int32 × jx_S)) (res : Option Value × jx_S) (h : p_r_localNamed x1 σ = some t) (hK : kkI t res) : jE d 161 0 [(0, .ref 106), (1, .int x1)] [] σ res := by
  unfold p_r_localNamed at h
  refine jE_blk (bs := [(.iconst (-1), 1, 1), (.istore_n 2, 4, 0), (.iconst (0), 0, 0), (.istore_n 3, 4, 0)]) (i := .iload_n 3) (a1 := 0) (a2 := 0) (pc1 := 4) (l1 := [(3, .int (0 : Int32)), (2, .int (-1 : Int32)), (0, .ref 106), (1, .int x1)]) (st1 := []) (σ1 := σ) (by decide +kernel) rfl (fun hC => ?_)
  exact jE_loc (l := [(0, .ref 106), (1, .int x1), (2, .int (-1 : Int32)), (3, .int (0 : Int32))]) (ks := [0, 1, 2, 3]) rfl (by decide) ⟨rfl, rfl, rfl, rfl, trivial⟩ (x_r_localNamed_4 d hd x1 (-1 : Int32) (0 : Int32) σ _ res h hK)
def p_r_later (x1 : Int32) (x2 : Int32) (x3 : Int32) (σ : jx_S) : Option jx_S := (if (σ.1 106 45) < 0 ∨ 4000 ≤ ((σ.1 106 45)).toNatClampNeg then none else (if (σ.1 106 45) < 0 ∨ 4000 ≤ ((σ.1 106 45)).toNatClampNeg then none else (if (σ.1 106 45) < 0 ∨ 4000 ≤ ((σ.1 106 45)).toNatClampNeg then none else (some ((jx_i (jx_i (jx_i (jx_i σ 138 ((σ.1 106 45)).toNatClampNeg x1) 139 ((σ.1 106 45)).toNatClampNeg x2) 140 ((σ.1 106 45)).toNatClampNeg x3) 106 45 ((σ.1 106 45) + (1 : Int32))))))))
theorem x_r_later (d : Nat) (hd : 0 ≤ d) (x1 : Int32) (x2 : Int32) (x3 : Int32) (σ : jx_S) (t : jx_S) (res : Option Value × jx_S) (h : p_r_later x1 x2 x3 σ = some t) (hK : kkV t res) : jE d 162 0 [(0, .ref 106), (1, .int x1), (2, .int x2), (3, .int x3)] [] σ res := by
  unfold p_r_later at h
  refine jE_blk (bs := [(.aload_n 0, 0, 0), (.getfield 108, 12, 42), (.aload_n 0, 0, 0), (.getfield 323, 12, 45), (.iload_n 1, 0, 0)]) (i := .iastore) (a1 := 0) (a2 := 0) (pc1 := 9) (l1 := [(0, .ref 106), (1, .int x1), (2, .int x2), (3, .int x3)]) (st1 := [.int x1, .int (σ.1 106 45), .ref 138]) (σ1 := σ) (by decide +kernel) rfl (fun hC => ?_)
  obtain ⟨hi, h⟩ := jx_ite0_inv h
  refine jE_iast (n := 4000) hC (by decide) rfl hi ?_
  refine jE_blk (bs := [(.aload_n 0, 0, 0), (.getfield 111, 12, 43), (.aload_n 0, 0, 0), (.getfield 323, 12, 45), (.iload_n 2, 0, 0)]) (i := .iastore) (a1 := 0) (a2 := 0) (pc1 := 19) (l1 := [(0, .ref 106), (1, .int x1), (2, .int x2), (3, .int x3)]) (st1 := [.int x2, .int (σ.1 106 45), .ref 139]) (σ1 := (jx_i σ 138 ((σ.1 106 45)).toNatClampNeg x1)) (by decide +kernel) rfl (fun hC => ?_)
  obtain ⟨hi, h⟩ := jx_ite0_inv h
  refine jE_iast (n := 4000) hC (by decide) rfl hi ?_
  refine jE_blk (bs := [(.aload_n 0, 0, 0), (.getfield 114, 12, 44), (.aload_n 0, 0, 0), (.getfield 323, 12, 45), (.iload_n 3, 0, 0)]) (i := .iastore) (a1 := 0) (a2 := 0) (pc1 := 29) (l1 := [(0, .ref 106), (1, .int x1), (2, .int x2), (3, .int x3)]) (st1 := [.int x3, .int (σ.1 106 45), .ref 140]) (σ1 := (jx_i (jx_i σ 138 ((σ.1 106 45)).toNatClampNeg x1) 139 ((σ.1 106 45)).toNatClampNeg x2)) (by decide +kernel) rfl (fun hC => ?_)
  obtain ⟨hi, h⟩ := jx_ite0_inv h
  refine jE_iast (n := 4000) hC (by decide) rfl hi ?_
  refine jE_blk (bs := [(.aload_n 0, 0, 0), (.dup, 0, 0), (.getfield 323, 12, 45), (.iconst (1), 1, 0), (.iadd, 0, 0), (.putfield 323, 12, 45)]) (i := .return_) (a1 := 0) (a2 := 0) (pc1 := 40) (l1 := [(0, .ref 106), (1, .int x1), (2, .int x2), (3, .int x3)]) (st1 := []) (σ1 := (jx_i (jx_i (jx_i (jx_i σ 138 ((σ.1 106 45)).toNatClampNeg x1) 139 ((σ.1 106 45)).toNatClampNeg x2) 140 ((σ.1 106 45)).toNatClampNeg x3) 106 45 ((σ.1 106 45) + (1 : Int32)))) (by decide +kernel) rfl (fun hC => ?_)
  have h9 := Option.some.inj h
  subst h9
  have e9 : ((none, (jx_i (jx_i (jx_i (jx_i σ 138 ((σ.1 106 45)).toNatClampNeg x1) 139 ((σ.1 106 45)).toNatClampNeg x2) 140 ((σ.1 106 45)).toNatClampNeg x3) 106 45 ((σ.1 106 45) + (1 : Int32)))) : Option Value × jx_S) = res := hK
  subst e9
  exact jE_ret hC rfl
def p_r_take (σ : jx_S) : Option (Int32 × jx_S) := (if ((σ.1 106 47) - (1 : Int32)) < 0 ∨ 3000 ≤ (((σ.1 106 47) - (1 : Int32))).toNatClampNeg then none else (some ((((σ.1 141) (((σ.1 106 47) - (1 : Int32))).toNatClampNeg), (jx_i σ 106 47 ((σ.1 106 47) - (1 : Int32)))))))
theorem x_r_take (d : Nat) (hd : 0 ≤ d) (σ : jx_S) (t : (Int32 × jx_S)) (res : Option Value × jx_S) (h : p_r_take σ = some t) (hK : kkI t res) : jE d 163 0 [(0, .ref 106)] [] σ res := by
  unfold p_r_take at h
  refine jE_blk (bs := [(.aload_n 0, 0, 0), (.dup, 0, 0), (.getfield 326, 12, 47), (.iconst (1), 1, 0), (.isub, 0, 0), (.putfield 326, 12, 47), (.aload_n 0, 0, 0), (.getfield 117, 12, 46), (.aload_n 0, 0, 0), (.getfield 326, 12, 47)]) (i := .iaload) (a1 := 0) (a2 := 0) (pc1 := 18) (l1 := [(0, .ref 106)]) (st1 := [.int ((σ.1 106 47) - (1 : Int32)), .ref 141]) (σ1 := (jx_i σ 106 47 ((σ.1 106 47) - (1 : Int32)))) (by decide +kernel) rfl (fun hC => ?_)
  obtain ⟨hi, h⟩ := jx_ite0_inv h
  refine jE_iald (n := 3000) hC (by decide) rfl hi ?_
  refine jE_blk (bs := []) (i := .ireturn) (a1 := 0) (a2 := 0) (pc1 := 19) (l1 := [(0, .ref 106)]) (st1 := [.int ((σ.1 141) (((σ.1 106 47) - (1 : Int32))).toNatClampNeg)]) (σ1 := (jx_i σ 106 47 ((σ.1 106 47) - (1 : Int32)))) (by decide +kernel) rfl (fun hC => ?_)
  have h9 := Option.some.inj h
  subst h9
  have e9 : ((some (.int ((σ.1 141) (((σ.1 106 47) - (1 : Int32))).toNatClampNeg)), (jx_i σ 106 47 ((σ.1 106 47) - (1 : Int32)))) : Option Value × jx_S) = res := hK
  subst e9
  exact jE_ret hC rfl
def p_r_node_125 (x6 : Int32) (y0 : Int32) (y1 : Int32) (σ : jx_S) : Option (Int32 × jx_S) := (if y1 < 0 ∨ 3000 ≤ (y1).toNatClampNeg then none else (some ((x6, (jx_i (jx_i σ 121 (y1).toNatClampNeg y0) 106 25 ((σ.1 106 25) + (1 : Int32)))))))
theorem x_r_node_125 (d : Nat) (hd : 0 ≤ d) (x6 : Int32) (y0 : Int32) (y1 : Int32) (σ : jx_S) (t : (Int32 × jx_S)) (res : Option Value × jx_S) (h : p_r_node_125 x6 y0 y1 σ = some t) (hK : kkI t res) : jE d 164 125 [(0, .ref 106), (6, .int x6)] [.int y0, .int y1, .ref 121] σ res := by
  unfold p_r_node_125 at h
  refine jE_blk (bs := []) (i := .iastore) (a1 := 0) (a2 := 0) (pc1 := 125) (l1 := [(0, .ref 106), (6, .int x6)]) (st1 := [.int y0, .int y1, .ref 121]) (σ1 := σ) (by decide +kernel) rfl (fun hC => ?_)
  obtain ⟨hi, h⟩ := jx_ite0_inv h
  refine jE_iast (n := 3000) hC (by decide) rfl hi ?_
  refine jE_blk (bs := [(.aload_n 0, 0, 0), (.dup, 0, 0), (.getfield 329, 12, 25), (.iconst (1), 1, 0), (.iadd, 0, 0), (.putfield 329, 12, 25), (.iload 6, 0, 0)]) (i := .ireturn) (a1 := 0) (a2 := 0) (pc1 := 138) (l1 := [(0, .ref 106), (6, .int x6)]) (st1 := [.int x6]) (σ1 := (jx_i (jx_i σ 121 (y1).toNatClampNeg y0) 106 25 ((σ.1 106 25) + (1 : Int32)))) (by decide +kernel) rfl (fun hC => ?_)
  have h9 := Option.some.inj h
  subst h9
  have e9 : ((some (.int x6), (jx_i (jx_i σ 121 (y1).toNatClampNeg y0) 106 25 ((σ.1 106 25) + (1 : Int32)))) : Option Value × jx_S) = res := hK
  subst e9
  exact jE_ret hC rfl
def p_r_node (x1 : Int32) (x2 : Int32) (x3 : Int32) (x4 : Int32) (x5 : Int32) (σ : jx_S) : Option (Int32 × jx_S) := (if (σ.1 106 25) < 0 ∨ 3000 ≤ ((σ.1 106 25)).toNatClampNeg then none else (if (σ.1 106 25) < 0 ∨ 3000 ≤ ((σ.1 106 25)).toNatClampNeg then none else (if (σ.1 106 25) < 0 ∨ 3000 ≤ ((σ.1 106 25)).toNatClampNeg then none else (if (σ.1 106 25) < 0 ∨ 3000 ≤ ((σ.1 106 25)).toNatClampNeg then none else (if (σ.1 106 25) < 0 ∨ 3000 ≤ ((σ.1 106 25)).toNatClampNeg then none else (if (σ.1 106 25) < 0 ∨ 3000 ≤ ((σ.1 106 25)).toNatClampNeg then none else (if (σ.1 106 25) < 0 ∨ 3000 ≤ ((σ.1 106 25)).toNatClampNeg then none else (if (σ.1 106 25) < 0 ∨ 3000 ≤ ((σ.1 106 25)).toNatClampNeg then none else (if (σ.1 106 25) < 0 ∨ 3000 ≤ ((σ.1 106 25)).toNatClampNeg then none else (if (σ.1 106 25) < 0 ∨ 3000 ≤ ((σ.1 106 25)).toNatClampNeg then none else (if (σ.1 106 25) < 0 ∨ 3000 ≤ ((σ.1 106 25)).toNatClampNeg then none else (if (σ.1 106 25) < 0 ∨ 3000 ≤ ((σ.1 106 25)).toNatClampNeg then none else (if x3 < 0 then (p_r_node_125 (σ.1 106 25) (σ.1 106 25) (σ.1 106 25) (jx_i (jx_i (jx_i (jx_i (jx_i (jx_i (jx_i (jx_i (jx_i (jx_i (jx_i (jx_i σ 112 ((σ.1 106 25)).toNatClampNeg x1) 113 ((σ.1 106 25)).toNatClampNeg x2) 114 ((σ.1 106 25)).toNatClampNeg x3) 115 ((σ.1 106 25)).toNatClampNeg x4) 116 ((σ.1 106 25)).toNatClampNeg x5) 117 ((σ.1 106 25)).toNatClampNeg (-1 : Int32)) 118 ((σ.1 106 25)).toNatClampNeg (-1 : Int32)) 119 ((σ.1 106 25)).toNatClampNeg (0 : Int32)) 120 ((σ.1 106 25)).toNatClampNeg (-1 : Int32)) 122 ((σ.1 106 25)).toNatClampNeg (-1 : Int32)) 123 ((σ.1 106 25)).toNatClampNeg (-1 : Int32)) 125 ((σ.1 106 25)).toNatClampNeg (0 : Int32))) else (if x3 < 0 ∨ 3000 ≤ (x3).toNatClampNeg then none else (p_r_node_125 (σ.1 106 25) ((σ.1 121) (x3).toNatClampNeg) (σ.1 106 25) (jx_i (jx_i (jx_i (jx_i (jx_i (jx_i (jx_i (jx_i (jx_i (jx_i (jx_i (jx_i σ 112 ((σ.1 106 25)).toNatClampNeg x1) 113 ((σ.1 106 25)).toNatClampNeg x2) 114 ((σ.1 106 25)).toNatClampNeg x3) 115 ((σ.1 106 25)).toNatClampNeg x4) 116 ((σ.1 106 25)).toNatClampNeg x5) 117 ((σ.1 106 25)).toNatClampNeg (-1 : Int32)) 118 ((σ.1 106 25)).toNatClampNeg (-1 : Int32)) 119 ((σ.1 106 25)).toNatClampNeg (0 : Int32)) 120 ((σ.1 106 25)).toNatClampNeg (-1 : Int32)) 122 ((σ.1 106 25)).toNatClampNeg (-1 : Int32)) 123 ((σ.1 106 25)).toNatClampNeg (-1 : Int32)) 125 ((σ.1 106 25)).toNatClampNeg (0 : Int32)))))))))))))))))
theorem x_r_node (d : Nat) (hd : 0 ≤ d) (x1 : Int32) (x2 : Int32) (x3 : Int32) (x4 : Int32) (x5 : Int32) (σ : jx_S) (t : (Int32 × jx_S)) (res : Option Value × jx_S) (h : p_r_node x1 x2 x3 x4 x5 σ = some t) (hK : kkI t res) : jE d 164 0 [(0, .ref 106), (1, .int x1), (2, .int x2), (3, .int x3), (4, .int x4), (5, .int x5)] [] σ res := by
  unfold p_r_node at h
  refine jE_blk (bs := [(.aload_n 0, 0, 0), (.getfield 329, 12, 25), (.istore 6, 7, 0), (.aload_n 0, 0, 0), (.getfield 29, 12, 11), (.iload 6, 0, 0), (.iload_n 1, 0, 0)]) (i := .iastore) (a1 := 0) (a2 := 0) (pc1 := 13) (l1 := [(6, .int (σ.1 106 25)), (0, .ref 106), (1, .int x1), (2, .int x2), (3, .int x3), (4, .int x4), (5, .int x5)]) (st1 := [.int x1, .int (σ.1 106 25), .ref 112]) (σ1 := σ) (by decide +kernel) rfl (fun hC => ?_)
  obtain ⟨hi, h⟩ := jx_ite0_inv h
  refine jE_iast (n := 3000) hC (by decide) rfl hi ?_
  refine jE_blk (bs := [(.aload_n 0, 0, 0), (.getfield 32, 12, 12), (.iload 6, 0, 0), (.iload_n 2, 0, 0)]) (i := .iastore) (a1 := 0) (a2 := 0) (pc1 := 21) (l1 := [(6, .int (σ.1 106 25)), (0, .ref 106), (1, .int x1), (2, .int x2), (3, .int x3), (4, .int x4), (5, .int x5)]) (st1 := [.int x2, .int (σ.1 106 25), .ref 113]) (σ1 := (jx_i σ 112 ((σ.1 106 25)).toNatClampNeg x1)) (by decide +kernel) rfl (fun hC => ?_)
  obtain ⟨hi, h⟩ := jx_ite0_inv h
  refine jE_iast (n := 3000) hC (by decide) rfl hi ?_
  refine jE_blk (bs := [(.aload_n 0, 0, 0), (.getfield 35, 12, 13), (.iload 6, 0, 0), (.iload_n 3, 0, 0)]) (i := .iastore) (a1 := 0) (a2 := 0) (pc1 := 29) (l1 := [(6, .int (σ.1 106 25)), (0, .ref 106), (1, .int x1), (2, .int x2), (3, .int x3), (4, .int x4), (5, .int x5)]) (st1 := [.int x3, .int (σ.1 106 25), .ref 114]) (σ1 := (jx_i (jx_i σ 112 ((σ.1 106 25)).toNatClampNeg x1) 113 ((σ.1 106 25)).toNatClampNeg x2)) (by decide +kernel) rfl (fun hC => ?_)
  obtain ⟨hi, h⟩ := jx_ite0_inv h
  refine jE_iast (n := 3000) hC (by decide) rfl hi ?_
  refine jE_blk (bs := [(.aload_n 0, 0, 0), (.getfield 38, 12, 14), (.iload 6, 0, 0), (.iload 4, 0, 0)]) (i := .iastore) (a1 := 0) (a2 := 0) (pc1 := 38) (l1 := [(6, .int (σ.1 106 25)), (0, .ref 106), (1, .int x1), (2, .int x2), (3, .int x3), (4, .int x4), (5, .int x5)]) (st1 := [.int x4, .int (σ.1 106 25), .ref 115]) (σ1 := (jx_i (jx_i (jx_i σ 112 ((σ.1 106 25)).toNatClampNeg x1) 113 ((σ.1 106 25)).toNatClampNeg x2) 114 ((σ.1 106 25)).toNatClampNeg x3)) (by decide +kernel) rfl (fun hC => ?_)
  obtain ⟨hi, h⟩ := jx_ite0_inv h
  refine jE_iast (n := 3000) hC (by decide) rfl hi ?_
  refine jE_blk (bs := [(.aload_n 0, 0, 0), (.getfield 41, 12, 15), (.iload 6, 0, 0), (.iload 5, 0, 0)]) (i := .iastore) (a1 := 0) (a2 := 0) (pc1 := 47) (l1 := [(6, .int (σ.1 106 25)), (0, .ref 106), (1, .int x1), (2, .int x2), (3, .int x3), (4, .int x4), (5, .int x5)]) (st1 := [.int x5, .int (σ.1 106 25), .ref 116]) (σ1 := (jx_i (jx_i (jx_i (jx_i σ 112 ((σ.1 106 25)).toNatClampNeg x1) 113 ((σ.1 106 25)).toNatClampNeg x2) 114 ((σ.1 106 25)).toNatClampNeg x3) 115 ((σ.1 106 25)).toNatClampNeg x4)) (by decide +kernel) rfl (fun hC => ?_)
  obtain ⟨hi, h⟩ := jx_ite0_inv h
  refine jE_iast (n := 3000) hC (by decide) rfl hi ?_
  refine jE_blk (bs := [(.aload_n 0, 0, 0), (.getfield 44, 12, 16), (.iload 6, 0, 0), (.iconst (-1), 1, 1)]) (i := .iastore) (a1 := 0) (a2 := 0) (pc1 := 55) (l1 := [(6, .int (σ.1 106 25)), (0, .ref 106), (1, .int x1), (2, .int x2), (3, .int x3), (4, .int x4), (5, .int x5)]) (st1 := [.int (-1 : Int32), .int (σ.1 106 25), .ref 117]) (σ1 := (jx_i (jx_i (jx_i (jx_i (jx_i σ 112 ((σ.1 106 25)).toNatClampNeg x1) 113 ((σ.1 106 25)).toNatClampNeg x2) 114 ((σ.1 106 25)).toNatClampNeg x3) 115 ((σ.1 106 25)).toNatClampNeg x4) 116 ((σ.1 106 25)).toNatClampNeg x5)) (by decide +kernel) rfl (fun hC => ?_)
  obtain ⟨hi, h⟩ := jx_ite0_inv h
  refine jE_iast (n := 3000) hC (by decide) rfl hi ?_
  refine jE_blk (bs := [(.aload_n 0, 0, 0), (.getfield 47, 12, 17), (.iload 6, 0, 0), (.iconst (-1), 1, 1)]) (i := .iastore) (a1 := 0) (a2 := 0) (pc1 := 63) (l1 := [(6, .int (σ.1 106 25)), (0, .ref 106), (1, .int x1), (2, .int x2), (3, .int x3), (4, .int x4), (5, .int x5)]) (st1 := [.int (-1 : Int32), .int (σ.1 106 25), .ref 118]) (σ1 := (jx_i (jx_i (jx_i (jx_i (jx_i (jx_i σ 112 ((σ.1 106 25)).toNatClampNeg x1) 113 ((σ.1 106 25)).toNatClampNeg x2) 114 ((σ.1 106 25)).toNatClampNeg x3) 115 ((σ.1 106 25)).toNatClampNeg x4) 116 ((σ.1 106 25)).toNatClampNeg x5) 117 ((σ.1 106 25)).toNatClampNeg (-1 : Int32))) (by decide +kernel) rfl (fun hC => ?_)
  obtain ⟨hi, h⟩ := jx_ite0_inv h
  refine jE_iast (n := 3000) hC (by decide) rfl hi ?_
  refine jE_blk (bs := [(.aload_n 0, 0, 0), (.getfield 50, 12, 18), (.iload 6, 0, 0), (.iconst (0), 0, 0)]) (i := .iastore) (a1 := 0) (a2 := 0) (pc1 := 71) (l1 := [(6, .int (σ.1 106 25)), (0, .ref 106), (1, .int x1), (2, .int x2), (3, .int x3), (4, .int x4), (5, .int x5)]) (st1 := [.int (0 : Int32), .int (σ.1 106 25), .ref 119]) (σ1 := (jx_i (jx_i (jx_i (jx_i (jx_i (jx_i (jx_i σ 112 ((σ.1 106 25)).toNatClampNeg x1) 113 ((σ.1 106 25)).toNatClampNeg x2) 114 ((σ.1 106 25)).toNatClampNeg x3) 115 ((σ.1 106 25)).toNatClampNeg x4) 116 ((σ.1 106 25)).toNatClampNeg x5) 117 ((σ.1 106 25)).toNatClampNeg (-1 : Int32)) 118 ((σ.1 106 25)).toNatClampNeg (-1 : Int32))) (by decide +kernel) rfl (fun hC => ?_)
  obtain ⟨hi, h⟩ := jx_ite0_inv h
  refine jE_iast (n := 3000) hC (by decide) rfl hi ?_
  refine jE_blk (bs := [(.aload_n 0, 0, 0), (.getfield 53, 12, 19), (.iload 6, 0, 0), (.iconst (-1), 1, 1)]) (i := .iastore) (a1 := 0) (a2 := 0) (pc1 := 79) (l1 := [(6, .int (σ.1 106 25)), (0, .ref 106), (1, .int x1), (2, .int x2), (3, .int x3), (4, .int x4), (5, .int x5)]) (st1 := [.int (-1 : Int32), .int (σ.1 106 25), .ref 120]) (σ1 := (jx_i (jx_i (jx_i (jx_i (jx_i (jx_i (jx_i (jx_i σ 112 ((σ.1 106 25)).toNatClampNeg x1) 113 ((σ.1 106 25)).toNatClampNeg x2) 114 ((σ.1 106 25)).toNatClampNeg x3) 115 ((σ.1 106 25)).toNatClampNeg x4) 116 ((σ.1 106 25)).toNatClampNeg x5) 117 ((σ.1 106 25)).toNatClampNeg (-1 : Int32)) 118 ((σ.1 106 25)).toNatClampNeg (-1 : Int32)) 119 ((σ.1 106 25)).toNatClampNeg (0 : Int32))) (by decide +kernel) rfl (fun hC => ?_)
  obtain ⟨hi, h⟩ := jx_ite0_inv h
  refine jE_iast (n := 3000) hC (by decide) rfl hi ?_
  refine jE_blk (bs := [(.aload_n 0, 0, 0), (.getfield 59, 12, 21), (.iload 6, 0, 0), (.iconst (-1), 1, 1)]) (i := .iastore) (a1 := 0) (a2 := 0) (pc1 := 87) (l1 := [(6, .int (σ.1 106 25)), (0, .ref 106), (1, .int x1), (2, .int x2), (3, .int x3), (4, .int x4), (5, .int x5)]) (st1 := [.int (-1 : Int32), .int (σ.1 106 25), .ref 122]) (σ1 := (jx_i (jx_i (jx_i (jx_i (jx_i (jx_i (jx_i (jx_i (jx_i σ 112 ((σ.1 106 25)).toNatClampNeg x1) 113 ((σ.1 106 25)).toNatClampNeg x2) 114 ((σ.1 106 25)).toNatClampNeg x3) 115 ((σ.1 106 25)).toNatClampNeg x4) 116 ((σ.1 106 25)).toNatClampNeg x5) 117 ((σ.1 106 25)).toNatClampNeg (-1 : Int32)) 118 ((σ.1 106 25)).toNatClampNeg (-1 : Int32)) 119 ((σ.1 106 25)).toNatClampNeg (0 : Int32)) 120 ((σ.1 106 25)).toNatClampNeg (-1 : Int32))) (by decide +kernel) rfl (fun hC => ?_)
  obtain ⟨hi, h⟩ := jx_ite0_inv h
  refine jE_iast (n := 3000) hC (by decide) rfl hi ?_
  refine jE_blk (bs := [(.aload_n 0, 0, 0), (.getfield 62, 12, 22), (.iload 6, 0, 0), (.iconst (-1), 1, 1)]) (i := .iastore) (a1 := 0) (a2 := 0) (pc1 := 95) (l1 := [(6, .int (σ.1 106 25)), (0, .ref 106), (1, .int x1), (2, .int x2), (3, .int x3), (4, .int x4), (5, .int x5)]) (st1 := [.int (-1 : Int32), .int (σ.1 106 25), .ref 123]) (σ1 := (jx_i (jx_i (jx_i (jx_i (jx_i (jx_i (jx_i (jx_i (jx_i (jx_i σ 112 ((σ.1 106 25)).toNatClampNeg x1) 113 ((σ.1 106 25)).toNatClampNeg x2) 114 ((σ.1 106 25)).toNatClampNeg x3) 115 ((σ.1 106 25)).toNatClampNeg x4) 116 ((σ.1 106 25)).toNatClampNeg x5) 117 ((σ.1 106 25)).toNatClampNeg (-1 : Int32)) 118 ((σ.1 106 25)).toNatClampNeg (-1 : Int32)) 119 ((σ.1 106 25)).toNatClampNeg (0 : Int32)) 120 ((σ.1 106 25)).toNatClampNeg (-1 : Int32)) 122 ((σ.1 106 25)).toNatClampNeg (-1 : Int32))) (by decide +kernel) rfl (fun hC => ?_)
  obtain ⟨hi, h⟩ := jx_ite0_inv h
  refine jE_iast (n := 3000) hC (by decide) rfl hi ?_
  refine jE_blk (bs := [(.aload_n 0, 0, 0), (.getfield 68, 12, 24), (.iload 6, 0, 0), (.iconst (0), 0, 0)]) (i := .bastore) (a1 := 0) (a2 := 0) (pc1 := 103) (l1 := [(6, .int (σ.1 106 25)), (0, .ref 106), (1, .int x1), (2, .int x2), (3, .int x3), (4, .int x4), (5, .int x5)]) (st1 := [.int (0 : Int32), .int (σ.1 106 25), .ref 125]) (σ1 := (jx_i (jx_i (jx_i (jx_i (jx_i (jx_i (jx_i (jx_i (jx_i (jx_i (jx_i σ 112 ((σ.1 106 25)).toNatClampNeg x1) 113 ((σ.1 106 25)).toNatClampNeg x2) 114 ((σ.1 106 25)).toNatClampNeg x3) 115 ((σ.1 106 25)).toNatClampNeg x4) 116 ((σ.1 106 25)).toNatClampNeg x5) 117 ((σ.1 106 25)).toNatClampNeg (-1 : Int32)) 118 ((σ.1 106 25)).toNatClampNeg (-1 : Int32)) 119 ((σ.1 106 25)).toNatClampNeg (0 : Int32)) 120 ((σ.1 106 25)).toNatClampNeg (-1 : Int32)) 122 ((σ.1 106 25)).toNatClampNeg (-1 : Int32)) 123 ((σ.1 106 25)).toNatClampNeg (-1 : Int32))) (by decide +kernel) rfl (fun hC => ?_)
  obtain ⟨hi, h⟩ := jx_ite0_inv h
  refine jE_bast (n := 3000) hC (by decide) rfl hi (by decide) ?_
  refine jE_blk (bs := [(.aload_n 0, 0, 0), (.getfield 56, 12, 20), (.iload 6, 0, 0), (.iload_n 3, 0, 0)]) (i := .ifCond .lt (12)) (a1 := 0) (a2 := 0) (pc1 := 111) (l1 := [(6, .int (σ.1 106 25)), (0, .ref 106), (1, .int x1), (2, .int x2), (3, .int x3), (4, .int x4), (5, .int x5)]) (st1 := [.int x3, .int (σ.1 106 25), .ref 121]) (σ1 := (jx_i (jx_i (jx_i (jx_i (jx_i (jx_i (jx_i (jx_i (jx_i (jx_i (jx_i (jx_i σ 112 ((σ.1 106 25)).toNatClampNeg x1) 113 ((σ.1 106 25)).toNatClampNeg x2) 114 ((σ.1 106 25)).toNatClampNeg x3) 115 ((σ.1 106 25)).toNatClampNeg x4) 116 ((σ.1 106 25)).toNatClampNeg x5) 117 ((σ.1 106 25)).toNatClampNeg (-1 : Int32)) 118 ((σ.1 106 25)).toNatClampNeg (-1 : Int32)) 119 ((σ.1 106 25)).toNatClampNeg (0 : Int32)) 120 ((σ.1 106 25)).toNatClampNeg (-1 : Int32)) 122 ((σ.1 106 25)).toNatClampNeg (-1 : Int32)) 123 ((σ.1 106 25)).toNatClampNeg (-1 : Int32)) 125 ((σ.1 106 25)).toNatClampNeg (0 : Int32))) (by decide +kernel) rfl (fun hC => ?_)
  rcases Classical.em (x3 < 0) with hc | hc
  · rw [if_pos hc] at h
    refine jE_ifT 123 hC (by decide) hc ?_
    refine jE_blk (bs := [(.iload 6, 0, 0)]) (i := .iastore) (a1 := 0) (a2 := 0) (pc1 := 125) (l1 := [(6, .int (σ.1 106 25)), (0, .ref 106), (1, .int x1), (2, .int x2), (3, .int x3), (4, .int x4), (5, .int x5)]) (st1 := [.int (σ.1 106 25), .int (σ.1 106 25), .ref 121]) (σ1 := (jx_i (jx_i (jx_i (jx_i (jx_i (jx_i (jx_i (jx_i (jx_i (jx_i (jx_i (jx_i σ 112 ((σ.1 106 25)).toNatClampNeg x1) 113 ((σ.1 106 25)).toNatClampNeg x2) 114 ((σ.1 106 25)).toNatClampNeg x3) 115 ((σ.1 106 25)).toNatClampNeg x4) 116 ((σ.1 106 25)).toNatClampNeg x5) 117 ((σ.1 106 25)).toNatClampNeg (-1 : Int32)) 118 ((σ.1 106 25)).toNatClampNeg (-1 : Int32)) 119 ((σ.1 106 25)).toNatClampNeg (0 : Int32)) 120 ((σ.1 106 25)).toNatClampNeg (-1 : Int32)) 122 ((σ.1 106 25)).toNatClampNeg (-1 : Int32)) 123 ((σ.1 106 25)).toNatClampNeg (-1 : Int32)) 125 ((σ.1 106 25)).toNatClampNeg (0 : Int32))) (by decide +kernel) rfl (fun hC => ?_)
    exact jE_loc (l := [(0, .ref 106), (6, .int (σ.1 106 25))]) (ks := [0, 6]) rfl (by decide) ⟨rfl, rfl, trivial⟩ (x_r_node_125 d hd (σ.1 106 25) (σ.1 106 25) (σ.1 106 25) (jx_i (jx_i (jx_i (jx_i (jx_i (jx_i (jx_i (jx_i (jx_i (jx_i (jx_i (jx_i σ 112 ((σ.1 106 25)).toNatClampNeg x1) 113 ((σ.1 106 25)).toNatClampNeg x2) 114 ((σ.1 106 25)).toNatClampNeg x3) 115 ((σ.1 106 25)).toNatClampNeg x4) 116 ((σ.1 106 25)).toNatClampNeg x5) 117 ((σ.1 106 25)).toNatClampNeg (-1 : Int32)) 118 ((σ.1 106 25)).toNatClampNeg (-1 : Int32)) 119 ((σ.1 106 25)).toNatClampNeg (0 : Int32)) 120 ((σ.1 106 25)).toNatClampNeg (-1 : Int32)) 122 ((σ.1 106 25)).toNatClampNeg (-1 : Int32)) 123 ((σ.1 106 25)).toNatClampNeg (-1 : Int32)) 125 ((σ.1 106 25)).toNatClampNeg (0 : Int32)) _ res h hK)
  · rw [if_neg hc] at h
    refine jE_ifF 123 hC (by decide) hc ?_
    refine jE_blk (bs := [(.aload_n 0, 0, 0), (.getfield 56, 12, 20), (.iload_n 3, 0, 0)]) (i := .iaload) (a1 := 0) (a2 := 0) (pc1 := 119) (l1 := [(6, .int (σ.1 106 25)), (0, .ref 106), (1, .int x1), (2, .int x2), (3, .int x3), (4, .int x4), (5, .int x5)]) (st1 := [.int x3, .ref 121, .int (σ.1 106 25), .ref 121]) (σ1 := (jx_i (jx_i (jx_i (jx_i (jx_i (jx_i (jx_i (jx_i (jx_i (jx_i (jx_i (jx_i σ 112 ((σ.1 106 25)).toNatClampNeg x1) 113 ((σ.1 106 25)).toNatClampNeg x2) 114 ((σ.1 106 25)).toNatClampNeg x3) 115 ((σ.1 106 25)).toNatClampNeg x4) 116 ((σ.1 106 25)).toNatClampNeg x5) 117 ((σ.1 106 25)).toNatClampNeg (-1 : Int32)) 118 ((σ.1 106 25)).toNatClampNeg (-1 : Int32)) 119 ((σ.1 106 25)).toNatClampNeg (0 : Int32)) 120 ((σ.1 106 25)).toNatClampNeg (-1 : Int32)) 122 ((σ.1 106 25)).toNatClampNeg (-1 : Int32)) 123 ((σ.1 106 25)).toNatClampNeg (-1 : Int32)) 125 ((σ.1 106 25)).toNatClampNeg (0 : Int32))) (by decide +kernel) rfl (fun hC => ?_)
    obtain ⟨hi, h⟩ := jx_ite0_inv h
    refine jE_iald (n := 3000) hC (by decide) rfl hi ?_
    refine jE_blk (bs := [(.goto (5), 0, 0)]) (i := .iastore) (a1 := 0) (a2 := 0) (pc1 := 125) (l1 := [(6, .int (σ.1 106 25)), (0, .ref 106), (1, .int x1), (2, .int x2), (3, .int x3), (4, .int x4), (5, .int x5)]) (st1 := [.int ((σ.1 121) (x3).toNatClampNeg), .int (σ.1 106 25), .ref 121]) (σ1 := (jx_i (jx_i (jx_i (jx_i (jx_i (jx_i (jx_i (jx_i (jx_i (jx_i (jx_i (jx_i σ 112 ((σ.1 106 25)).toNatClampNeg x1) 113 ((σ.1 106 25)).toNatClampNeg x2) 114 ((σ.1 106 25)).toNatClampNeg x3) 115 ((σ.1 106 25)).toNatClampNeg x4) 116 ((σ.1 106 25)).toNatClampNeg x5) 117 ((σ.1 106 25)).toNatClampNeg (-1 : Int32)) 118 ((σ.1 106 25)).toNatClampNeg (-1 : Int32)) 119 ((σ.1 106 25)).toNatClampNeg (0 : Int32)) 120 ((σ.1 106 25)).toNatClampNeg (-1 : Int32)) 122 ((σ.1 106 25)).toNatClampNeg (-1 : Int32)) 123 ((σ.1 106 25)).toNatClampNeg (-1 : Int32)) 125 ((σ.1 106 25)).toNatClampNeg (0 : Int32))) (by decide +kernel) rfl (fun hC => ?_)
    exact jE_loc (l := [(0, .ref 106), (6, .int (σ.1 106 25))]) (ks := [0, 6]) rfl (by decide) ⟨rfl, rfl, trivial⟩ (x_r_node_125 d hd (σ.1 106 25) ((σ.1 121) (x3).toNatClampNeg) (σ.1 106 25) (jx_i (jx_i (jx_i (jx_i (jx_i (jx_i (jx_i (jx_i (jx_i (jx_i (jx_i (jx_i σ 112 ((σ.1 106 25)).toNatClampNeg x1) 113 ((σ.1 106 25)).toNatClampNeg x2) 114 ((σ.1 106 25)).toNatClampNeg x3) 115 ((σ.1 106 25)).toNatClampNeg x4) 116 ((σ.1 106 25)).toNatClampNeg x5) 117 ((σ.1 106 25)).toNatClampNeg (-1 : Int32)) 118 ((σ.1 106 25)).toNatClampNeg (-1 : Int32)) 119 ((σ.1 106 25)).toNatClampNeg (0 : Int32)) 120 ((σ.1 106 25)).toNatClampNeg (-1 : Int32)) 122 ((σ.1 106 25)).toNatClampNeg (-1 : Int32)) 123 ((σ.1 106 25)).toNatClampNeg (-1 : Int32)) 125 ((σ.1 106 25)).toNatClampNeg (0 : Int32)) _ res h hK)
def p_r_give (x1 : Int32) (σ : jx_S) : Option jx_S := (if (σ.1 106 47) < 0 ∨ 3000 ≤ ((σ.1 106 47)).toNatClampNeg then none else (some ((jx_i (jx_i σ 141 ((σ.1 106 47)).toNatClampNeg x1) 106 47 ((σ.1 106 47) + (1 : Int32))))))
theorem x_r_give (d : Nat) (hd : 0 ≤ d) (x1 : Int32) (σ : jx_S) (t : jx_S) (res : Option Value × jx_S) (h : p_r_give x1 σ = some t) (hK : kkV t res) : jE d 165 0 [(0, .ref 106), (1, .int x1)] [] σ res := by
  unfold p_r_give at h
  refine jE_blk (bs := [(.aload_n 0, 0, 0), (.getfield 117, 12, 46), (.aload_n 0, 0, 0), (.getfield 326, 12, 47), (.iload_n 1, 0, 0)]) (i := .iastore) (a1 := 0) (a2 := 0) (pc1 := 9) (l1 := [(0, .ref 106), (1, .int x1)]) (st1 := [.int x1, .int (σ.1 106 47), .ref 141]) (σ1 := σ) (by decide +kernel) rfl (fun hC => ?_)
  obtain ⟨hi, h⟩ := jx_ite0_inv h
  refine jE_iast (n := 3000) hC (by decide) rfl hi ?_
  refine jE_blk (bs := [(.aload_n 0, 0, 0), (.dup, 0, 0), (.getfield 326, 12, 47), (.iconst (1), 1, 0), (.iadd, 0, 0), (.putfield 326, 12, 47)]) (i := .return_) (a1 := 0) (a2 := 0) (pc1 := 20) (l1 := [(0, .ref 106), (1, .int x1)]) (st1 := []) (σ1 := (jx_i (jx_i σ 141 ((σ.1 106 47)).toNatClampNeg x1) 106 47 ((σ.1 106 47) + (1 : Int32)))) (by decide +kernel) rfl (fun hC => ?_)
  have h9 := Option.some.inj h
  subst h9
  have e9 : ((none, (jx_i (jx_i σ 141 ((σ.1 106 47)).toNatClampNeg x1) 106 47 ((σ.1 106 47) + (1 : Int32)))) : Option Value × jx_S) = res := hK
  subst e9
  exact jE_ret hC rfl
def p_r_expression_122 (x1 : Int32) (x2 : Int32) (x3 : Int32) (σ : jx_S) : Option jx_S := ((p_r_later (2 : Int32) x1 (x3 + ((100 : Int32) * x2)) σ).bind fun q12 => ((p_r_later (1 : Int32) (0 : Int32) (0 : Int32) q12).bind fun q13 => (some (q13))))
theorem x_r_expression_122 (d : Nat) (hd : 3 ≤ d) (x1 : Int32) (x2 : Int32) (x3 : Int32) (σ : jx_S) (t : jx_S) (res : Option Value × jx_S) (h : p_r_expression_122 x1 x2 x3 σ = some t) (hK : kkV t res) : jE d 166 122 [(0, .ref 106), (1, .int x1), (2, .int x2), (3, .int x3)] [] σ res := by
  unfold p_r_expression_122 at h
  refine jE_blk (bs := [(.aload_n 0, 0, 0), (.iconst (2), 2, 0), (.iload_n 1, 0, 0), (.iload_n 3, 0, 0), (.bipush (100), 100, 0), (.iload_n 2, 0, 0), (.imul, 0, 0), (.iadd, 0, 0)]) (i := .invokevirtual 342) (a1 := 162) (a2 := 0) (pc1 := 131) (l1 := [(0, .ref 106), (1, .int x1), (2, .int x2), (3, .int x3)]) (st1 := [.int (x3 + ((100 : Int32) * x2)), .int x1, .int (2 : Int32), .ref 106]) (σ1 := σ) (by decide +kernel) rfl (fun hC => ?_)
  obtain ⟨q12, hq, h⟩ := Option.bind_eq_some_iff.mp h
  refine jE_call (as := [.ref 106, .int (2 : Int32), .int x1, .int (x3 + ((100 : Int32) * x2))]) (pc1 := 134) (st1 := []) hC rfl (by decide) (by omega) (x_r_later (d - 1) (by omega) (2 : Int32) x1 (x3 + ((100 : Int32) * x2)) σ q12 (none, q12) hq rfl) ?_
  refine jE_blk (bs := [(.aload_n 0, 0, 0), (.iconst (1), 1, 0), (.iconst (0), 0, 0), (.iconst (0), 0, 0)]) (i := .invokevirtual 342) (a1 := 162) (a2 := 0) (pc1 := 138) (l1 := [(0, .ref 106), (1, .int x1), (2, .int x2), (3, .int x3)]) (st1 := [.int (0 : Int32), .int (0 : Int32), .int (1 : Int32), .ref 106]) (σ1 := q12) (by decide +kernel) rfl (fun hC => ?_)
  obtain ⟨q13, hq, h⟩ := Option.bind_eq_some_iff.mp h
  refine jE_call (as := [.ref 106, .int (1 : Int32), .int (0 : Int32), .int (0 : Int32)]) (pc1 := 141) (st1 := []) hC rfl (by decide) (by omega) (x_r_later (d - 1) (by omega) (1 : Int32) (0 : Int32) (0 : Int32) q12 q13 (none, q13) hq rfl) ?_
  refine jE_blk (bs := [(.goto (110), 0, 0)]) (i := .return_) (a1 := 0) (a2 := 0) (pc1 := 251) (l1 := [(0, .ref 106), (1, .int x1), (2, .int x2), (3, .int x3)]) (st1 := []) (σ1 := q13) (by decide +kernel) rfl (fun hC => ?_)
  have h9 := Option.some.inj h
  subst h9
  have e9 : ((none, q13) : Option Value × jx_S) = res := hK
  subst e9
  exact jE_ret hC rfl
def p_r_expression (σ : jx_S) : Option jx_S := (if ((σ.1 106 48) + (1 : Int32)) ≤ (30 : Int32) then (if (σ.1 106 40) < 0 ∨ 1202 ≤ ((σ.1 106 40)).toNatClampNeg then none else (if ¬ ((σ.1 108) ((σ.1 106 40)).toNatClampNeg) = (5 : Int32) then (if (σ.1 106 40) < 0 ∨ 1202 ≤ ((σ.1 106 40)).toNatClampNeg then none else (if ¬ ((σ.1 108) ((σ.1 106 40)).toNatClampNeg) = (7 : Int32) then (if (σ.1 106 40) < 0 ∨ 1202 ≤ ((σ.1 106 40)).toNatClampNeg then none else (if ¬ ((σ.1 108) ((σ.1 106 40)).toNatClampNeg) = (10 : Int32) then ((p_r_later (21 : Int32) (0 : Int32) (0 : Int32) (jx_i σ 106 48 ((σ.1 106 48) + (1 : Int32)))).bind fun q1 => ((p_r_later (18 : Int32) (0 : Int32) (0 : Int32) q1).bind fun q2 => ((p_r_later (10 : Int32) (0 : Int32) (0 : Int32) q2).bind fun q3 => (some (q3))))) else ((p_r_later (7 : Int32) (σ.1 106 40) (0 : Int32) (jx_i (jx_i σ 106 48 ((σ.1 106 48) + (1 : Int32))) 106 40 ((σ.1 106 40) + (1 : Int32)))).bind fun q4 => ((p_r_later (1 : Int32) (0 : Int32) (0 : Int32) q4).bind fun q5 => (some (q5)))))) else ((p_r_later (4 : Int32) (σ.1 106 40) (0 : Int32) (jx_i (jx_i σ 106 48 ((σ.1 106 48) + (1 : Int32))) 106 40 ((σ.1 106 40) + (1 : Int32)))).bind fun q6 => ((p_r_later (1 : Int32) (0 : Int32) (0 : Int32) q6).bind fun q7 => (some (q7)))))) else ((p_r_declare (0 : Int32) (jx_i (jx_i σ 106 48 ((σ.1 106 48) + (1 : Int32))) 106 40 ((σ.1 106 40) + (1 : Int32)))).bind fun q8 => ((p_r_expect (18 : Int32) q8.2).bind fun q9 => ((p_r_baseType q9).bind fun q10 => ((p_r_expect (19 : Int32) q10.2).bind fun q11 => (if (q11.1 106 41) = 0 then (p_r_expression_122 (σ.1 106 40) ((σ.1 106 40) + (1 : Int32)) q8.1 q11) else (if (((30 : Int32) * (q11.1 106 38)) + q8.1) < 0 ∨ 1200 ≤ ((((30 : Int32) * (q11.1 106 38)) + q8.1)).toNatClampNeg then none else (if (q11.1 106 38) < 0 ∨ 40 ≤ ((q11.1 106 38)).toNatClampNeg then none else (if (q11.1 106 38) < 0 ∨ 40 ≤ ((q11.1 106 38)).toNatClampNeg then none else (p_r_expression_122 (σ.1 106 40) ((σ.1 106 40) + (1 : Int32)) q8.1 (jx_i (jx_i q11 137 ((((30 : Int32) * (q11.1 106 38)) + q8.1)).toNatClampNeg q10.1) 130 ((q11.1 106 38)).toNatClampNeg (((q11.1 130) ((q11.1 106 38)).toNatClampNeg) + (1 : Int32)))))))))))))) else ((p_r_stop (3 : Int32) (σ.1 106 40) (jx_i σ 106 48 ((σ.1 106 48) + (1 : Int32)))).bind fun q14 => (some (q14))))
theorem x_r_expression (d : Nat) (hd : 3 ≤ d) (σ : jx_S) (t : jx_S) (res : Option Value × jx_S) (h : p_r_expression σ = some t) (hK : kkV t res) : jE d 166 0 [(0, .ref 106)] [] σ res := by
  unfold p_r_expression at h
  refine jE_blk (bs := [(.aload_n 0, 0, 0), (.dup, 0, 0), (.getfield 332, 12, 48), (.iconst (1), 1, 0), (.iadd, 0, 0), (.putfield 332, 12, 48), (.aload_n 0, 0, 0), (.getfield 332, 12, 48), (.bipush (30), 30, 0)]) (i := .if_icmp .le (13)) (a1 := 0) (a2 := 0) (pc1 := 16) (l1 := [(0, .ref 106)]) (st1 := [.int (30 : Int32), .int ((σ.1 106 48) + (1 : Int32))]) (σ1 := (jx_i σ 106 48 ((σ.1 106 48) + (1 : Int32)))) (by decide +kernel) rfl (fun hC => ?_)
  rcases Classical.em (((σ.1 106 48) + (1 : Int32)) ≤ (30 : Int32)) with hc | hc
  · rw [if_pos hc] at h
    refine jE_icT 29 hC (by decide) hc ?_
    refine jE_blk (bs := [(.aload_n 0, 0, 0), (.getfield 303, 12, 40), (.istore_n 1, 5, 0), (.aload_n 0, 0, 0), (.getfield 17, 12, 6), (.aload_n 0, 0, 0), (.getfield 303, 12, 40)]) (i := .iaload) (a1 := 0) (a2 := 0) (pc1 := 42) (l1 := [(1, .int (σ.1 106 40)), (0, .ref 106)]) (st1 := [.int (σ.1 106 40), .ref 108]) (σ1 := (jx_i σ 106 48 ((σ.1 106 48) + (1 : Int32)))) (by decide +kernel) rfl (fun hC => ?_)
    obtain ⟨hi, h⟩ := jx_ite0_inv h
    refine jE_iald (n := 1202) hC (by decide) rfl hi ?_
    refine jE_blk (bs := [(.iconst (5), 5, 0)]) (i := .if_icmp .ne (100)) (a1 := 0) (a2 := 0) (pc1 := 44) (l1 := [(1, .int (σ.1 106 40)), (0, .ref 106)]) (st1 := [.int (5 : Int32), .int ((σ.1 108) ((σ.1 106 40)).toNatClampNeg)]) (σ1 := (jx_i σ 106 48 ((σ.1 106 48) + (1 : Int32)))) (by decide +kernel) rfl (fun hC => ?_)
    rcases Classical.em (¬ ((σ.1 108) ((σ.1 106 40)).toNatClampNeg) = (5 : Int32)) with hc | hc
    · rw [if_pos hc] at h
      refine jE_icT 144 hC (by decide) hc ?_
      refine jE_blk (bs := [(.aload_n 0, 0, 0), (.getfield 17, 12, 6), (.aload_n 0, 0, 0), (.getfield 303, 12, 40)]) (i := .iaload) (a1 := 0) (a2 := 0) (pc1 := 152) (l1 := [(1, .int (σ.1 106 40)), (0, .ref 106)]) (st1 := [.int (σ.1 106 40), .ref 108]) (σ1 := (jx_i σ 106 48 ((σ.1 106 48) + (1 : Int32)))) (by decide +kernel) rfl (fun hC => ?_)
      obtain ⟨hi, h⟩ := jx_ite0_inv h
      refine jE_iald (n := 1202) hC (by decide) rfl hi ?_
      refine jE_blk (bs := [(.bipush (7), 7, 0)]) (i := .if_icmp .ne (30)) (a1 := 0) (a2 := 0) (pc1 := 155) (l1 := [(1, .int (σ.1 106 40)), (0, .ref 106)]) (st1 := [.int (7 : Int32), .int ((σ.1 108) ((σ.1 106 40)).toNatClampNeg)]) (σ1 := (jx_i σ 106 48 ((σ.1 106 48) + (1 : Int32)))) (by decide +kernel) rfl (fun hC => ?_)
      rcases Classical.em (¬ ((σ.1 108) ((σ.1 106 40)).toNatClampNeg) = (7 : Int32)) with hc | hc
      · rw [if_pos hc] at h
        refine jE_icT 185 hC (by decide) hc ?_
        refine jE_blk (bs := [(.aload_n 0, 0, 0), (.getfield 17, 12, 6), (.aload_n 0, 0, 0), (.getfield 303, 12, 40)]) (i := .iaload) (a1 := 0) (a2 := 0) (pc1 := 193) (l1 := [(1, .int (σ.1 106 40)), (0, .ref 106)]) (st1 := [.int (σ.1 106 40), .ref 108]) (σ1 := (jx_i σ 106 48 ((σ.1 106 48) + (1 : Int32)))) (by decide +kernel) rfl (fun hC => ?_)
        obtain ⟨hi, h⟩ := jx_ite0_inv h
        refine jE_iald (n := 1202) hC (by decide) rfl hi ?_
        refine jE_blk (bs := [(.bipush (10), 10, 0)]) (i := .if_icmp .ne (31)) (a1 := 0) (a2 := 0) (pc1 := 196) (l1 := [(1, .int (σ.1 106 40)), (0, .ref 106)]) (st1 := [.int (10 : Int32), .int ((σ.1 108) ((σ.1 106 40)).toNatClampNeg)]) (σ1 := (jx_i σ 106 48 ((σ.1 106 48) + (1 : Int32)))) (by decide +kernel) rfl (fun hC => ?_)
        rcases Classical.em (¬ ((σ.1 108) ((σ.1 106 40)).toNatClampNeg) = (10 : Int32)) with hc | hc
        · rw [if_pos hc] at h
          refine jE_icT 227 hC (by decide) hc ?_
          refine jE_blk (bs := [(.aload_n 0, 0, 0), (.bipush (21), 21, 0), (.iconst (0), 0, 0), (.iconst (0), 0, 0)]) (i := .invokevirtual 342) (a1 := 162) (a2 := 0) (pc1 := 232) (l1 := [(1, .int (σ.1 106 40)), (0, .ref 106)]) (st1 := [.int (0 : Int32), .int (0 : Int32), .int (21 : Int32), .ref 106]) (σ1 := (jx_i σ 106 48 ((σ.1 106 48) + (1 : Int32)))) (by decide +kernel) rfl (fun hC => ?_)
          obtain ⟨q1, hq, h⟩ := Option.bind_eq_some_iff.mp h
          refine jE_call (as := [.ref 106, .int (21 : Int32), .int (0 : Int32), .int (0 : Int32)]) (pc1 := 235) (st1 := []) hC rfl (by decide) (by omega) (x_r_later (d - 1) (by omega) (21 : Int32) (0 : Int32) (0 : Int32) (jx_i σ 106 48 ((σ.1 106 48) + (1 : Int32))) q1 (none, q1) hq rfl) ?_
          refine jE_blk (bs := [(.aload_n 0, 0, 0), (.bipush (18), 18, 0), (.iconst (0), 0, 0), (.iconst (0), 0, 0)]) (i := .invokevirtual 342) (a1 := 162) (a2 := 0) (pc1 := 240) (l1 := [(1, .int (σ.1 106 40)), (0, .ref 106)]) (st1 := [.int (0 : Int32), .int (0 : Int32), .int (18 : Int32), .ref 106]) (σ1 := q1) (by decide +kernel) rfl (fun hC => ?_)
          obtain ⟨q2, hq, h⟩ := Option.bind_eq_some_iff.mp h
          refine jE_call (as := [.ref 106, .int (18 : Int32), .int (0 : Int32), .int (0 : Int32)]) (pc1 := 243) (st1 := []) hC rfl (by decide) (by omega) (x_r_later (d - 1) (by omega) (18 : Int32) (0 : Int32) (0 : Int32) q1 q2 (none, q2) hq rfl) ?_
          refine jE_blk (bs := [(.aload_n 0, 0, 0), (.bipush (10), 10, 0), (.iconst (0), 0, 0), (.iconst (0), 0, 0)]) (i := .invokevirtual 342) (a1 := 162) (a2 := 0) (pc1 := 248) (l1 := [(1, .int (σ.1 106 40)), (0, .ref 106)]) (st1 := [.int (0 : Int32), .int (0 : Int32), .int (10 : Int32), .ref 106]) (σ1 := q2) (by decide +kernel) rfl (fun hC => ?_)
          obtain ⟨q3, hq, h⟩ := Option.bind_eq_some_iff.mp h
          refine jE_call (as := [.ref 106, .int (10 : Int32), .int (0 : Int32), .int (0 : Int32)]) (pc1 := 251) (st1 := []) hC rfl (by decide) (by omega) (x_r_later (d - 1) (by omega) (10 : Int32) (0 : Int32) (0 : Int32) q2 q3 (none, q3) hq rfl) ?_
          refine jE_blk (bs := []) (i := .return_) (a1 := 0) (a2 := 0) (pc1 := 251) (l1 := [(1, .int (σ.1 106 40)), (0, .ref 106)]) (st1 := []) (σ1 := q3) (by decide +kernel) rfl (fun hC => ?_)
          have h9 := Option.some.inj h
          subst h9
          have e9 : ((none, q3) : Option Value × jx_S) = res := hK
          subst e9
          exact jE_ret hC rfl
        · rw [if_neg hc] at h
          refine jE_icF 227 hC (by decide) hc ?_
          refine jE_blk (bs := [(.aload_n 0, 0, 0), (.dup, 0, 0), (.getfield 303, 12, 40), (.iconst (1), 1, 0), (.iadd, 0, 0), (.putfield 303, 12, 40), (.aload_n 0, 0, 0), (.bipush (7), 7, 0), (.iload_n 1, 0, 0), (.iconst (0), 0, 0)]) (i := .invokevirtual 342) (a1 := 162) (a2 := 0) (pc1 := 214) (l1 := [(1, .int (σ.1 106 40)), (0, .ref 106)]) (st1 := [.int (0 : Int32), .int (σ.1 106 40), .int (7 : Int32), .ref 106]) (σ1 := (jx_i (jx_i σ 106 48 ((σ.1 106 48) + (1 : Int32))) 106 40 ((σ.1 106 40) + (1 : Int32)))) (by decide +kernel) rfl (fun hC => ?_)
          obtain ⟨q4, hq, h⟩ := Option.bind_eq_some_iff.mp h
          refine jE_call (as := [.ref 106, .int (7 : Int32), .int (σ.1 106 40), .int (0 : Int32)]) (pc1 := 217) (st1 := []) hC rfl (by decide) (by omega) (x_r_later (d - 1) (by omega) (7 : Int32) (σ.1 106 40) (0 : Int32) (jx_i (jx_i σ 106 48 ((σ.1 106 48) + (1 : Int32))) 106 40 ((σ.1 106 40) + (1 : Int32))) q4 (none, q4) hq rfl) ?_
          refine jE_blk (bs := [(.aload_n 0, 0, 0), (.iconst (1), 1, 0), (.iconst (0), 0, 0), (.iconst (0), 0, 0)]) (i := .invokevirtual 342) (a1 := 162) (a2 := 0) (pc1 := 221) (l1 := [(1, .int (σ.1 106 40)), (0, .ref 106)]) (st1 := [.int (0 : Int32), .int (0 : Int32), .int (1 : Int32), .ref 106]) (σ1 := q4) (by decide +kernel) rfl (fun hC => ?_)
          obtain ⟨q5, hq, h⟩ := Option.bind_eq_some_iff.mp h
          refine jE_call (as := [.ref 106, .int (1 : Int32), .int (0 : Int32), .int (0 : Int32)]) (pc1 := 224) (st1 := []) hC rfl (by decide) (by omega) (x_r_later (d - 1) (by omega) (1 : Int32) (0 : Int32) (0 : Int32) q4 q5 (none, q5) hq rfl) ?_
          refine jE_blk (bs := [(.goto (27), 0, 0)]) (i := .return_) (a1 := 0) (a2 := 0) (pc1 := 251) (l1 := [(1, .int (σ.1 106 40)), (0, .ref 106)]) (st1 := []) (σ1 := q5) (by decide +kernel) rfl (fun hC => ?_)
          have h9 := Option.some.inj h
          subst h9
          have e9 : ((none, q5) : Option Value × jx_S) = res := hK
          subst e9
          exact jE_ret hC rfl
      · rw [if_neg hc] at h
        refine jE_icF 185 hC (by decide) hc ?_
        refine jE_blk (bs := [(.aload_n 0, 0, 0), (.dup, 0, 0), (.getfield 303, 12, 40), (.iconst (1), 1, 0), (.iadd, 0, 0), (.putfield 303, 12, 40), (.aload_n 0, 0, 0), (.iconst (4), 4, 0), (.iload_n 1, 0, 0), (.iconst (0), 0, 0)]) (i := .invokevirtual 342) (a1 := 162) (a2 := 0) (pc1 := 172) (l1 := [(1, .int (σ.1 106 40)), (0, .ref 106)]) (st1 := [.int (0 : Int32), .int (σ.1 106 40), .int (4 : Int32), .ref 106]) (σ1 := (jx_i (jx_i σ 106 48 ((σ.1 106 48) + (1 : Int32))) 106 40 ((σ.1 106 40) + (1 : Int32)))) (by decide +kernel) rfl (fun hC => ?_)
        obtain ⟨q6, hq, h⟩ := Option.bind_eq_some_iff.mp h
        refine jE_call (as := [.ref 106, .int (4 : Int32), .int (σ.1 106 40), .int (0 : Int32)]) (pc1 := 175) (st1 := []) hC rfl (by decide) (by omega) (x_r_later (d - 1) (by omega) (4 : Int32) (σ.1 106 40) (0 : Int32) (jx_i (jx_i σ 106 48 ((σ.1 106 48) + (1 : Int32))) 106 40 ((σ.1 106 40) + (1 : Int32))) q6 (none, q6) hq rfl) ?_
        refine jE_blk (bs := [(.aload_n 0, 0, 0), (.iconst (1), 1, 0), (.iconst (0), 0, 0), (.iconst (0), 0, 0)]) (i := .invokevirtual 342) (a1 := 162) (a2 := 0) (pc1 := 179) (l1 := [(1, .int (σ.1 106 40)), (0, .ref 106)]) (st1 := [.int (0 : Int32), .int (0 : Int32), .int (1 : Int32), .ref 106]) (σ1 := q6) (by decide +kernel) rfl (fun hC => ?_)
        obtain ⟨q7, hq, h⟩ := Option.bind_eq_some_iff.mp h
        refine jE_call (as := [.ref 106, .int (1 : Int32), .int (0 : Int32), .int (0 : Int32)]) (pc1 := 182) (st1 := []) hC rfl (by decide) (by omega) (x_r_later (d - 1) (by omega) (1 : Int32) (0 : Int32) (0 : Int32) q6 q7 (none, q7) hq rfl) ?_
        refine jE_blk (bs := [(.goto (69), 0, 0)]) (i := .return_) (a1 := 0) (a2 := 0) (pc1 := 251) (l1 := [(1, .int (σ.1 106 40)), (0, .ref 106)]) (st1 := []) (σ1 := q7) (by decide +kernel) rfl (fun hC => ?_)
        have h9 := Option.some.inj h
        subst h9
        have e9 : ((none, q7) : Option Value × jx_S) = res := hK
        subst e9
        exact jE_ret hC rfl
    · rw [if_neg hc] at h
      refine jE_icF 144 hC (by decide) hc ?_
      refine jE_blk (bs := [(.aload_n 0, 0, 0), (.dup, 0, 0), (.getfield 303, 12, 40), (.iconst (1), 1, 0), (.iadd, 0, 0), (.putfield 303, 12, 40), (.aload_n 0, 0, 0), (.getfield 303, 12, 40), (.istore_n 2, 5, 0), (.aload_n 0, 0, 0), (.iconst (0), 0, 0)]) (i := .invokevirtual 335) (a1 := 159) (a2 := 0) (pc1 := 64) (l1 := [(2, .int ((σ.1 106 40) + (1 : Int32))), (1, .int (σ.1 106 40)), (0, .ref 106)]) (st1 := [.int (0 : Int32), .ref 106]) (σ1 := (jx_i (jx_i σ 106 48 ((σ.1 106 48) + (1 : Int32))) 106 40 ((σ.1 106 40) + (1 : Int32)))) (by decide +kernel) rfl (fun hC => ?_)
      obtain ⟨q8, hq, h⟩ := Option.bind_eq_some_iff.mp h
      refine jE_call (as := [.ref 106, .int (0 : Int32)]) (pc1 := 67) (st1 := []) hC rfl (by decide) (by omega) (x_r_declare (d - 1) (by omega) (0 : Int32) (jx_i (jx_i σ 106 48 ((σ.1 106 48) + (1 : Int32))) 106 40 ((σ.1 106 40) + (1 : Int32))) q8 (some (.int q8.1), q8.2) hq rfl) ?_
      refine jE_blk (bs := [(.istore_n 3, 5, 0), (.aload_n 0, 0, 0), (.bipush (18), 18, 0)]) (i := .invokevirtual 338) (a1 := 156) (a2 := 0) (pc1 := 71) (l1 := [(3, .int q8.1), (2, .int ((σ.1 106 40) + (1 : Int32))), (1, .int (σ.1 106 40)), (0, .ref 106)]) (st1 := [.int (18 : Int32), .ref 106]) (σ1 := q8.2) (by decide +kernel) rfl (fun hC => ?_)
      obtain ⟨q9, hq, h⟩ := Option.bind_eq_some_iff.mp h
      refine jE_call (as := [.ref 106, .int (18 : Int32)]) (pc1 := 74) (st1 := []) hC rfl (by decide) (by omega) (x_r_expect (d - 1) (by omega) (18 : Int32) q8.2 q9 (none, q9) hq rfl) ?_
      refine jE_blk (bs := [(.aload_n 0, 0, 0)]) (i := .invokevirtual 310) (a1 := 157) (a2 := 0) (pc1 := 75) (l1 := [(3, .int q8.1), (2, .int ((σ.1 106 40) + (1 : Int32))), (1, .int (σ.1 106 40)), (0, .ref 106)]) (st1 := [.ref 106]) (σ1 := q9) (by decide +kernel) rfl (fun hC => ?_)
      obtain ⟨q10, hq, h⟩ := Option.bind_eq_some_iff.mp h
      refine jE_call (as := [.ref 106]) (pc1 := 78) (st1 := []) hC rfl (by decide) (by omega) (x_r_baseType (d - 1) (by omega) q9 q10 (some (.int q10.1), q10.2) hq rfl) ?_
      refine jE_blk (bs := [(.istore 4, 5, 0), (.aload_n 0, 0, 0), (.bipush (19), 19, 0)]) (i := .invokevirtual 338) (a1 := 156) (a2 := 0) (pc1 := 83) (l1 := [(4, .int q10.1), (3, .int q8.1), (2, .int ((σ.1 106 40) + (1 : Int32))), (1, .int (σ.1 106 40)), (0, .ref 106)]) (st1 := [.int (19 : Int32), .ref 106]) (σ1 := q10.2) (by decide +kernel) rfl (fun hC => ?_)
      obtain ⟨q11, hq, h⟩ := Option.bind_eq_some_iff.mp h
      refine jE_call (as := [.ref 106, .int (19 : Int32)]) (pc1 := 86) (st1 := []) hC rfl (by decide) (by omega) (x_r_expect (d - 1) (by omega) (19 : Int32) q10.2 q11 (none, q11) hq rfl) ?_
      refine jE_blk (bs := [(.aload_n 0, 0, 0), (.getfield 300, 12, 41)]) (i := .ifCond .eq (32)) (a1 := 0) (a2 := 0) (pc1 := 90) (l1 := [(4, .int q10.1), (3, .int q8.1), (2, .int ((σ.1 106 40) + (1 : Int32))), (1, .int (σ.1 106 40)), (0, .ref 106)]) (st1 := [.int (q11.1 106 41)]) (σ1 := q11) (by decide +kernel) rfl (fun hC => ?_)
      rcases Classical.em ((q11.1 106 41) = 0) with hc | hc
      · rw [if_pos hc] at h
        refine jE_ifT 122 hC (by decide) hc ?_
        exact jE_loc (l := [(0, .ref 106), (1, .int (σ.1 106 40)), (2, .int ((σ.1 106 40) + (1 : Int32))), (3, .int q8.1)]) (ks := [0, 1, 2, 3]) rfl (by decide) ⟨rfl, rfl, rfl, rfl, trivial⟩ (x_r_expression_122 d hd (σ.1 106 40) ((σ.1 106 40) + (1 : Int32)) q8.1 q11 _ res h hK)
      · rw [if_neg hc] at h
        refine jE_ifF 122 hC (by decide) hc ?_
        refine jE_blk (bs := [(.aload_n 0, 0, 0), (.getfield 105, 12, 37), (.bipush (30), 30, 0), (.aload_n 0, 0, 0), (.getfield 219, 12, 38), (.imul, 0, 0), (.iload_n 3, 0, 0), (.iadd, 0, 0), (.iload 4, 0, 0)]) (i := .iastore) (a1 := 0) (a2 := 0) (pc1 := 108) (l1 := [(4, .int q10.1), (3, .int q8.1), (2, .int ((σ.1 106 40) + (1 : Int32))), (1, .int (σ.1 106 40)), (0, .ref 106)]) (st1 := [.int q10.1, .int (((30 : Int32) * (q11.1 106 38)) + q8.1), .ref 137]) (σ1 := q11) (by decide +kernel) rfl (fun hC => ?_)
        obtain ⟨hi, h⟩ := jx_ite0_inv h
        refine jE_iast (n := 1200) hC (by decide) rfl hi ?_
        refine jE_blk (bs := [(.aload_n 0, 0, 0), (.getfield 84, 12, 30), (.aload_n 0, 0, 0), (.getfield 219, 12, 38), (.dup2, 0, 0)]) (i := .iaload) (a1 := 0) (a2 := 0) (pc1 := 118) (l1 := [(4, .int q10.1), (3, .int q8.1), (2, .int ((σ.1 106 40) + (1 : Int32))), (1, .int (σ.1 106 40)), (0, .ref 106)]) (st1 := [.int (q11.1 106 38), .ref 130, .int (q11.1 106 38), .ref 130]) (σ1 := (jx_i q11 137 ((((30 : Int32) * (q11.1 106 38)) + q8.1)).toNatClampNeg q10.1)) (by decide +kernel) rfl (fun hC => ?_)
        obtain ⟨hi, h⟩ := jx_ite0_inv h
        refine jE_iald (n := 40) hC (by decide) rfl hi ?_
        refine jE_blk (bs := [(.iconst (1), 1, 0), (.iadd, 0, 0)]) (i := .iastore) (a1 := 0) (a2 := 0) (pc1 := 121) (l1 := [(4, .int q10.1), (3, .int q8.1), (2, .int ((σ.1 106 40) + (1 : Int32))), (1, .int (σ.1 106 40)), (0, .ref 106)]) (st1 := [.int (((q11.1 130) ((q11.1 106 38)).toNatClampNeg) + (1 : Int32)), .int (q11.1 106 38), .ref 130]) (σ1 := (jx_i q11 137 ((((30 : Int32) * (q11.1 106 38)) + q8.1)).toNatClampNeg q10.1)) (by decide +kernel) rfl (fun hC => ?_)
        obtain ⟨hi, h⟩ := jx_ite0_inv h
        refine jE_iast (n := 40) hC (by decide) rfl hi ?_
        exact jE_loc (l := [(0, .ref 106), (1, .int (σ.1 106 40)), (2, .int ((σ.1 106 40) + (1 : Int32))), (3, .int q8.1)]) (ks := [0, 1, 2, 3]) rfl (by decide) ⟨rfl, rfl, rfl, rfl, trivial⟩ (x_r_expression_122 d hd (σ.1 106 40) ((σ.1 106 40) + (1 : Int32)) q8.1 (jx_i (jx_i q11 137 ((((30 : Int32) * (q11.1 106 38)) + q8.1)).toNatClampNeg q10.1) 130 ((q11.1 106 38)).toNatClampNeg (((q11.1 130) ((q11.1 106 38)).toNatClampNeg) + (1 : Int32))) _ res h hK)
  · rw [if_neg hc] at h
    refine jE_icF 29 hC (by decide) hc ?_
    refine jE_blk (bs := [(.aload_n 0, 0, 0), (.iconst (3), 3, 0), (.aload_n 0, 0, 0), (.getfield 303, 12, 40)]) (i := .invokevirtual 306) (a1 := 155) (a2 := 0) (pc1 := 25) (l1 := [(0, .ref 106)]) (st1 := [.int (σ.1 106 40), .int (3 : Int32), .ref 106]) (σ1 := (jx_i σ 106 48 ((σ.1 106 48) + (1 : Int32)))) (by decide +kernel) rfl (fun hC => ?_)
    obtain ⟨q14, hq, h⟩ := Option.bind_eq_some_iff.mp h
    refine jE_call (as := [.ref 106, .int (3 : Int32), .int (σ.1 106 40)]) (pc1 := 28) (st1 := []) hC rfl (by decide) (by omega) (x_r_stop (d - 1) (by omega) (3 : Int32) (σ.1 106 40) (jx_i σ 106 48 ((σ.1 106 48) + (1 : Int32))) q14 (none, q14) hq rfl) ?_
    refine jE_blk (bs := []) (i := .return_) (a1 := 0) (a2 := 0) (pc1 := 28) (l1 := [(0, .ref 106)]) (st1 := []) (σ1 := q14) (by decide +kernel) rfl (fun hC => ?_)
    have h9 := Option.some.inj h
    subst h9
    have e9 : ((none, q14) : Option Value × jx_S) = res := hK
    subst e9
    exact jE_ret hC rfl
def p_r_bar (x1 : Int32) (σ : jx_S) : Option jx_S := ((p_r_expect (22 : Int32) σ).bind fun q1 => ((p_r_declare (0 : Int32) q1).bind fun q2 => ((p_r_expect (18 : Int32) q2.2).bind fun q3 => ((p_r_declare (1 : Int32) q3).bind fun q4 => ((p_r_expect (21 : Int32) q4.2).bind fun q5 => ((p_r_enter q2.1 (q1.1 106 40) q5).bind fun q6 => ((p_r_enter q4.1 (q3.1 106 40) q6).bind fun q7 => ((p_r_later (9 : Int32) x1 q2.1 q7).bind fun q8 => ((p_r_later (1 : Int32) (0 : Int32) (0 : Int32) q8).bind fun q9 => (some (q9)))))))))))
theorem x_r_bar (d : Nat) (hd : 3 ≤ d) (x1 : Int32) (σ : jx_S) (t : jx_S) (res : Option Value × jx_S) (h : p_r_bar x1 σ = some t) (hK : kkV t res) : jE d 168 0 [(0, .ref 106), (1, .int x1)] [] σ res := by
  unfold p_r_bar at h
  refine jE_blk (bs := [(.aload_n 0, 0, 0), (.bipush (22), 22, 0)]) (i := .invokevirtual 338) (a1 := 156) (a2 := 0) (pc1 := 3) (l1 := [(0, .ref 106), (1, .int x1)]) (st1 := [.int (22 : Int32), .ref 106]) (σ1 := σ) (by decide +kernel) rfl (fun hC => ?_)
  obtain ⟨q1, hq, h⟩ := Option.bind_eq_some_iff.mp h
  refine jE_call (as := [.ref 106, .int (22 : Int32)]) (pc1 := 6) (st1 := []) hC rfl (by decide) (by omega) (x_r_expect (d - 1) (by omega) (22 : Int32) σ q1 (none, q1) hq rfl) ?_
  refine jE_blk (bs := [(.aload_n 0, 0, 0), (.getfield 303, 12, 40), (.istore_n 2, 6, 0), (.aload_n 0, 0, 0), (.iconst (0), 0, 0)]) (i := .invokevirtual 335) (a1 := 159) (a2 := 0) (pc1 := 13) (l1 := [(2, .int (q1.1 106 40)), (0, .ref 106), (1, .int x1)]) (st1 := [.int (0 : Int32), .ref 106]) (σ1 := q1) (by decide +kernel) rfl (fun hC => ?_)
  obtain ⟨q2, hq, h⟩ := Option.bind_eq_some_iff.mp h
  refine jE_call (as := [.ref 106, .int (0 : Int32)]) (pc1 := 16) (st1 := []) hC rfl (by decide) (by omega) (x_r_declare (d - 1) (by omega) (0 : Int32) q1 q2 (some (.int q2.1), q2.2) hq rfl) ?_
  refine jE_blk (bs := [(.istore_n 3, 6, 0), (.aload_n 0, 0, 0), (.bipush (18), 18, 0)]) (i := .invokevirtual 338) (a1 := 156) (a2 := 0) (pc1 := 20) (l1 := [(3, .int q2.1), (2, .int (q1.1 106 40)), (0, .ref 106), (1, .int x1)]) (st1 := [.int (18 : Int32), .ref 106]) (σ1 := q2.2) (by decide +kernel) rfl (fun hC => ?_)
  obtain ⟨q3, hq, h⟩ := Option.bind_eq_some_iff.mp h
  refine jE_call (as := [.ref 106, .int (18 : Int32)]) (pc1 := 23) (st1 := []) hC rfl (by decide) (by omega) (x_r_expect (d - 1) (by omega) (18 : Int32) q2.2 q3 (none, q3) hq rfl) ?_
  refine jE_blk (bs := [(.aload_n 0, 0, 0), (.getfield 303, 12, 40), (.istore 4, 6, 0), (.aload_n 0, 0, 0), (.iconst (1), 1, 0)]) (i := .invokevirtual 335) (a1 := 159) (a2 := 0) (pc1 := 31) (l1 := [(4, .int (q3.1 106 40)), (3, .int q2.1), (2, .int (q1.1 106 40)), (0, .ref 106), (1, .int x1)]) (st1 := [.int (1 : Int32), .ref 106]) (σ1 := q3) (by decide +kernel) rfl (fun hC => ?_)
  obtain ⟨q4, hq, h⟩ := Option.bind_eq_some_iff.mp h
  refine jE_call (as := [.ref 106, .int (1 : Int32)]) (pc1 := 34) (st1 := []) hC rfl (by decide) (by omega) (x_r_declare (d - 1) (by omega) (1 : Int32) q3 q4 (some (.int q4.1), q4.2) hq rfl) ?_
  refine jE_blk (bs := [(.istore 5, 6, 0), (.aload_n 0, 0, 0), (.bipush (21), 21, 0)]) (i := .invokevirtual 338) (a1 := 156) (a2 := 0) (pc1 := 39) (l1 := [(5, .int q4.1), (4, .int (q3.1 106 40)), (3, .int q2.1), (2, .int (q1.1 106 40)), (0, .ref 106), (1, .int x1)]) (st1 := [.int (21 : Int32), .ref 106]) (σ1 := q4.2) (by decide +kernel) rfl (fun hC => ?_)
  obtain ⟨q5, hq, h⟩ := Option.bind_eq_some_iff.mp h
  refine jE_call (as := [.ref 106, .int (21 : Int32)]) (pc1 := 42) (st1 := []) hC rfl (by decide) (by omega) (x_r_expect (d - 1) (by omega) (21 : Int32) q4.2 q5 (none, q5) hq rfl) ?_
  refine jE_blk (bs := [(.aload_n 0, 0, 0), (.iload_n 3, 0, 0), (.iload_n 2, 0, 0)]) (i := .invokevirtual 349) (a1 := 160) (a2 := 0) (pc1 := 45) (l1 := [(5, .int q4.1), (4, .int (q3.1 106 40)), (3, .int q2.1), (2, .int (q1.1 106 40)), (0, .ref 106), (1, .int x1)]) (st1 := [.int (q1.1 106 40), .int q2.1, .ref 106]) (σ1 := q5) (by decide +kernel) rfl (fun hC => ?_)
  obtain ⟨q6, hq, h⟩ := Option.bind_eq_some_iff.mp h
  refine jE_call (as := [.ref 106, .int q2.1, .int (q1.1 106 40)]) (pc1 := 48) (st1 := []) hC rfl (by decide) (by omega) (x_r_enter (d - 1) (by omega) q2.1 (q1.1 106 40) q5 q6 (none, q6) hq rfl) ?_
  refine jE_blk (bs := [(.aload_n 0, 0, 0), (.iload 5, 0, 0), (.iload 4, 0, 0)]) (i := .invokevirtual 349) (a1 := 160) (a2 := 0) (pc1 := 53) (l1 := [(5, .int q4.1), (4, .int (q3.1 106 40)), (3, .int q2.1), (2, .int (q1.1 106 40)), (0, .ref 106), (1, .int x1)]) (st1 := [.int (q3.1 106 40), .int q4.1, .ref 106]) (σ1 := q6) (by decide +kernel) rfl (fun hC => ?_)
  obtain ⟨q7, hq, h⟩ := Option.bind_eq_some_iff.mp h
  refine jE_call (as := [.ref 106, .int q4.1, .int (q3.1 106 40)]) (pc1 := 56) (st1 := []) hC rfl (by decide) (by omega) (x_r_enter (d - 1) (by omega) q4.1 (q3.1 106 40) q6 q7 (none, q7) hq rfl) ?_
  refine jE_blk (bs := [(.aload_n 0, 0, 0), (.bipush (9), 9, 0), (.iload_n 1, 0, 0), (.iload_n 3, 0, 0)]) (i := .invokevirtual 342) (a1 := 162) (a2 := 0) (pc1 := 61) (l1 := [(5, .int q4.1), (4, .int (q3.1 106 40)), (3, .int q2.1), (2, .int (q1.1 106 40)), (0, .ref 106), (1, .int x1)]) (st1 := [.int q2.1, .int x1, .int (9 : Int32), .ref 106]) (σ1 := q7) (by decide +kernel) rfl (fun hC => ?_)
  obtain ⟨q8, hq, h⟩ := Option.bind_eq_some_iff.mp h
  refine jE_call (as := [.ref 106, .int (9 : Int32), .int x1, .int q2.1]) (pc1 := 64) (st1 := []) hC rfl (by decide) (by omega) (x_r_later (d - 1) (by omega) (9 : Int32) x1 q2.1 q7 q8 (none, q8) hq rfl) ?_
  refine jE_blk (bs := [(.aload_n 0, 0, 0), (.iconst (1), 1, 0), (.iconst (0), 0, 0), (.iconst (0), 0, 0)]) (i := .invokevirtual 342) (a1 := 162) (a2 := 0) (pc1 := 68) (l1 := [(5, .int q4.1), (4, .int (q3.1 106 40)), (3, .int q2.1), (2, .int (q1.1 106 40)), (0, .ref 106), (1, .int x1)]) (st1 := [.int (0 : Int32), .int (0 : Int32), .int (1 : Int32), .ref 106]) (σ1 := q8) (by decide +kernel) rfl (fun hC => ?_)
  obtain ⟨q9, hq, h⟩ := Option.bind_eq_some_iff.mp h
  refine jE_call (as := [.ref 106, .int (1 : Int32), .int (0 : Int32), .int (0 : Int32)]) (pc1 := 71) (st1 := []) hC rfl (by decide) (by omega) (x_r_later (d - 1) (by omega) (1 : Int32) (0 : Int32) (0 : Int32) q8 q9 (none, q9) hq rfl) ?_
  refine jE_blk (bs := []) (i := .return_) (a1 := 0) (a2 := 0) (pc1 := 71) (l1 := [(5, .int q4.1), (4, .int (q3.1 106 40)), (3, .int q2.1), (2, .int (q1.1 106 40)), (0, .ref 106), (1, .int x1)]) (st1 := []) (σ1 := q9) (by decide +kernel) rfl (fun hC => ?_)
  have h9 := Option.some.inj h
  subst h9
  have e9 : ((none, q9) : Option Value × jx_S) = res := hK
  subst e9
  exact jE_ret hC rfl
def kk_r_nameNode_23 (d : Nat) (t : ((Int32 × Int32 × Int32 × Int32 × jx_S) ⊕ (Int32 × jx_S))) (res : Option Value × jx_S) : Prop := match t with
  | .inl s => jE d 170 23 [(0, .ref 106), (1, .int s.1), (2, .int s.2.1), (3, .int s.2.2.1), (4, .int s.2.2.2.1)] [] s.2.2.2.2 res
  | .inr t => kkI t res
def p_r_nameNode_23_s (x1 : Int32) (x2 : Int32) (x3 : Int32) (x4 : Int32) (σ : jx_S) : Option ((Int32 × Int32 × Int32 × Int32 × jx_S) ⊕ (Int32 × jx_S)) := (if x2 ≤ (x4 + (1 : Int32)) then (Option.map Sum.inr ((p_r_node (1 : Int32) x1 x3 (-1 : Int32) (-1 : Int32) (jx_i σ 106 47 ((σ.1 106 47) - x2))).bind fun q1 => (if q1.1 < 0 ∨ 3000 ≤ (q1.1).toNatClampNeg then none else ((p_r_localNamed x1 (jx_i q1.2 119 (q1.1).toNatClampNeg x2)).bind fun q2 => (if q1.1 < 0 ∨ 3000 ≤ (q1.1).toNatClampNeg then none else (some ((q1.1, (jx_i q2.2 117 (q1.1).toNatClampNeg q2.1))))))))) else (if (((σ.1 106 47) - x2) + x4) < 0 ∨ 3000 ≤ ((((σ.1 106 47) - x2) + x4)).toNatClampNeg then none else (if ((((σ.1 106 47) - x2) + x4) + (1 : Int32)) < 0 ∨ 3000 ≤ (((((σ.1 106 47) - x2) + x4) + (1 : Int32))).toNatClampNeg then none else (if ((σ.1 141) ((((σ.1 106 47) - x2) + x4)).toNatClampNeg) < 0 ∨ 3000 ≤ (((σ.1 141) ((((σ.1 106 47) - x2) + x4)).toNatClampNeg)).toNatClampNeg then none else (some (.inl (x1, x2, x3, (x4 + 1), (jx_i σ 120 (((σ.1 141) ((((σ.1 106 47) - x2) + x4)).toNatClampNeg)).toNatClampNeg ((σ.1 141) (((((σ.1 106 47) - x2) + x4) + (1 : Int32))).toNatClampNeg)))))))))
theorem x_r_nameNode_23_s (d : Nat) (hd : 2 ≤ d) (x1 : Int32) (x2 : Int32) (x3 : Int32) (x4 : Int32) (σ : jx_S) (t : ((Int32 × Int32 × Int32 × Int32 × jx_S) ⊕ (Int32 × jx_S))) (res : Option Value × jx_S) (h : p_r_nameNode_23_s x1 x2 x3 x4 σ = some t) (hK : kk_r_nameNode_23 d t res) : jE d 170 23 [(0, .ref 106), (1, .int x1), (2, .int x2), (3, .int x3), (4, .int x4)] [] σ res := by
  unfold p_r_nameNode_23_s at h
  refine jE_blk (bs := [(.iload 4, 0, 0), (.iconst (1), 1, 0), (.iadd, 0, 0), (.iload_n 2, 0, 0)]) (i := .if_icmp .ge (44)) (a1 := 0) (a2 := 0) (pc1 := 28) (l1 := [(0, .ref 106), (1, .int x1), (2, .int x2), (3, .int x3), (4, .int x4)]) (st1 := [.int x2, .int (x4 + (1 : Int32))]) (σ1 := σ) (by decide +kernel) rfl (fun hC => ?_)
  rcases Classical.em (x2 ≤ (x4 + (1 : Int32))) with hc | hc
  · rw [if_pos hc] at h
    refine jE_icT 72 hC (by decide) hc ?_
    obtain ⟨t9_3, h9_3, h8_3⟩ := Option.map_eq_some_iff.mp h
    clear h
    subst h8_3
    have h := h9_3
    clear h9_3
    refine jE_blk (bs := [(.aload_n 0, 0, 0), (.dup, 0, 0), (.getfield 326, 12, 47), (.iload_n 2, 0, 0), (.isub, 0, 0), (.putfield 326, 12, 47), (.aload_n 0, 0, 0), (.iconst (1), 1, 0), (.iload_n 1, 0, 0), (.iload_n 3, 0, 0), (.iconst (-1), 1, 1), (.iconst (-1), 1, 1)]) (i := .invokevirtual 355) (a1 := 164) (a2 := 0) (pc1 := 88) (l1 := [(0, .ref 106), (1, .int x1), (2, .int x2), (3, .int x3), (4, .int x4)]) (st1 := [.int (-1 : Int32), .int (-1 : Int32), .int x3, .int x1, .int (1 : Int32), .ref 106]) (σ1 := (jx_i σ 106 47 ((σ.1 106 47) - x2))) (by decide +kernel) rfl (fun hC => ?_)
    obtain ⟨q1, hq, h⟩ := Option.bind_eq_some_iff.mp h
    refine jE_call (as := [.ref 106, .int (1 : Int32), .int x1, .int x3, .int (-1 : Int32), .int (-1 : Int32)]) (pc1 := 91) (st1 := []) hC rfl (by decide) (by omega) (x_r_node (d - 1) (by omega) (1 : Int32) x1 x3 (-1 : Int32) (-1 : Int32) (jx_i σ 106 47 ((σ.1 106 47) - x2)) q1 (some (.int q1.1), q1.2) hq rfl) ?_
    refine jE_blk (bs := [(.istore 4, 5, 0), (.aload_n 0, 0, 0), (.getfield 50, 12, 18), (.iload 4, 0, 0), (.iload_n 2, 0, 0)]) (i := .iastore) (a1 := 0) (a2 := 0) (pc1 := 100) (l1 := [(4, .int q1.1), (0, .ref 106), (1, .int x1), (2, .int x2), (3, .int x3)]) (st1 := [.int x2, .int q1.1, .ref 119]) (σ1 := q1.2) (by decide +kernel) rfl (fun hC => ?_)
    obtain ⟨hi, h⟩ := jx_ite0_inv h
    refine jE_iast (n := 3000) hC (by decide) rfl hi ?_
    refine jE_blk (bs := [(.aload_n 0, 0, 0), (.getfield 44, 12, 16), (.iload 4, 0, 0), (.aload_n 0, 0, 0), (.iload_n 1, 0, 0)]) (i := .invokevirtual 374) (a1 := 161) (a2 := 0) (pc1 := 109) (l1 := [(4, .int q1.1), (0, .ref 106), (1, .int x1), (2, .int x2), (3, .int x3)]) (st1 := [.int x1, .ref 106, .int q1.1, .ref 117]) (σ1 := (jx_i q1.2 119 (q1.1).toNatClampNeg x2)) (by decide +kernel) rfl (fun hC => ?_)
    obtain ⟨q2, hq, h⟩ := Option.bind_eq_some_iff.mp h
    refine jE_call (as := [.ref 106, .int x1]) (pc1 := 112) (st1 := [.int q1.1, .ref 117]) hC rfl (by decide) (by omega) (x_r_localNamed (d - 1) (by omega) x1 (jx_i q1.2 119 (q1.1).toNatClampNeg x2) q2 (some (.int q2.1), q2.2) hq rfl) ?_
    refine jE_blk (bs := []) (i := .iastore) (a1 := 0) (a2 := 0) (pc1 := 112) (l1 := [(4, .int q1.1), (0, .ref 106), (1, .int x1), (2, .int x2), (3, .int x3)]) (st1 := [.int q2.1, .int q1.1, .ref 117]) (σ1 := q2.2) (by decide +kernel) rfl (fun hC => ?_)
    obtain ⟨hi, h⟩ := jx_ite0_inv h
    refine jE_iast (n := 3000) hC (by decide) rfl hi ?_
    refine jE_blk (bs := [(.iload 4, 0, 0)]) (i := .ireturn) (a1 := 0) (a2 := 0) (pc1 := 115) (l1 := [(4, .int q1.1), (0, .ref 106), (1, .int x1), (2, .int x2), (3, .int x3)]) (st1 := [.int q1.1]) (σ1 := (jx_i q2.2 117 (q1.1).toNatClampNeg q2.1)) (by decide +kernel) rfl (fun hC => ?_)
    have h9 := Option.some.inj h
    subst h9
    have e9 : ((some (.int q1.1), (jx_i q2.2 117 (q1.1).toNatClampNeg q2.1)) : Option Value × jx_S) = res := hK
    subst e9
    exact jE_ret hC rfl
  · rw [if_neg hc] at h
    refine jE_icF 72 hC (by decide) hc ?_
    refine jE_blk (bs := [(.aload_n 0, 0, 0), (.getfield 53, 12, 19), (.aload_n 0, 0, 0), (.getfield 117, 12, 46), (.aload_n 0, 0, 0), (.getfield 326, 12, 47), (.iload_n 2, 0, 0), (.isub, 0, 0), (.iload 4, 0, 0), (.iadd, 0, 0)]) (i := .iaload) (a1 := 0) (a2 := 0) (pc1 := 48) (l1 := [(0, .ref 106), (1, .int x1), (2, .int x2), (3, .int x3), (4, .int x4)]) (st1 := [.int (((σ.1 106 47) - x2) + x4), .ref 141, .ref 120]) (σ1 := σ) (by decide +kernel) rfl (fun hC => ?_)
    obtain ⟨hi, h⟩ := jx_ite0_inv h
    refine jE_iald (n := 3000) hC (by decide) rfl hi ?_
    refine jE_blk (bs := [(.aload_n 0, 0, 0), (.getfield 117, 12, 46), (.aload_n 0, 0, 0), (.getfield 326, 12, 47), (.iload_n 2, 0, 0), (.isub, 0, 0), (.iload 4, 0, 0), (.iadd, 0, 0), (.iconst (1), 1, 0), (.iadd, 0, 0)]) (i := .iaload) (a1 := 0) (a2 := 0) (pc1 := 64) (l1 := [(0, .ref 106), (1, .int x1), (2, .int x2), (3, .int x3), (4, .int x4)]) (st1 := [.int ((((σ.1 106 47) - x2) + x4) + (1 : Int32)), .ref 141, .int ((σ.1 141) ((((σ.1 106 47) - x2) + x4)).toNatClampNeg), .ref 120]) (σ1 := σ) (by decide +kernel) rfl (fun hC => ?_)
    obtain ⟨hi, h⟩ := jx_ite0_inv h
    refine jE_iald (n := 3000) hC (by decide) rfl hi ?_
    refine jE_blk (bs := []) (i := .iastore) (a1 := 0) (a2 := 0) (pc1 := 65) (l1 := [(0, .ref 106), (1, .int x1), (2, .int x2), (3, .int x3), (4, .int x4)]) (st1 := [.int ((σ.1 141) (((((σ.1 106 47) - x2) + x4) + (1 : Int32))).toNatClampNeg), .int ((σ.1 141) ((((σ.1 106 47) - x2) + x4)).toNatClampNeg), .ref 120]) (σ1 := σ) (by decide +kernel) rfl (fun hC => ?_)
    obtain ⟨hi, h⟩ := jx_ite0_inv h
    refine jE_iast (n := 3000) hC (by decide) rfl hi ?_
    refine jE_blk (bs := [(.iinc 4 (1), 5, 2), (.goto (-46), 0, 0)]) (i := .iload 4) (a1 := 0) (a2 := 0) (pc1 := 23) (l1 := [(4, .int (x4 + 1)), (0, .ref 106), (1, .int x1), (2, .int x2), (3, .int x3)]) (st1 := []) (σ1 := (jx_i σ 120 (((σ.1 141) ((((σ.1 106 47) - x2) + x4)).toNatClampNeg)).toNatClampNeg ((σ.1 141) (((((σ.1 106 47) - x2) + x4) + (1 : Int32))).toNatClampNeg))) (by decide +kernel) rfl (fun hC => ?_)
    have h9 := Option.some.inj h
    subst h9
    exact jE_loc (l := [(0, .ref 106), (1, .int x1), (2, .int x2), (3, .int x3), (4, .int (x4 + 1))]) (ks := [0, 1, 2, 3, 4]) rfl (by decide) ⟨rfl, rfl, rfl, rfl, rfl, trivial⟩ hK
def p_r_nameNode_23 (x1 : Int32) (x2 : Int32) (x3 : Int32) (x4 : Int32) (σ : jx_S) : Option (Int32 × jx_S) := jx_loop 100000000 (fun s => p_r_nameNode_23_s s.1 s.2.1 s.2.2.1 s.2.2.2.1 (s.2.2.2.2)) (x1, x2, x3, x4, σ)
theorem x_r_nameNode_23 (d : Nat) (hd : 2 ≤ d) (x1 : Int32) (x2 : Int32) (x3 : Int32) (x4 : Int32) (σ : jx_S) (t : (Int32 × jx_S)) (res : Option Value × jx_S) (h : p_r_nameNode_23 x1 x2 x3 x4 σ = some t) (hK : kkI t res) : jE d 170 23 [(0, .ref 106), (1, .int x1), (2, .int x2), (3, .int x3), (4, .int x4)] [] σ res := by
  refine jx_loop_ok (E := fun s t => ∀ res, kkI t res → jE d 170 23 [(0, .ref 106), (1, .int s.1), (2, .int s.2.1), (3, .int s.2.2.1), (4, .int s.2.2.2.1)] [] s.2.2.2.2 res) (fun s t hs => ?_) _ _ _ h res hK
  cases t with
  | inl s1 => exact fun b hb res hk => x_r_nameNode_23_s d hd (s.1) (s.2.1) (s.2.2.1) (s.2.2.2.1) (s.2.2.2.2) _ res hs (hb res hk)
  | inr b => exact fun res hk => x_r_nameNode_23_s d hd (s.1) (s.2.1) (s.2.2.1) (s.2.2.2.1) (s.2.2.2.2) _ res hs hk
def p_r_nameNode_19 (x1 : Int32) (x2 : Int32) (y0 : Int32) (σ : jx_S) : Option (Int32 × jx_S) := (p_r_nameNode_23 x1 x2 y0 (0 : Int32) σ)
theorem x_r_nameNode_19 (d : Nat) (hd : 2 ≤ d) (x1 : Int32) (x2 : Int32) (y0 : Int32) (σ : jx_S) (t : (Int32 × jx_S)) (res : Option Value × jx_S) (h : p_r_nameNode_19 x1 x2 y0 σ = some t) (hK : kkI t res) : jE d 170 19 [(0, .ref 106), (1, .int x1), (2, .int x2)] [.int y0] σ res := by
  unfold p_r_nameNode_19 at h
  refine jE_blk (bs := [(.istore_n 3, 5, 0), (.iconst (0), 0, 0), (.istore 4, 5, 0)]) (i := .iload 4) (a1 := 0) (a2 := 0) (pc1 := 23) (l1 := [(4, .int (0 : Int32)), (3, .int y0), (0, .ref 106), (1, .int x1), (2, .int x2)]) (st1 := []) (σ1 := σ) (by decide +kernel) rfl (fun hC => ?_)
  exact jE_loc (l := [(0, .ref 106), (1, .int x1), (2, .int x2), (3, .int y0), (4, .int (0 : Int32))]) (ks := [0, 1, 2, 3, 4]) rfl (by decide) ⟨rfl, rfl, rfl, rfl, rfl, trivial⟩ (x_r_nameNode_23 d hd x1 x2 y0 (0 : Int32) σ _ res h hK)
def p_r_nameNode (x1 : Int32) (x2 : Int32) (σ : jx_S) : Option (Int32 × jx_S) := (if x2 ≤ 0 then (p_r_nameNode_19 x1 x2 (-1 : Int32) σ) else (if ((σ.1 106 47) - x2) < 0 ∨ 3000 ≤ (((σ.1 106 47) - x2)).toNatClampNeg then none else (p_r_nameNode_19 x1 x2 ((σ.1 141) (((σ.1 106 47) - x2)).toNatClampNeg) σ)))
theorem x_r_nameNode (d : Nat) (hd : 2 ≤ d) (x1 : Int32) (x2 : Int32) (σ : jx_S) (t : (Int32 × jx_S)) (res : Option Value × jx_S) (h : p_r_nameNode x1 x2 σ = some t) (hK : kkI t res) : jE d 170 0 [(0, .ref 106), (1, .int x1), (2, .int x2)] [] σ res := by
  unfold p_r_nameNode at h
  refine jE_blk (bs := [(.iload_n 2, 0, 0)]) (i := .ifCond .le (17)) (a1 := 0) (a2 := 0) (pc1 := 1) (l1 := [(0, .ref 106), (1, .int x1), (2, .int x2)]) (st1 := [.int x2]) (σ1 := σ) (by decide +kernel) rfl (fun hC => ?_)
  rcases Classical.em (x2 ≤ 0) with hc | hc
  · rw [if_pos hc] at h
    refine jE_ifT 18 hC (by decide) hc ?_
    refine jE_blk (bs := [(.iconst (-1), 1, 1)]) (i := .istore_n 3) (a1 := 5) (a2 := 0) (pc1 := 19) (l1 := [(0, .ref 106), (1, .int x1), (2, .int x2)]) (st1 := [.int (-1 : Int32)]) (σ1 := σ) (by decide +kernel) rfl (fun hC => ?_)
    exact jE_loc (l := [(0, .ref 106), (1, .int x1), (2, .int x2)]) (ks := [0, 1, 2]) rfl (by decide) ⟨rfl, rfl, rfl, trivial⟩ (x_r_nameNode_19 d hd x1 x2 (-1 : Int32) σ _ res h hK)
  · rw [if_neg hc] at h
    refine jE_ifF 18 hC (by decide) hc ?_
    refine jE_blk (bs := [(.aload_n 0, 0, 0), (.getfield 117, 12, 46), (.aload_n 0, 0, 0), (.getfield 326, 12, 47), (.iload_n 2, 0, 0), (.isub, 0, 0)]) (i := .iaload) (a1 := 0) (a2 := 0) (pc1 := 14) (l1 := [(0, .ref 106), (1, .int x1), (2, .int x2)]) (st1 := [.int ((σ.1 106 47) - x2), .ref 141]) (σ1 := σ) (by decide +kernel) rfl (fun hC => ?_)
    obtain ⟨hi, h⟩ := jx_ite0_inv h
    refine jE_iald (n := 3000) hC (by decide) rfl hi ?_
    refine jE_blk (bs := [(.goto (4), 0, 0)]) (i := .istore_n 3) (a1 := 5) (a2 := 0) (pc1 := 19) (l1 := [(0, .ref 106), (1, .int x1), (2, .int x2)]) (st1 := [.int ((σ.1 141) (((σ.1 106 47) - x2)).toNatClampNeg)]) (σ1 := σ) (by decide +kernel) rfl (fun hC => ?_)
    exact jE_loc (l := [(0, .ref 106), (1, .int x1), (2, .int x2)]) (ks := [0, 1, 2]) rfl (by decide) ⟨rfl, rfl, rfl, trivial⟩ (x_r_nameNode_19 d hd x1 x2 ((σ.1 141) (((σ.1 106 47) - x2)).toNatClampNeg) σ _ res h hK)
def p_r_atom_92 (x1 : Int32) (σ : jx_S) : Option jx_S := ((p_r_node x1 (σ.1 106 40) (-1 : Int32) (-1 : Int32) (-1 : Int32) σ).bind fun q1 => ((p_r_give q1.1 q1.2).bind fun q2 => (some ((jx_i q2 106 40 ((q2.1 106 40) + (1 : Int32)))))))
theorem x_r_atom_92 (d : Nat) (hd : 3 ≤ d) (x1 : Int32) (σ : jx_S) (t : jx_S) (res : Option Value × jx_S) (h : p_r_atom_92 x1 σ = some t) (hK : kkV t res) : jE d 171 92 [(0, .ref 106), (1, .int x1)] [] σ res := by
  unfold p_r_atom_92 at h
  refine jE_blk (bs := [(.aload_n 0, 0, 0), (.aload_n 0, 0, 0), (.iload_n 1, 0, 0), (.aload_n 0, 0, 0), (.getfield 303, 12, 40), (.iconst (-1), 1, 1), (.iconst (-1), 1, 1), (.iconst (-1), 1, 1)]) (i := .invokevirtual 355) (a1 := 164) (a2 := 0) (pc1 := 102) (l1 := [(0, .ref 106), (1, .int x1)]) (st1 := [.int (-1 : Int32), .int (-1 : Int32), .int (-1 : Int32), .int (σ.1 106 40), .int x1, .ref 106, .ref 106]) (σ1 := σ) (by decide +kernel) rfl (fun hC => ?_)
  obtain ⟨q1, hq, h⟩ := Option.bind_eq_some_iff.mp h
  refine jE_call (as := [.ref 106, .int x1, .int (σ.1 106 40), .int (-1 : Int32), .int (-1 : Int32), .int (-1 : Int32)]) (pc1 := 105) (st1 := [.ref 106]) hC rfl (by decide) (by omega) (x_r_node (d - 1) (by omega) x1 (σ.1 106 40) (-1 : Int32) (-1 : Int32) (-1 : Int32) σ q1 (some (.int q1.1), q1.2) hq rfl) ?_
  refine jE_blk (bs := []) (i := .invokevirtual 359) (a1 := 165) (a2 := 0) (pc1 := 105) (l1 := [(0, .ref 106), (1, .int x1)]) (st1 := [.int q1.1, .ref 106]) (σ1 := q1.2) (by decide +kernel) rfl (fun hC => ?_)
  obtain ⟨q2, hq, h⟩ := Option.bind_eq_some_iff.mp h
  refine jE_call (as := [.ref 106, .int q1.1]) (pc1 := 108) (st1 := []) hC rfl (by decide) (by omega) (x_r_give (d - 1) (by omega) q1.1 q1.2 q2 (none, q2) hq rfl) ?_
  refine jE_blk (bs := [(.aload_n 0, 0, 0), (.dup, 0, 0), (.getfield 303, 12, 40), (.iconst (1), 1, 0), (.iadd, 0, 0), (.putfield 303, 12, 40), (.goto (12), 0, 0)]) (i := .return_) (a1 := 0) (a2 := 0) (pc1 := 130) (l1 := [(0, .ref 106), (1, .int x1)]) (st1 := []) (σ1 := (jx_i q2 106 40 ((q2.1 106 40) + (1 : Int32)))) (by decide +kernel) rfl (fun hC => ?_)
  have h9 := Option.some.inj h
  subst h9
  have e9 : ((none, (jx_i q2 106 40 ((q2.1 106 40) + (1 : Int32)))) : Option Value × jx_S) = res := hK
  subst e9
  exact jE_ret hC rfl
def p_r_atom (σ : jx_S) : Option jx_S := (if (σ.1 106 40) < 0 ∨ 1202 ≤ ((σ.1 106 40)).toNatClampNeg then none else (if ¬ ((σ.1 108) ((σ.1 106 40)).toNatClampNeg) = (16 : Int32) then (if ¬ ((σ.1 108) ((σ.1 106 40)).toNatClampNeg) = (1 : Int32) then (if ((σ.1 108) ((σ.1 106 40)).toNatClampNeg) = (2 : Int32) then (p_r_atom_92 ((σ.1 108) ((σ.1 106 40)).toNatClampNeg) σ) else (if ((σ.1 108) ((σ.1 106 40)).toNatClampNeg) = (13 : Int32) then (p_r_atom_92 ((σ.1 108) ((σ.1 106 40)).toNatClampNeg) σ) else (if ¬ ((σ.1 108) ((σ.1 106 40)).toNatClampNeg) = (15 : Int32) then ((p_r_stop (2 : Int32) (σ.1 106 40) σ).bind fun q3 => (some (q3))) else (p_r_atom_92 ((σ.1 108) ((σ.1 106 40)).toNatClampNeg) σ)))) else ((p_r_nameNode (σ.1 106 40) (0 : Int32) σ).bind fun q4 => ((p_r_give q4.1 q4.2).bind fun q5 => (some ((jx_i q5 106 40 ((q5.1 106 40) + (1 : Int32)))))))) else ((p_r_later (17 : Int32) (0 : Int32) (0 : Int32) (jx_i σ 106 40 ((σ.1 106 40) + (1 : Int32)))).bind fun q6 => ((p_r_later (1 : Int32) (0 : Int32) (0 : Int32) q6).bind fun q7 => (some (q7))))))
theorem x_r_atom (d : Nat) (hd : 3 ≤ d) (σ : jx_S) (t : jx_S) (res : Option Value × jx_S) (h : p_r_atom σ = some t) (hK : kkV t res) : jE d 171 0 [(0, .ref 106)] [] σ res := by
  unfold p_r_atom at h
  refine jE_blk (bs := [(.aload_n 0, 0, 0), (.getfield 17, 12, 6), (.aload_n 0, 0, 0), (.getfield 303, 12, 40)]) (i := .iaload) (a1 := 0) (a2 := 0) (pc1 := 8) (l1 := [(0, .ref 106)]) (st1 := [.int (σ.1 106 40), .ref 108]) (σ1 := σ) (by decide +kernel) rfl (fun hC => ?_)
  obtain ⟨hi, h⟩ := jx_ite0_inv h
  refine jE_iald (n := 1202) hC (by decide) rfl hi ?_
  refine jE_blk (bs := [(.istore_n 1, 2, 0), (.iload_n 1, 0, 0), (.bipush (16), 16, 0)]) (i := .if_icmp .ne (31)) (a1 := 0) (a2 := 0) (pc1 := 13) (l1 := [(1, .int ((σ.1 108) ((σ.1 106 40)).toNatClampNeg)), (0, .ref 106)]) (st1 := [.int (16 : Int32), .int ((σ.1 108) ((σ.1 106 40)).toNatClampNeg)]) (σ1 := σ) (by decide +kernel) rfl (fun hC => ?_)
  rcases Classical.em (¬ ((σ.1 108) ((σ.1 106 40)).toNatClampNeg) = (16 : Int32)) with hc | hc
  · rw [if_pos hc] at h
    refine jE_icT 44 hC (by decide) hc ?_
    refine jE_blk (bs := [(.iload_n 1, 0, 0), (.iconst (1), 1, 0)]) (i := .if_icmp .ne (29)) (a1 := 0) (a2 := 0) (pc1 := 46) (l1 := [(1, .int ((σ.1 108) ((σ.1 106 40)).toNatClampNeg)), (0, .ref 106)]) (st1 := [.int (1 : Int32), .int ((σ.1 108) ((σ.1 106 40)).toNatClampNeg)]) (σ1 := σ) (by decide +kernel) rfl (fun hC => ?_)
    rcases Classical.em (¬ ((σ.1 108) ((σ.1 106 40)).toNatClampNeg) = (1 : Int32)) with hc | hc
    · rw [if_pos hc] at h
      refine jE_icT 75 hC (by decide) hc ?_
      refine jE_blk (bs := [(.iload_n 1, 0, 0), (.iconst (2), 2, 0)]) (i := .if_icmp .eq (15)) (a1 := 0) (a2 := 0) (pc1 := 77) (l1 := [(1, .int ((σ.1 108) ((σ.1 106 40)).toNatClampNeg)), (0, .ref 106)]) (st1 := [.int (2 : Int32), .int ((σ.1 108) ((σ.1 106 40)).toNatClampNeg)]) (σ1 := σ) (by decide +kernel) rfl (fun hC => ?_)
      rcases Classical.em (((σ.1 108) ((σ.1 106 40)).toNatClampNeg) = (2 : Int32)) with hc | hc
      · rw [if_pos hc] at h
        refine jE_icT 92 hC (by decide) hc ?_
        exact jE_loc (l := [(0, .ref 106), (1, .int ((σ.1 108) ((σ.1 106 40)).toNatClampNeg))]) (ks := [0, 1]) rfl (by decide) ⟨rfl, rfl, trivial⟩ (x_r_atom_92 d hd ((σ.1 108) ((σ.1 106 40)).toNatClampNeg) σ _ res h hK)
      · rw [if_neg hc] at h
        refine jE_icF 92 hC (by decide) hc ?_
        refine jE_blk (bs := [(.iload_n 1, 0, 0), (.bipush (13), 13, 0)]) (i := .if_icmp .eq (9)) (a1 := 0) (a2 := 0) (pc1 := 83) (l1 := [(1, .int ((σ.1 108) ((σ.1 106 40)).toNatClampNeg)), (0, .ref 106)]) (st1 := [.int (13 : Int32), .int ((σ.1 108) ((σ.1 106 40)).toNatClampNeg)]) (σ1 := σ) (by decide +kernel) rfl (fun hC => ?_)
        rcases Classical.em (((σ.1 108) ((σ.1 106 40)).toNatClampNeg) = (13 : Int32)) with hc | hc
        · rw [if_pos hc] at h
          refine jE_icT 92 hC (by decide) hc ?_
          exact jE_loc (l := [(0, .ref 106), (1, .int ((σ.1 108) ((σ.1 106 40)).toNatClampNeg))]) (ks := [0, 1]) rfl (by decide) ⟨rfl, rfl, trivial⟩ (x_r_atom_92 d hd ((σ.1 108) ((σ.1 106 40)).toNatClampNeg) σ _ res h hK)
        · rw [if_neg hc] at h
          refine jE_icF 92 hC (by decide) hc ?_
          refine jE_blk (bs := [(.iload_n 1, 0, 0), (.bipush (15), 15, 0)]) (i := .if_icmp .ne (32)) (a1 := 0) (a2 := 0) (pc1 := 89) (l1 := [(1, .int ((σ.1 108) ((σ.1 106 40)).toNatClampNeg)), (0, .ref 106)]) (st1 := [.int (15 : Int32), .int ((σ.1 108) ((σ.1 106 40)).toNatClampNeg)]) (σ1 := σ) (by decide +kernel) rfl (fun hC => ?_)
          rcases Classical.em (¬ ((σ.1 108) ((σ.1 106 40)).toNatClampNeg) = (15 : Int32)) with hc | hc
          · rw [if_pos hc] at h
            refine jE_icT 121 hC (by decide) hc ?_
            refine jE_blk (bs := [(.aload_n 0, 0, 0), (.iconst (2), 2, 0), (.aload_n 0, 0, 0), (.getfield 303, 12, 40)]) (i := .invokevirtual 306) (a1 := 155) (a2 := 0) (pc1 := 127) (l1 := [(1, .int ((σ.1 108) ((σ.1 106 40)).toNatClampNeg)), (0, .ref 106)]) (st1 := [.int (σ.1 106 40), .int (2 : Int32), .ref 106]) (σ1 := σ) (by decide +kernel) rfl (fun hC => ?_)
            obtain ⟨q3, hq, h⟩ := Option.bind_eq_some_iff.mp h
            refine jE_call (as := [.ref 106, .int (2 : Int32), .int (σ.1 106 40)]) (pc1 := 130) (st1 := []) hC rfl (by decide) (by omega) (x_r_stop (d - 1) (by omega) (2 : Int32) (σ.1 106 40) σ q3 (none, q3) hq rfl) ?_
            refine jE_blk (bs := []) (i := .return_) (a1 := 0) (a2 := 0) (pc1 := 130) (l1 := [(1, .int ((σ.1 108) ((σ.1 106 40)).toNatClampNeg)), (0, .ref 106)]) (st1 := []) (σ1 := q3) (by decide +kernel) rfl (fun hC => ?_)
            have h9 := Option.some.inj h
            subst h9
            have e9 : ((none, q3) : Option Value × jx_S) = res := hK
            subst e9
            exact jE_ret hC rfl
          · rw [if_neg hc] at h
            refine jE_icF 121 hC (by decide) hc ?_
            exact jE_loc (l := [(0, .ref 106), (1, .int ((σ.1 108) ((σ.1 106 40)).toNatClampNeg))]) (ks := [0, 1]) rfl (by decide) ⟨rfl, rfl, trivial⟩ (x_r_atom_92 d hd ((σ.1 108) ((σ.1 106 40)).toNatClampNeg) σ _ res h hK)
    · rw [if_neg hc] at h
      refine jE_icF 75 hC (by decide) hc ?_
      refine jE_blk (bs := [(.aload_n 0, 0, 0), (.aload_n 0, 0, 0), (.aload_n 0, 0, 0), (.getfield 303, 12, 40), (.iconst (0), 0, 0)]) (i := .invokevirtual 368) (a1 := 170) (a2 := 0) (pc1 := 56) (l1 := [(1, .int ((σ.1 108) ((σ.1 106 40)).toNatClampNeg)), (0, .ref 106)]) (st1 := [.int (0 : Int32), .int (σ.1 106 40), .ref 106, .ref 106]) (σ1 := σ) (by decide +kernel) rfl (fun hC => ?_)
      obtain ⟨q4, hq, h⟩ := Option.bind_eq_some_iff.mp h
      refine jE_call (as := [.ref 106, .int (σ.1 106 40), .int (0 : Int32)]) (pc1 := 59) (st1 := [.ref 106]) hC rfl (by decide) (by omega) (x_r_nameNode (d - 1) (by omega) (σ.1 106 40) (0 : Int32) σ q4 (some (.int q4.1), q4.2) hq rfl) ?_
      refine jE_blk (bs := []) (i := .invokevirtual 359) (a1 := 165) (a2 := 0) (pc1 := 59) (l1 := [(1, .int ((σ.1 108) ((σ.1 106 40)).toNatClampNeg)), (0, .ref 106)]) (st1 := [.int q4.1, .ref 106]) (σ1 := q4.2) (by decide +kernel) rfl (fun hC => ?_)
      obtain ⟨q5, hq, h⟩ := Option.bind_eq_some_iff.mp h
      refine jE_call (as := [.ref 106, .int q4.1]) (pc1 := 62) (st1 := []) hC rfl (by decide) (by omega) (x_r_give (d - 1) (by omega) q4.1 q4.2 q5 (none, q5) hq rfl) ?_
      refine jE_blk (bs := [(.aload_n 0, 0, 0), (.dup, 0, 0), (.getfield 303, 12, 40), (.iconst (1), 1, 0), (.iadd, 0, 0), (.putfield 303, 12, 40), (.goto (58), 0, 0)]) (i := .return_) (a1 := 0) (a2 := 0) (pc1 := 130) (l1 := [(1, .int ((σ.1 108) ((σ.1 106 40)).toNatClampNeg)), (0, .ref 106)]) (st1 := []) (σ1 := (jx_i q5 106 40 ((q5.1 106 40) + (1 : Int32)))) (by decide +kernel) rfl (fun hC => ?_)
      have h9 := Option.some.inj h
      subst h9
      have e9 : ((none, (jx_i q5 106 40 ((q5.1 106 40) + (1 : Int32)))) : Option Value × jx_S) = res := hK
      subst e9
      exact jE_ret hC rfl
  · rw [if_neg hc] at h
    refine jE_icF 44 hC (by decide) hc ?_
    refine jE_blk (bs := [(.aload_n 0, 0, 0), (.dup, 0, 0), (.getfield 303, 12, 40), (.iconst (1), 1, 0), (.iadd, 0, 0), (.putfield 303, 12, 40), (.aload_n 0, 0, 0), (.bipush (17), 17, 0), (.iconst (0), 0, 0), (.iconst (0), 0, 0)]) (i := .invokevirtual 342) (a1 := 162) (a2 := 0) (pc1 := 31) (l1 := [(1, .int ((σ.1 108) ((σ.1 106 40)).toNatClampNeg)), (0, .ref 106)]) (st1 := [.int (0 : Int32), .int (0 : Int32), .int (17 : Int32), .ref 106]) (σ1 := (jx_i σ 106 40 ((σ.1 106 40) + (1 : Int32)))) (by decide +kernel) rfl (fun hC => ?_)
    obtain ⟨q6, hq, h⟩ := Option.bind_eq_some_iff.mp h
    refine jE_call (as := [.ref 106, .int (17 : Int32), .int (0 : Int32), .int (0 : Int32)]) (pc1 := 34) (st1 := []) hC rfl (by decide) (by omega) (x_r_later (d - 1) (by omega) (17 : Int32) (0 : Int32) (0 : Int32) (jx_i σ 106 40 ((σ.1 106 40) + (1 : Int32))) q6 (none, q6) hq rfl) ?_
    refine jE_blk (bs := [(.aload_n 0, 0, 0), (.iconst (1), 1, 0), (.iconst (0), 0, 0), (.iconst (0), 0, 0)]) (i := .invokevirtual 342) (a1 := 162) (a2 := 0) (pc1 := 38) (l1 := [(1, .int ((σ.1 108) ((σ.1 106 40)).toNatClampNeg)), (0, .ref 106)]) (st1 := [.int (0 : Int32), .int (0 : Int32), .int (1 : Int32), .ref 106]) (σ1 := q6) (by decide +kernel) rfl (fun hC => ?_)
    obtain ⟨q7, hq, h⟩ := Option.bind_eq_some_iff.mp h
    refine jE_call (as := [.ref 106, .int (1 : Int32), .int (0 : Int32), .int (0 : Int32)]) (pc1 := 41) (st1 := []) hC rfl (by decide) (by omega) (x_r_later (d - 1) (by omega) (1 : Int32) (0 : Int32) (0 : Int32) q6 q7 (none, q7) hq rfl) ?_
    refine jE_blk (bs := [(.goto (89), 0, 0)]) (i := .return_) (a1 := 0) (a2 := 0) (pc1 := 130) (l1 := [(1, .int ((σ.1 108) ((σ.1 106 40)).toNatClampNeg)), (0, .ref 106)]) (st1 := []) (σ1 := q7) (by decide +kernel) rfl (fun hC => ?_)
    have h9 := Option.some.inj h
    subst h9
    have e9 : ((none, q7) : Option Value × jx_S) = res := hK
    subst e9
    exact jE_ret hC rfl
