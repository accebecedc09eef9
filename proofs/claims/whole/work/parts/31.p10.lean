def p_r_readMore_188 (y0 : Int32) (σ : jx_S) : Option jx_S := ((p_r_later y0 (0 : Int32) (0 : Int32) σ).bind fun q5 => (some ((jx_i q5 106 40 ((q5.1 106 40) + (1 : Int32))))))
theorem x_r_readMore_188 (d : Nat) (hd : 4 ≤ d) (y0 : Int32) (σ : jx_S) (t : jx_S) (res : Option Value × jx_S) (h : p_r_readMore_188 y0 σ = some t) (hK : kkV t res) : jE d 169 188 [(0, .ref 106)] [.int y0, .ref 106] σ res := by
  unfold p_r_readMore_188 at h
  refine jE_blk (bs := [(.iconst (0), 0, 0), (.iconst (0), 0, 0)]) (i := .invokevirtual 342) (a1 := 162) (a2 := 0) (pc1 := 190) (l1 := [(0, .ref 106)]) (st1 := [.int (0 : Int32), .int (0 : Int32), .int y0, .ref 106]) (σ1 := σ) (by decide +kernel) rfl (fun hC => ?_)
  obtain ⟨q5, hq, h⟩ := Option.bind_eq_some_iff.mp h
  refine jE_call (as := [.ref 106, .int y0, .int (0 : Int32), .int (0 : Int32)]) (pc1 := 193) (st1 := []) hC rfl (by decide) (by omega) (x_r_later (d - 1) (by omega) y0 (0 : Int32) (0 : Int32) σ q5 (none, q5) hq rfl) ?_
  refine jE_blk (bs := [(.aload_n 0, 0, 0), (.dup, 0, 0), (.getfield 303, 12, 40), (.iconst (1), 1, 0), (.iadd, 0, 0), (.putfield 303, 12, 40), (.goto (354), 0, 0)]) (i := .return_) (a1 := 0) (a2 := 0) (pc1 := 557) (l1 := [(0, .ref 106)]) (st1 := []) (σ1 := (jx_i q5 106 40 ((q5.1 106 40) + (1 : Int32)))) (by decide +kernel) rfl (fun hC => ?_)
  have h9 := Option.some.inj h
  subst h9
  have e9 : ((none, (jx_i q5 106 40 ((q5.1 106 40) + (1 : Int32)))) : Option Value × jx_S) = res := hK
  subst e9
  exact jE_ret hC rfl
def p_r_readMore_155 (x1 : Int32) (x2 : Int32) (x4 : Int32) (σ : jx_S) : Option jx_S := ((p_r_later x1 (x2 + (1 : Int32)) (0 : Int32) σ).bind fun q3 => ((p_r_later (19 : Int32) (q3.1 106 40) (0 : Int32) q3).bind fun q4 => (if x4 = 0 then (p_r_readMore_188 (14 : Int32) q4) else (p_r_readMore_188 (12 : Int32) q4))))
theorem x_r_readMore_155 (d : Nat) (hd : 4 ≤ d) (x1 : Int32) (x2 : Int32) (x4 : Int32) (σ : jx_S) (t : jx_S) (res : Option Value × jx_S) (h : p_r_readMore_155 x1 x2 x4 σ = some t) (hK : kkV t res) : jE d 169 155 [(0, .ref 106), (1, .int x1), (2, .int x2), (4, .int x4)] [] σ res := by
  unfold p_r_readMore_155 at h
  refine jE_blk (bs := [(.aload_n 0, 0, 0), (.iload_n 1, 0, 0), (.iload_n 2, 0, 0), (.iconst (1), 1, 0), (.iadd, 0, 0), (.iconst (0), 0, 0)]) (i := .invokevirtual 342) (a1 := 162) (a2 := 0) (pc1 := 161) (l1 := [(0, .ref 106), (1, .int x1), (2, .int x2), (4, .int x4)]) (st1 := [.int (0 : Int32), .int (x2 + (1 : Int32)), .int x1, .ref 106]) (σ1 := σ) (by decide +kernel) rfl (fun hC => ?_)
  obtain ⟨q3, hq, h⟩ := Option.bind_eq_some_iff.mp h
  refine jE_call (as := [.ref 106, .int x1, .int (x2 + (1 : Int32)), .int (0 : Int32)]) (pc1 := 164) (st1 := []) hC rfl (by decide) (by omega) (x_r_later (d - 1) (by omega) x1 (x2 + (1 : Int32)) (0 : Int32) σ q3 (none, q3) hq rfl) ?_
  refine jE_blk (bs := [(.aload_n 0, 0, 0), (.bipush (19), 19, 0), (.aload_n 0, 0, 0), (.getfield 303, 12, 40), (.iconst (0), 0, 0)]) (i := .invokevirtual 342) (a1 := 162) (a2 := 0) (pc1 := 172) (l1 := [(0, .ref 106), (1, .int x1), (2, .int x2), (4, .int x4)]) (st1 := [.int (0 : Int32), .int (q3.1 106 40), .int (19 : Int32), .ref 106]) (σ1 := q3) (by decide +kernel) rfl (fun hC => ?_)
  obtain ⟨q4, hq, h⟩ := Option.bind_eq_some_iff.mp h
  refine jE_call (as := [.ref 106, .int (19 : Int32), .int (q3.1 106 40), .int (0 : Int32)]) (pc1 := 175) (st1 := []) hC rfl (by decide) (by omega) (x_r_later (d - 1) (by omega) (19 : Int32) (q3.1 106 40) (0 : Int32) q3 q4 (none, q4) hq rfl) ?_
  refine jE_blk (bs := [(.aload_n 0, 0, 0), (.iload 4, 0, 0)]) (i := .ifCond .eq (8)) (a1 := 0) (a2 := 0) (pc1 := 178) (l1 := [(0, .ref 106), (1, .int x1), (2, .int x2), (4, .int x4)]) (st1 := [.int x4, .ref 106]) (σ1 := q4) (by decide +kernel) rfl (fun hC => ?_)
  rcases Classical.em (x4 = 0) with hc | hc
  · rw [if_pos hc] at h
    refine jE_ifT 186 hC (by decide) hc ?_
    refine jE_blk (bs := [(.bipush (14), 14, 0)]) (i := .iconst (0)) (a1 := 0) (a2 := 0) (pc1 := 188) (l1 := [(0, .ref 106), (1, .int x1), (2, .int x2), (4, .int x4)]) (st1 := [.int (14 : Int32), .ref 106]) (σ1 := q4) (by decide +kernel) rfl (fun hC => ?_)
    exact jE_loc (l := [(0, .ref 106)]) (ks := [0]) rfl (by decide) ⟨rfl, trivial⟩ (x_r_readMore_188 d hd (14 : Int32) q4 _ res h hK)
  · rw [if_neg hc] at h
    refine jE_ifF 186 hC (by decide) hc ?_
    refine jE_blk (bs := [(.bipush (12), 12, 0), (.goto (5), 0, 0)]) (i := .iconst (0)) (a1 := 0) (a2 := 0) (pc1 := 188) (l1 := [(0, .ref 106), (1, .int x1), (2, .int x2), (4, .int x4)]) (st1 := [.int (12 : Int32), .ref 106]) (σ1 := q4) (by decide +kernel) rfl (fun hC => ?_)
    exact jE_loc (l := [(0, .ref 106)]) (ks := [0]) rfl (by decide) ⟨rfl, trivial⟩ (x_r_readMore_188 d hd (12 : Int32) q4 _ res h hK)
def p_r_readMore_140 (x1 : Int32) (x2 : Int32) (x4 : Int32) (σ : jx_S) : Option jx_S := (if ¬ x2 = (10 : Int32) then (p_r_readMore_155 x1 x2 x4 σ) else ((p_r_stop (3 : Int32) (σ.1 106 40) σ).bind fun q6 => (p_r_readMore_155 x1 x2 x4 q6)))
theorem x_r_readMore_140 (d : Nat) (hd : 4 ≤ d) (x1 : Int32) (x2 : Int32) (x4 : Int32) (σ : jx_S) (t : jx_S) (res : Option Value × jx_S) (h : p_r_readMore_140 x1 x2 x4 σ = some t) (hK : kkV t res) : jE d 169 140 [(0, .ref 106), (1, .int x1), (2, .int x2), (4, .int x4)] [] σ res := by
  unfold p_r_readMore_140 at h
  refine jE_blk (bs := [(.iload_n 2, 0, 0), (.bipush (10), 10, 0)]) (i := .if_icmp .ne (12)) (a1 := 0) (a2 := 0) (pc1 := 143) (l1 := [(0, .ref 106), (1, .int x1), (2, .int x2), (4, .int x4)]) (st1 := [.int (10 : Int32), .int x2]) (σ1 := σ) (by decide +kernel) rfl (fun hC => ?_)
  rcases Classical.em (¬ x2 = (10 : Int32)) with hc | hc
  · rw [if_pos hc] at h
    refine jE_icT 155 hC (by decide) hc ?_
    exact jE_loc (l := [(0, .ref 106), (1, .int x1), (2, .int x2), (4, .int x4)]) (ks := [0, 1, 2, 4]) rfl (by decide) ⟨rfl, rfl, rfl, rfl, trivial⟩ (x_r_readMore_155 d hd x1 x2 x4 σ _ res h hK)
  · rw [if_neg hc] at h
    refine jE_icF 155 hC (by decide) hc ?_
    refine jE_blk (bs := [(.aload_n 0, 0, 0), (.iconst (3), 3, 0), (.aload_n 0, 0, 0), (.getfield 303, 12, 40)]) (i := .invokevirtual 306) (a1 := 155) (a2 := 0) (pc1 := 152) (l1 := [(0, .ref 106), (1, .int x1), (2, .int x2), (4, .int x4)]) (st1 := [.int (σ.1 106 40), .int (3 : Int32), .ref 106]) (σ1 := σ) (by decide +kernel) rfl (fun hC => ?_)
    obtain ⟨q6, hq, h⟩ := Option.bind_eq_some_iff.mp h
    refine jE_call (as := [.ref 106, .int (3 : Int32), .int (σ.1 106 40)]) (pc1 := 155) (st1 := []) hC rfl (by decide) (by omega) (x_r_stop (d - 1) (by omega) (3 : Int32) (σ.1 106 40) σ q6 (none, q6) hq rfl) ?_
    exact jE_loc (l := [(0, .ref 106), (1, .int x1), (2, .int x2), (4, .int x4)]) (ks := [0, 1, 2, 4]) rfl (by decide) ⟨rfl, rfl, rfl, rfl, trivial⟩ (x_r_readMore_155 d hd x1 x2 x4 q6 _ res h hK)
def p_r_readMore_137 (x1 : Int32) (x2 : Int32) (x4 : Int32) (y0 : Int32) (y1 : Int32) (σ : jx_S) : Option jx_S := (if ¬ y1 = y0 then (some (σ)) else (p_r_readMore_140 x1 x2 x4 σ))
theorem x_r_readMore_137 (d : Nat) (hd : 4 ≤ d) (x1 : Int32) (x2 : Int32) (x4 : Int32) (y0 : Int32) (y1 : Int32) (σ : jx_S) (t : jx_S) (res : Option Value × jx_S) (h : p_r_readMore_137 x1 x2 x4 y0 y1 σ = some t) (hK : kkV t res) : jE d 169 137 [(0, .ref 106), (1, .int x1), (2, .int x2), (4, .int x4)] [.int y0, .int y1] σ res := by
  unfold p_r_readMore_137 at h
  refine jE_blk (bs := []) (i := .if_icmp .ne (420)) (a1 := 0) (a2 := 0) (pc1 := 137) (l1 := [(0, .ref 106), (1, .int x1), (2, .int x2), (4, .int x4)]) (st1 := [.int y0, .int y1]) (σ1 := σ) (by decide +kernel) rfl (fun hC => ?_)
  rcases Classical.em (¬ y1 = y0) with hc | hc
  · rw [if_pos hc] at h
    refine jE_icT 557 hC (by decide) hc ?_
    refine jE_blk (bs := []) (i := .return_) (a1 := 0) (a2 := 0) (pc1 := 557) (l1 := [(0, .ref 106), (1, .int x1), (2, .int x2), (4, .int x4)]) (st1 := []) (σ1 := σ) (by decide +kernel) rfl (fun hC => ?_)
    have h9 := Option.some.inj h
    subst h9
    have e9 : ((none, σ) : Option Value × jx_S) = res := hK
    subst e9
    exact jE_ret hC rfl
  · rw [if_neg hc] at h
    refine jE_icF 557 hC (by decide) hc ?_
    exact jE_loc (l := [(0, .ref 106), (1, .int x1), (2, .int x2), (4, .int x4)]) (ks := [0, 1, 2, 4]) rfl (by decide) ⟨rfl, rfl, rfl, rfl, trivial⟩ (x_r_readMore_140 d hd x1 x2 x4 σ _ res h hK)
def p_r_readMore_113 (x1 : Int32) (x2 : Int32) (x4 : Int32) (y0 : Int32) (y1 : Int32) (σ : jx_S) : Option jx_S := (if y1 = y0 then (p_r_readMore_140 x1 x2 x4 σ) else (if (σ.1 106 40) < 0 ∨ 1202 ≤ ((σ.1 106 40)).toNatClampNeg then none else (if x4 = 0 then (p_r_readMore_137 x1 x2 x4 (26 : Int32) ((σ.1 108) ((σ.1 106 40)).toNatClampNeg) σ) else (p_r_readMore_137 x1 x2 x4 (24 : Int32) ((σ.1 108) ((σ.1 106 40)).toNatClampNeg) σ))))
theorem x_r_readMore_113 (d : Nat) (hd : 4 ≤ d) (x1 : Int32) (x2 : Int32) (x4 : Int32) (y0 : Int32) (y1 : Int32) (σ : jx_S) (t : jx_S) (res : Option Value × jx_S) (h : p_r_readMore_113 x1 x2 x4 y0 y1 σ = some t) (hK : kkV t res) : jE d 169 113 [(0, .ref 106), (1, .int x1), (2, .int x2), (4, .int x4)] [.int y0, .int y1] σ res := by
  unfold p_r_readMore_113 at h
  refine jE_blk (bs := []) (i := .if_icmp .eq (27)) (a1 := 0) (a2 := 0) (pc1 := 113) (l1 := [(0, .ref 106), (1, .int x1), (2, .int x2), (4, .int x4)]) (st1 := [.int y0, .int y1]) (σ1 := σ) (by decide +kernel) rfl (fun hC => ?_)
  rcases Classical.em (y1 = y0) with hc | hc
  · rw [if_pos hc] at h
    refine jE_icT 140 hC (by decide) hc ?_
    exact jE_loc (l := [(0, .ref 106), (1, .int x1), (2, .int x2), (4, .int x4)]) (ks := [0, 1, 2, 4]) rfl (by decide) ⟨rfl, rfl, rfl, rfl, trivial⟩ (x_r_readMore_140 d hd x1 x2 x4 σ _ res h hK)
  · rw [if_neg hc] at h
    refine jE_icF 140 hC (by decide) hc ?_
    refine jE_blk (bs := [(.aload_n 0, 0, 0), (.getfield 17, 12, 6), (.aload_n 0, 0, 0), (.getfield 303, 12, 40)]) (i := .iaload) (a1 := 0) (a2 := 0) (pc1 := 124) (l1 := [(0, .ref 106), (1, .int x1), (2, .int x2), (4, .int x4)]) (st1 := [.int (σ.1 106 40), .ref 108]) (σ1 := σ) (by decide +kernel) rfl (fun hC => ?_)
    obtain ⟨hi, h⟩ := jx_ite0_inv h
    refine jE_iald (n := 1202) hC (by decide) rfl hi ?_
    refine jE_blk (bs := [(.iload 4, 0, 0)]) (i := .ifCond .eq (8)) (a1 := 0) (a2 := 0) (pc1 := 127) (l1 := [(0, .ref 106), (1, .int x1), (2, .int x2), (4, .int x4)]) (st1 := [.int x4, .int ((σ.1 108) ((σ.1 106 40)).toNatClampNeg)]) (σ1 := σ) (by decide +kernel) rfl (fun hC => ?_)
    rcases Classical.em (x4 = 0) with hc | hc
    · rw [if_pos hc] at h
      refine jE_ifT 135 hC (by decide) hc ?_
      refine jE_blk (bs := [(.bipush (26), 26, 0)]) (i := .if_icmp .ne (420)) (a1 := 0) (a2 := 0) (pc1 := 137) (l1 := [(0, .ref 106), (1, .int x1), (2, .int x2), (4, .int x4)]) (st1 := [.int (26 : Int32), .int ((σ.1 108) ((σ.1 106 40)).toNatClampNeg)]) (σ1 := σ) (by decide +kernel) rfl (fun hC => ?_)
      exact jE_loc (l := [(0, .ref 106), (1, .int x1), (2, .int x2), (4, .int x4)]) (ks := [0, 1, 2, 4]) rfl (by decide) ⟨rfl, rfl, rfl, rfl, trivial⟩ (x_r_readMore_137 d hd x1 x2 x4 (26 : Int32) ((σ.1 108) ((σ.1 106 40)).toNatClampNeg) σ _ res h hK)
    · rw [if_neg hc] at h
      refine jE_ifF 135 hC (by decide) hc ?_
      refine jE_blk (bs := [(.bipush (24), 24, 0), (.goto (5), 0, 0)]) (i := .if_icmp .ne (420)) (a1 := 0) (a2 := 0) (pc1 := 137) (l1 := [(0, .ref 106), (1, .int x1), (2, .int x2), (4, .int x4)]) (st1 := [.int (24 : Int32), .int ((σ.1 108) ((σ.1 106 40)).toNatClampNeg)]) (σ1 := σ) (by decide +kernel) rfl (fun hC => ?_)
      exact jE_loc (l := [(0, .ref 106), (1, .int x1), (2, .int x2), (4, .int x4)]) (ks := [0, 1, 2, 4]) rfl (by decide) ⟨rfl, rfl, rfl, rfl, trivial⟩ (x_r_readMore_137 d hd x1 x2 x4 (24 : Int32) ((σ.1 108) ((σ.1 106 40)).toNatClampNeg) σ _ res h hK)
def p_r_readMore_90 (x1 : Int32) (x2 : Int32) (y0 : Int32) (σ : jx_S) : Option jx_S := (if (σ.1 106 40) < 0 ∨ 1202 ≤ ((σ.1 106 40)).toNatClampNeg then none else (if y0 = 0 then (p_r_readMore_113 x1 x2 y0 (25 : Int32) ((σ.1 108) ((σ.1 106 40)).toNatClampNeg) σ) else (p_r_readMore_113 x1 x2 y0 (23 : Int32) ((σ.1 108) ((σ.1 106 40)).toNatClampNeg) σ)))
theorem x_r_readMore_90 (d : Nat) (hd : 4 ≤ d) (x1 : Int32) (x2 : Int32) (y0 : Int32) (σ : jx_S) (t : jx_S) (res : Option Value × jx_S) (h : p_r_readMore_90 x1 x2 y0 σ = some t) (hK : kkV t res) : jE d 169 90 [(0, .ref 106), (1, .int x1), (2, .int x2)] [.int y0] σ res := by
  unfold p_r_readMore_90 at h
  refine jE_blk (bs := [(.istore 4, 10, 0), (.aload_n 0, 0, 0), (.getfield 17, 12, 6), (.aload_n 0, 0, 0), (.getfield 303, 12, 40)]) (i := .iaload) (a1 := 0) (a2 := 0) (pc1 := 100) (l1 := [(4, .int y0), (0, .ref 106), (1, .int x1), (2, .int x2)]) (st1 := [.int (σ.1 106 40), .ref 108]) (σ1 := σ) (by decide +kernel) rfl (fun hC => ?_)
  obtain ⟨hi, h⟩ := jx_ite0_inv h
  refine jE_iald (n := 1202) hC (by decide) rfl hi ?_
  refine jE_blk (bs := [(.iload 4, 0, 0)]) (i := .ifCond .eq (8)) (a1 := 0) (a2 := 0) (pc1 := 103) (l1 := [(4, .int y0), (0, .ref 106), (1, .int x1), (2, .int x2)]) (st1 := [.int y0, .int ((σ.1 108) ((σ.1 106 40)).toNatClampNeg)]) (σ1 := σ) (by decide +kernel) rfl (fun hC => ?_)
  rcases Classical.em (y0 = 0) with hc | hc
  · rw [if_pos hc] at h
    refine jE_ifT 111 hC (by decide) hc ?_
    refine jE_blk (bs := [(.bipush (25), 25, 0)]) (i := .if_icmp .eq (27)) (a1 := 0) (a2 := 0) (pc1 := 113) (l1 := [(4, .int y0), (0, .ref 106), (1, .int x1), (2, .int x2)]) (st1 := [.int (25 : Int32), .int ((σ.1 108) ((σ.1 106 40)).toNatClampNeg)]) (σ1 := σ) (by decide +kernel) rfl (fun hC => ?_)
    exact jE_loc (l := [(0, .ref 106), (1, .int x1), (2, .int x2), (4, .int y0)]) (ks := [0, 1, 2, 4]) rfl (by decide) ⟨rfl, rfl, rfl, rfl, trivial⟩ (x_r_readMore_113 d hd x1 x2 y0 (25 : Int32) ((σ.1 108) ((σ.1 106 40)).toNatClampNeg) σ _ res h hK)
  · rw [if_neg hc] at h
    refine jE_ifF 111 hC (by decide) hc ?_
    refine jE_blk (bs := [(.bipush (23), 23, 0), (.goto (5), 0, 0)]) (i := .if_icmp .eq (27)) (a1 := 0) (a2 := 0) (pc1 := 113) (l1 := [(4, .int y0), (0, .ref 106), (1, .int x1), (2, .int x2)]) (st1 := [.int (23 : Int32), .int ((σ.1 108) ((σ.1 106 40)).toNatClampNeg)]) (σ1 := σ) (by decide +kernel) rfl (fun hC => ?_)
    exact jE_loc (l := [(0, .ref 106), (1, .int x1), (2, .int x2), (4, .int y0)]) (ks := [0, 1, 2, 4]) rfl (by decide) ⟨rfl, rfl, rfl, rfl, trivial⟩ (x_r_readMore_113 d hd x1 x2 y0 (23 : Int32) ((σ.1 108) ((σ.1 106 40)).toNatClampNeg) σ _ res h hK)
def p_r_readMore_79 (x1 : Int32) (x2 : Int32) (σ : jx_S) : Option jx_S := (if ¬ x1 = (11 : Int32) then (p_r_readMore_90 x1 x2 (0 : Int32) σ) else (p_r_readMore_90 x1 x2 (1 : Int32) σ))
theorem x_r_readMore_79 (d : Nat) (hd : 4 ≤ d) (x1 : Int32) (x2 : Int32) (σ : jx_S) (t : jx_S) (res : Option Value × jx_S) (h : p_r_readMore_79 x1 x2 σ = some t) (hK : kkV t res) : jE d 169 79 [(0, .ref 106), (1, .int x1), (2, .int x2)] [] σ res := by
  unfold p_r_readMore_79 at h
  refine jE_blk (bs := [(.iload_n 1, 0, 0), (.bipush (11), 11, 0)]) (i := .if_icmp .ne (7)) (a1 := 0) (a2 := 0) (pc1 := 82) (l1 := [(0, .ref 106), (1, .int x1), (2, .int x2)]) (st1 := [.int (11 : Int32), .int x1]) (σ1 := σ) (by decide +kernel) rfl (fun hC => ?_)
  rcases Classical.em (¬ x1 = (11 : Int32)) with hc | hc
  · rw [if_pos hc] at h
    refine jE_icT 89 hC (by decide) hc ?_
    refine jE_blk (bs := [(.iconst (0), 0, 0)]) (i := .istore 4) (a1 := 10) (a2 := 0) (pc1 := 90) (l1 := [(0, .ref 106), (1, .int x1), (2, .int x2)]) (st1 := [.int (0 : Int32)]) (σ1 := σ) (by decide +kernel) rfl (fun hC => ?_)
    exact jE_loc (l := [(0, .ref 106), (1, .int x1), (2, .int x2)]) (ks := [0, 1, 2]) rfl (by decide) ⟨rfl, rfl, rfl, trivial⟩ (x_r_readMore_90 d hd x1 x2 (0 : Int32) σ _ res h hK)
  · rw [if_neg hc] at h
    refine jE_icF 89 hC (by decide) hc ?_
    refine jE_blk (bs := [(.iconst (1), 1, 0), (.goto (4), 0, 0)]) (i := .istore 4) (a1 := 10) (a2 := 0) (pc1 := 90) (l1 := [(0, .ref 106), (1, .int x1), (2, .int x2)]) (st1 := [.int (1 : Int32)]) (σ1 := σ) (by decide +kernel) rfl (fun hC => ?_)
    exact jE_loc (l := [(0, .ref 106), (1, .int x1), (2, .int x2)]) (ks := [0, 1, 2]) rfl (by decide) ⟨rfl, rfl, rfl, trivial⟩ (x_r_readMore_90 d hd x1 x2 (1 : Int32) σ _ res h hK)
def p_r_readMore_371 (x2 : Int32) (x3 : Int32) (σ : jx_S) : Option jx_S := ((p_r_later (15 : Int32) x2 (x3 + (1 : Int32)) σ).bind fun q14 => ((p_r_later (16 : Int32) (0 : Int32) (0 : Int32) q14).bind fun q15 => (some (q15))))
theorem x_r_readMore_371 (d : Nat) (hd : 4 ≤ d) (x2 : Int32) (x3 : Int32) (σ : jx_S) (t : jx_S) (res : Option Value × jx_S) (h : p_r_readMore_371 x2 x3 σ = some t) (hK : kkV t res) : jE d 169 371 [(0, .ref 106), (2, .int x2), (3, .int x3)] [] σ res := by
  unfold p_r_readMore_371 at h
  refine jE_blk (bs := [(.aload_n 0, 0, 0), (.bipush (15), 15, 0), (.iload_n 2, 0, 0), (.iload_n 3, 0, 0), (.iconst (1), 1, 0), (.iadd, 0, 0)]) (i := .invokevirtual 342) (a1 := 162) (a2 := 0) (pc1 := 378) (l1 := [(0, .ref 106), (2, .int x2), (3, .int x3)]) (st1 := [.int (x3 + (1 : Int32)), .int x2, .int (15 : Int32), .ref 106]) (σ1 := σ) (by decide +kernel) rfl (fun hC => ?_)
  obtain ⟨q14, hq, h⟩ := Option.bind_eq_some_iff.mp h
  refine jE_call (as := [.ref 106, .int (15 : Int32), .int x2, .int (x3 + (1 : Int32))]) (pc1 := 381) (st1 := []) hC rfl (by decide) (by omega) (x_r_later (d - 1) (by omega) (15 : Int32) x2 (x3 + (1 : Int32)) σ q14 (none, q14) hq rfl) ?_
  refine jE_blk (bs := [(.aload_n 0, 0, 0), (.bipush (16), 16, 0), (.iconst (0), 0, 0), (.iconst (0), 0, 0)]) (i := .invokevirtual 342) (a1 := 162) (a2 := 0) (pc1 := 386) (l1 := [(0, .ref 106), (2, .int x2), (3, .int x3)]) (st1 := [.int (0 : Int32), .int (0 : Int32), .int (16 : Int32), .ref 106]) (σ1 := q14) (by decide +kernel) rfl (fun hC => ?_)
  obtain ⟨q15, hq, h⟩ := Option.bind_eq_some_iff.mp h
  refine jE_call (as := [.ref 106, .int (16 : Int32), .int (0 : Int32), .int (0 : Int32)]) (pc1 := 389) (st1 := []) hC rfl (by decide) (by omega) (x_r_later (d - 1) (by omega) (16 : Int32) (0 : Int32) (0 : Int32) q14 q15 (none, q15) hq rfl) ?_
  refine jE_blk (bs := [(.goto (168), 0, 0)]) (i := .return_) (a1 := 0) (a2 := 0) (pc1 := 557) (l1 := [(0, .ref 106), (2, .int x2), (3, .int x3)]) (st1 := []) (σ1 := q15) (by decide +kernel) rfl (fun hC => ?_)
  have h9 := Option.some.inj h
  subst h9
  have e9 : ((none, q15) : Option Value × jx_S) = res := hK
  subst e9
  exact jE_ret hC rfl
def p_r_readMore_449 (σ : jx_S) : Option jx_S := ((p_r_later (19 : Int32) (σ.1 106 40) (0 : Int32) σ).bind fun q20 => ((p_r_later (10 : Int32) (0 : Int32) (0 : Int32) q20).bind fun q21 => (some ((jx_i q21 106 40 ((q21.1 106 40) + (1 : Int32)))))))
theorem x_r_readMore_449 (d : Nat) (hd : 4 ≤ d) (σ : jx_S) (t : jx_S) (res : Option Value × jx_S) (h : p_r_readMore_449 σ = some t) (hK : kkV t res) : jE d 169 449 [(0, .ref 106)] [] σ res := by
  unfold p_r_readMore_449 at h
  refine jE_blk (bs := [(.aload_n 0, 0, 0), (.bipush (19), 19, 0), (.aload_n 0, 0, 0), (.getfield 303, 12, 40), (.iconst (0), 0, 0)]) (i := .invokevirtual 342) (a1 := 162) (a2 := 0) (pc1 := 457) (l1 := [(0, .ref 106)]) (st1 := [.int (0 : Int32), .int (σ.1 106 40), .int (19 : Int32), .ref 106]) (σ1 := σ) (by decide +kernel) rfl (fun hC => ?_)
  obtain ⟨q20, hq, h⟩ := Option.bind_eq_some_iff.mp h
  refine jE_call (as := [.ref 106, .int (19 : Int32), .int (σ.1 106 40), .int (0 : Int32)]) (pc1 := 460) (st1 := []) hC rfl (by decide) (by omega) (x_r_later (d - 1) (by omega) (19 : Int32) (σ.1 106 40) (0 : Int32) σ q20 (none, q20) hq rfl) ?_
  refine jE_blk (bs := [(.aload_n 0, 0, 0), (.bipush (10), 10, 0), (.iconst (0), 0, 0), (.iconst (0), 0, 0)]) (i := .invokevirtual 342) (a1 := 162) (a2 := 0) (pc1 := 465) (l1 := [(0, .ref 106)]) (st1 := [.int (0 : Int32), .int (0 : Int32), .int (10 : Int32), .ref 106]) (σ1 := q20) (by decide +kernel) rfl (fun hC => ?_)
  obtain ⟨q21, hq, h⟩ := Option.bind_eq_some_iff.mp h
  refine jE_call (as := [.ref 106, .int (10 : Int32), .int (0 : Int32), .int (0 : Int32)]) (pc1 := 468) (st1 := []) hC rfl (by decide) (by omega) (x_r_later (d - 1) (by omega) (10 : Int32) (0 : Int32) (0 : Int32) q20 q21 (none, q21) hq rfl) ?_
  refine jE_blk (bs := [(.aload_n 0, 0, 0), (.dup, 0, 0), (.getfield 303, 12, 40), (.iconst (1), 1, 0), (.iadd, 0, 0), (.putfield 303, 12, 40), (.goto (79), 0, 0)]) (i := .return_) (a1 := 0) (a2 := 0) (pc1 := 557) (l1 := [(0, .ref 106)]) (st1 := []) (σ1 := (jx_i q21 106 40 ((q21.1 106 40) + (1 : Int32)))) (by decide +kernel) rfl (fun hC => ?_)
  have h9 := Option.some.inj h
  subst h9
  have e9 : ((none, (jx_i q21 106 40 ((q21.1 106 40) + (1 : Int32)))) : Option Value × jx_S) = res := hK
  subst e9
  exact jE_ret hC rfl
def p_r_readMore (x1 : Int32) (x2 : Int32) (x3 : Int32) (σ : jx_S) : Option jx_S := (if x1 = 10 then ((p_r_later (11 : Int32) (0 : Int32) (0 : Int32) σ).bind fun q1 => ((p_r_later (12 : Int32) (0 : Int32) (0 : Int32) q1).bind fun q2 => (some (q2)))) else (if x1 = 11 then (p_r_readMore_79 x1 x2 σ) else (if x1 = 12 then ((p_r_later (13 : Int32) (0 : Int32) (0 : Int32) σ).bind fun q7 => ((p_r_later (14 : Int32) (0 : Int32) (0 : Int32) q7).bind fun q8 => (some (q8)))) else (if x1 = 13 then (p_r_readMore_79 x1 x2 σ) else (if x1 = 14 then (if (σ.1 106 40) < 0 ∨ 1202 ≤ ((σ.1 106 40)).toNatClampNeg then none else (if ¬ ((σ.1 108) ((σ.1 106 40)).toNatClampNeg) = (14 : Int32) then (if (σ.1 106 40) < 0 ∨ 1202 ≤ ((σ.1 106 40)).toNatClampNeg then none else (if ¬ ((σ.1 108) ((σ.1 106 40)).toNatClampNeg) = (1 : Int32) then ((p_r_later (16 : Int32) (0 : Int32) (0 : Int32) σ).bind fun q9 => (some (q9))) else ((p_r_later (15 : Int32) (σ.1 106 40) (0 : Int32) σ).bind fun q10 => (some ((jx_i q10 106 40 ((q10.1 106 40) + (1 : Int32)))))))) else ((p_r_later (20 : Int32) (σ.1 106 40) (0 : Int32) σ).bind fun q11 => ((p_r_later (16 : Int32) (0 : Int32) (0 : Int32) q11).bind fun q12 => ((p_r_later (16 : Int32) (0 : Int32) (0 : Int32) q12).bind fun q13 => (some ((jx_i q13 106 40 ((q13.1 106 40) + (1 : Int32)))))))))) else (if x1 = 15 then (if (σ.1 106 40) < 0 ∨ 1202 ≤ ((σ.1 106 40)).toNatClampNeg then none else (if ((σ.1 108) ((σ.1 106 40)).toNatClampNeg) = (2 : Int32) then (p_r_readMore_371 x2 x3 σ) else (if ((σ.1 108) ((σ.1 106 40)).toNatClampNeg) = (1 : Int32) then (p_r_readMore_371 x2 x3 σ) else (if ((σ.1 108) ((σ.1 106 40)).toNatClampNeg) = (13 : Int32) then (p_r_readMore_371 x2 x3 σ) else (if ((σ.1 108) ((σ.1 106 40)).toNatClampNeg) = (15 : Int32) then (p_r_readMore_371 x2 x3 σ) else (if ¬ ((σ.1 108) ((σ.1 106 40)).toNatClampNeg) = (16 : Int32) then ((p_r_nameNode x2 x3 σ).bind fun q16 => ((p_r_give q16.1 q16.2).bind fun q17 => (some (q17)))) else (p_r_readMore_371 x2 x3 σ))))))) else (if x1 = 16 then ((p_r_atom σ).bind fun q18 => (some (q18))) else (if x1 = 17 then ((p_r_expect (17 : Int32) σ).bind fun q19 => (some (q19))) else (if x1 = 18 then (if (σ.1 106 40) < 0 ∨ 1202 ≤ ((σ.1 106 40)).toNatClampNeg then none else (if ((σ.1 108) ((σ.1 106 40)).toNatClampNeg) = (19 : Int32) then (p_r_readMore_449 σ) else (if (σ.1 106 40) < 0 ∨ 1202 ≤ ((σ.1 106 40)).toNatClampNeg then none else (if ¬ ((σ.1 108) ((σ.1 106 40)).toNatClampNeg) = (27 : Int32) then (some (σ)) else (p_r_readMore_449 σ))))) else (if x1 = 19 then ((p_r_take σ).bind fun q22 => ((p_r_take q22.2).bind fun q23 => (if x2 < 0 ∨ 1202 ≤ (x2).toNatClampNeg then none else ((p_r_node ((q23.2.1 108) (x2).toNatClampNeg) x2 q23.1 q22.1 (-1 : Int32) q23.2).bind fun q24 => ((p_r_give q24.1 q24.2).bind fun q25 => (some (q25))))))) else (if x1 = 20 then ((p_r_take σ).bind fun q26 => ((p_r_take q26.2).bind fun q27 => ((p_r_node (14 : Int32) x2 q27.1 q26.1 (-1 : Int32) q27.2).bind fun q28 => ((p_r_give q28.1 q28.2).bind fun q29 => (some (q29)))))) else (some ((jx_i σ 106 48 ((σ.1 106 48) - (1 : Int32))))))))))))))))
theorem x_r_readMore (d : Nat) (hd : 4 ≤ d) (x1 : Int32) (x2 : Int32) (x3 : Int32) (σ : jx_S) (t : jx_S) (res : Option Value × jx_S) (h : p_r_readMore x1 x2 x3 σ = some t) (hK : kkV t res) : jE d 169 0 [(0, .ref 106), (1, .int x1), (2, .int x2), (3, .int x3)] [] σ res := by
  unfold p_r_readMore at h
  refine jE_blk (bs := [(.iload_n 1, 0, 0)]) (i := .tableswitch (546) (10) (20) #[59, 78, 205, 78, 224, 326, 404, 411, 420, 480, 515]) (a1 := 0) (a2 := 0) (pc1 := 1) (l1 := [(0, .ref 106), (1, .int x1), (2, .int x2), (3, .int x3)]) (st1 := [.int x1]) (σ1 := σ) (by decide +kernel) rfl (fun hC => ?_)
  rcases Classical.em (x1 = 10) with hc0 | hc0
  · rw [if_pos hc0] at h
    refine jE_tsw 60 10 hC hc0 (by decide +kernel) ?_
    refine jE_blk (bs := [(.aload_n 0, 0, 0), (.bipush (11), 11, 0), (.iconst (0), 0, 0), (.iconst (0), 0, 0)]) (i := .invokevirtual 342) (a1 := 162) (a2 := 0) (pc1 := 65) (l1 := [(0, .ref 106), (1, .int x1), (2, .int x2), (3, .int x3)]) (st1 := [.int (0 : Int32), .int (0 : Int32), .int (11 : Int32), .ref 106]) (σ1 := σ) (by decide +kernel) rfl (fun hC => ?_)
    obtain ⟨q1, hq, h⟩ := Option.bind_eq_some_iff.mp h
    refine jE_call (as := [.ref 106, .int (11 : Int32), .int (0 : Int32), .int (0 : Int32)]) (pc1 := 68) (st1 := []) hC rfl (by decide) (by omega) (x_r_later (d - 1) (by omega) (11 : Int32) (0 : Int32) (0 : Int32) σ q1 (none, q1) hq rfl) ?_
    refine jE_blk (bs := [(.aload_n 0, 0, 0), (.bipush (12), 12, 0), (.iconst (0), 0, 0), (.iconst (0), 0, 0)]) (i := .invokevirtual 342) (a1 := 162) (a2 := 0) (pc1 := 73) (l1 := [(0, .ref 106), (1, .int x1), (2, .int x2), (3, .int x3)]) (st1 := [.int (0 : Int32), .int (0 : Int32), .int (12 : Int32), .ref 106]) (σ1 := q1) (by decide +kernel) rfl (fun hC => ?_)
    obtain ⟨q2, hq, h⟩ := Option.bind_eq_some_iff.mp h
    refine jE_call (as := [.ref 106, .int (12 : Int32), .int (0 : Int32), .int (0 : Int32)]) (pc1 := 76) (st1 := []) hC rfl (by decide) (by omega) (x_r_later (d - 1) (by omega) (12 : Int32) (0 : Int32) (0 : Int32) q1 q2 (none, q2) hq rfl) ?_
    refine jE_blk (bs := [(.goto (481), 0, 0)]) (i := .return_) (a1 := 0) (a2 := 0) (pc1 := 557) (l1 := [(0, .ref 106), (1, .int x1), (2, .int x2), (3, .int x3)]) (st1 := []) (σ1 := q2) (by decide +kernel) rfl (fun hC => ?_)
    have h9 := Option.some.inj h
    subst h9
    have e9 : ((none, q2) : Option Value × jx_S) = res := hK
    subst e9
    exact jE_ret hC rfl
  · rw [if_neg hc0] at h
    rcases Classical.em (x1 = 11) with hc1 | hc1
    · rw [if_pos hc1] at h
      refine jE_tsw 79 11 hC hc1 (by decide +kernel) ?_
      exact jE_loc (l := [(0, .ref 106), (1, .int x1), (2, .int x2)]) (ks := [0, 1, 2]) rfl (by decide) ⟨rfl, rfl, rfl, trivial⟩ (x_r_readMore_79 d hd x1 x2 σ _ res h hK)
    · rw [if_neg hc1] at h
      rcases Classical.em (x1 = 12) with hc2 | hc2
      · rw [if_pos hc2] at h
        refine jE_tsw 206 12 hC hc2 (by decide +kernel) ?_
        refine jE_blk (bs := [(.aload_n 0, 0, 0), (.bipush (13), 13, 0), (.iconst (0), 0, 0), (.iconst (0), 0, 0)]) (i := .invokevirtual 342) (a1 := 162) (a2 := 0) (pc1 := 211) (l1 := [(0, .ref 106), (1, .int x1), (2, .int x2), (3, .int x3)]) (st1 := [.int (0 : Int32), .int (0 : Int32), .int (13 : Int32), .ref 106]) (σ1 := σ) (by decide +kernel) rfl (fun hC => ?_)
        obtain ⟨q7, hq, h⟩ := Option.bind_eq_some_iff.mp h
        refine jE_call (as := [.ref 106, .int (13 : Int32), .int (0 : Int32), .int (0 : Int32)]) (pc1 := 214) (st1 := []) hC rfl (by decide) (by omega) (x_r_later (d - 1) (by omega) (13 : Int32) (0 : Int32) (0 : Int32) σ q7 (none, q7) hq rfl) ?_
        refine jE_blk (bs := [(.aload_n 0, 0, 0), (.bipush (14), 14, 0), (.iconst (0), 0, 0), (.iconst (0), 0, 0)]) (i := .invokevirtual 342) (a1 := 162) (a2 := 0) (pc1 := 219) (l1 := [(0, .ref 106), (1, .int x1), (2, .int x2), (3, .int x3)]) (st1 := [.int (0 : Int32), .int (0 : Int32), .int (14 : Int32), .ref 106]) (σ1 := q7) (by decide +kernel) rfl (fun hC => ?_)
        obtain ⟨q8, hq, h⟩ := Option.bind_eq_some_iff.mp h
        refine jE_call (as := [.ref 106, .int (14 : Int32), .int (0 : Int32), .int (0 : Int32)]) (pc1 := 222) (st1 := []) hC rfl (by decide) (by omega) (x_r_later (d - 1) (by omega) (14 : Int32) (0 : Int32) (0 : Int32) q7 q8 (none, q8) hq rfl) ?_
        refine jE_blk (bs := [(.goto (335), 0, 0)]) (i := .return_) (a1 := 0) (a2 := 0) (pc1 := 557) (l1 := [(0, .ref 106), (1, .int x1), (2, .int x2), (3, .int x3)]) (st1 := []) (σ1 := q8) (by decide +kernel) rfl (fun hC => ?_)
        have h9 := Option.some.inj h
        subst h9
        have e9 : ((none, q8) : Option Value × jx_S) = res := hK
        subst e9
        exact jE_ret hC rfl
      · rw [if_neg hc2] at h
        rcases Classical.em (x1 = 13) with hc3 | hc3
        · rw [if_pos hc3] at h
          refine jE_tsw 79 13 hC hc3 (by decide +kernel) ?_
          exact jE_loc (l := [(0, .ref 106), (1, .int x1), (2, .int x2)]) (ks := [0, 1, 2]) rfl (by decide) ⟨rfl, rfl, rfl, trivial⟩ (x_r_readMore_79 d hd x1 x2 σ _ res h hK)
        · rw [if_neg hc3] at h
          rcases Classical.em (x1 = 14) with hc4 | hc4
          · rw [if_pos hc4] at h
            refine jE_tsw 225 14 hC hc4 (by decide +kernel) ?_
            refine jE_blk (bs := [(.aload_n 0, 0, 0), (.getfield 17, 12, 6), (.aload_n 0, 0, 0), (.getfield 303, 12, 40)]) (i := .iaload) (a1 := 0) (a2 := 0) (pc1 := 233) (l1 := [(0, .ref 106), (1, .int x1), (2, .int x2), (3, .int x3)]) (st1 := [.int (σ.1 106 40), .ref 108]) (σ1 := σ) (by decide +kernel) rfl (fun hC => ?_)
            obtain ⟨hi, h⟩ := jx_ite0_inv h
            refine jE_iald (n := 1202) hC (by decide) rfl hi ?_
            refine jE_blk (bs := [(.bipush (14), 14, 0)]) (i := .if_icmp .ne (43)) (a1 := 0) (a2 := 0) (pc1 := 236) (l1 := [(0, .ref 106), (1, .int x1), (2, .int x2), (3, .int x3)]) (st1 := [.int (14 : Int32), .int ((σ.1 108) ((σ.1 106 40)).toNatClampNeg)]) (σ1 := σ) (by decide +kernel) rfl (fun hC => ?_)
            rcases Classical.em (¬ ((σ.1 108) ((σ.1 106 40)).toNatClampNeg) = (14 : Int32)) with hc | hc
            · rw [if_pos hc] at h
              refine jE_icT 279 hC (by decide) hc ?_
              refine jE_blk (bs := [(.aload_n 0, 0, 0), (.getfield 17, 12, 6), (.aload_n 0, 0, 0), (.getfield 303, 12, 40)]) (i := .iaload) (a1 := 0) (a2 := 0) (pc1 := 287) (l1 := [(0, .ref 106), (1, .int x1), (2, .int x2), (3, .int x3)]) (st1 := [.int (σ.1 106 40), .ref 108]) (σ1 := σ) (by decide +kernel) rfl (fun hC => ?_)
              obtain ⟨hi, h⟩ := jx_ite0_inv h
              refine jE_iald (n := 1202) hC (by decide) rfl hi ?_
              refine jE_blk (bs := [(.iconst (1), 1, 0)]) (i := .if_icmp .ne (27)) (a1 := 0) (a2 := 0) (pc1 := 289) (l1 := [(0, .ref 106), (1, .int x1), (2, .int x2), (3, .int x3)]) (st1 := [.int (1 : Int32), .int ((σ.1 108) ((σ.1 106 40)).toNatClampNeg)]) (σ1 := σ) (by decide +kernel) rfl (fun hC => ?_)
              rcases Classical.em (¬ ((σ.1 108) ((σ.1 106 40)).toNatClampNeg) = (1 : Int32)) with hc | hc
              · rw [if_pos hc] at h
                refine jE_icT 316 hC (by decide) hc ?_
                refine jE_blk (bs := [(.aload_n 0, 0, 0), (.bipush (16), 16, 0), (.iconst (0), 0, 0), (.iconst (0), 0, 0)]) (i := .invokevirtual 342) (a1 := 162) (a2 := 0) (pc1 := 321) (l1 := [(0, .ref 106), (1, .int x1), (2, .int x2), (3, .int x3)]) (st1 := [.int (0 : Int32), .int (0 : Int32), .int (16 : Int32), .ref 106]) (σ1 := σ) (by decide +kernel) rfl (fun hC => ?_)
                obtain ⟨q9, hq, h⟩ := Option.bind_eq_some_iff.mp h
                refine jE_call (as := [.ref 106, .int (16 : Int32), .int (0 : Int32), .int (0 : Int32)]) (pc1 := 324) (st1 := []) hC rfl (by decide) (by omega) (x_r_later (d - 1) (by omega) (16 : Int32) (0 : Int32) (0 : Int32) σ q9 (none, q9) hq rfl) ?_
                refine jE_blk (bs := [(.goto (233), 0, 0)]) (i := .return_) (a1 := 0) (a2 := 0) (pc1 := 557) (l1 := [(0, .ref 106), (1, .int x1), (2, .int x2), (3, .int x3)]) (st1 := []) (σ1 := q9) (by decide +kernel) rfl (fun hC => ?_)
                have h9 := Option.some.inj h
                subst h9
                have e9 : ((none, q9) : Option Value × jx_S) = res := hK
                subst e9
                exact jE_ret hC rfl
              · rw [if_neg hc] at h
                refine jE_icF 316 hC (by decide) hc ?_
                refine jE_blk (bs := [(.aload_n 0, 0, 0), (.bipush (15), 15, 0), (.aload_n 0, 0, 0), (.getfield 303, 12, 40), (.iconst (0), 0, 0)]) (i := .invokevirtual 342) (a1 := 162) (a2 := 0) (pc1 := 300) (l1 := [(0, .ref 106), (1, .int x1), (2, .int x2), (3, .int x3)]) (st1 := [.int (0 : Int32), .int (σ.1 106 40), .int (15 : Int32), .ref 106]) (σ1 := σ) (by decide +kernel) rfl (fun hC => ?_)
                obtain ⟨q10, hq, h⟩ := Option.bind_eq_some_iff.mp h
                refine jE_call (as := [.ref 106, .int (15 : Int32), .int (σ.1 106 40), .int (0 : Int32)]) (pc1 := 303) (st1 := []) hC rfl (by decide) (by omega) (x_r_later (d - 1) (by omega) (15 : Int32) (σ.1 106 40) (0 : Int32) σ q10 (none, q10) hq rfl) ?_
                refine jE_blk (bs := [(.aload_n 0, 0, 0), (.dup, 0, 0), (.getfield 303, 12, 40), (.iconst (1), 1, 0), (.iadd, 0, 0), (.putfield 303, 12, 40), (.goto (244), 0, 0)]) (i := .return_) (a1 := 0) (a2 := 0) (pc1 := 557) (l1 := [(0, .ref 106), (1, .int x1), (2, .int x2), (3, .int x3)]) (st1 := []) (σ1 := (jx_i q10 106 40 ((q10.1 106 40) + (1 : Int32)))) (by decide +kernel) rfl (fun hC => ?_)
                have h9 := Option.some.inj h
                subst h9
                have e9 : ((none, (jx_i q10 106 40 ((q10.1 106 40) + (1 : Int32)))) : Option Value × jx_S) = res := hK
                subst e9
                exact jE_ret hC rfl
            · rw [if_neg hc] at h
              refine jE_icF 279 hC (by decide) hc ?_
              refine jE_blk (bs := [(.aload_n 0, 0, 0), (.bipush (20), 20, 0), (.aload_n 0, 0, 0), (.getfield 303, 12, 40), (.iconst (0), 0, 0)]) (i := .invokevirtual 342) (a1 := 162) (a2 := 0) (pc1 := 247) (l1 := [(0, .ref 106), (1, .int x1), (2, .int x2), (3, .int x3)]) (st1 := [.int (0 : Int32), .int (σ.1 106 40), .int (20 : Int32), .ref 106]) (σ1 := σ) (by decide +kernel) rfl (fun hC => ?_)
              obtain ⟨q11, hq, h⟩ := Option.bind_eq_some_iff.mp h
              refine jE_call (as := [.ref 106, .int (20 : Int32), .int (σ.1 106 40), .int (0 : Int32)]) (pc1 := 250) (st1 := []) hC rfl (by decide) (by omega) (x_r_later (d - 1) (by omega) (20 : Int32) (σ.1 106 40) (0 : Int32) σ q11 (none, q11) hq rfl) ?_
              refine jE_blk (bs := [(.aload_n 0, 0, 0), (.bipush (16), 16, 0), (.iconst (0), 0, 0), (.iconst (0), 0, 0)]) (i := .invokevirtual 342) (a1 := 162) (a2 := 0) (pc1 := 255) (l1 := [(0, .ref 106), (1, .int x1), (2, .int x2), (3, .int x3)]) (st1 := [.int (0 : Int32), .int (0 : Int32), .int (16 : Int32), .ref 106]) (σ1 := q11) (by decide +kernel) rfl (fun hC => ?_)
              obtain ⟨q12, hq, h⟩ := Option.bind_eq_some_iff.mp h
              refine jE_call (as := [.ref 106, .int (16 : Int32), .int (0 : Int32), .int (0 : Int32)]) (pc1 := 258) (st1 := []) hC rfl (by decide) (by omega) (x_r_later (d - 1) (by omega) (16 : Int32) (0 : Int32) (0 : Int32) q11 q12 (none, q12) hq rfl) ?_
              refine jE_blk (bs := [(.aload_n 0, 0, 0), (.bipush (16), 16, 0), (.iconst (0), 0, 0), (.iconst (0), 0, 0)]) (i := .invokevirtual 342) (a1 := 162) (a2 := 0) (pc1 := 263) (l1 := [(0, .ref 106), (1, .int x1), (2, .int x2), (3, .int x3)]) (st1 := [.int (0 : Int32), .int (0 : Int32), .int (16 : Int32), .ref 106]) (σ1 := q12) (by decide +kernel) rfl (fun hC => ?_)
              obtain ⟨q13, hq, h⟩ := Option.bind_eq_some_iff.mp h
              refine jE_call (as := [.ref 106, .int (16 : Int32), .int (0 : Int32), .int (0 : Int32)]) (pc1 := 266) (st1 := []) hC rfl (by decide) (by omega) (x_r_later (d - 1) (by omega) (16 : Int32) (0 : Int32) (0 : Int32) q12 q13 (none, q13) hq rfl) ?_
              refine jE_blk (bs := [(.aload_n 0, 0, 0), (.dup, 0, 0), (.getfield 303, 12, 40), (.iconst (1), 1, 0), (.iadd, 0, 0), (.putfield 303, 12, 40), (.goto (281), 0, 0)]) (i := .return_) (a1 := 0) (a2 := 0) (pc1 := 557) (l1 := [(0, .ref 106), (1, .int x1), (2, .int x2), (3, .int x3)]) (st1 := []) (σ1 := (jx_i q13 106 40 ((q13.1 106 40) + (1 : Int32)))) (by decide +kernel) rfl (fun hC => ?_)
              have h9 := Option.some.inj h
              subst h9
              have e9 : ((none, (jx_i q13 106 40 ((q13.1 106 40) + (1 : Int32)))) : Option Value × jx_S) = res := hK
              subst e9
              exact jE_ret hC rfl
          · rw [if_neg hc4] at h
            rcases Classical.em (x1 = 15) with hc5 | hc5
            · rw [if_pos hc5] at h
              refine jE_tsw 327 15 hC hc5 (by decide +kernel) ?_
              refine jE_blk (bs := [(.aload_n 0, 0, 0), (.getfield 17, 12, 6), (.aload_n 0, 0, 0), (.getfield 303, 12, 40)]) (i := .iaload) (a1 := 0) (a2 := 0) (pc1 := 335) (l1 := [(0, .ref 106), (1, .int x1), (2, .int x2), (3, .int x3)]) (st1 := [.int (σ.1 106 40), .ref 108]) (σ1 := σ) (by decide +kernel) rfl (fun hC => ?_)
              obtain ⟨hi, h⟩ := jx_ite0_inv h
              refine jE_iald (n := 1202) hC (by decide) rfl hi ?_
              refine jE_blk (bs := [(.istore 5, 10, 0), (.iload 5, 0, 0), (.iconst (2), 2, 0)]) (i := .if_icmp .eq (30)) (a1 := 0) (a2 := 0) (pc1 := 341) (l1 := [(5, .int ((σ.1 108) ((σ.1 106 40)).toNatClampNeg)), (0, .ref 106), (1, .int x1), (2, .int x2), (3, .int x3)]) (st1 := [.int (2 : Int32), .int ((σ.1 108) ((σ.1 106 40)).toNatClampNeg)]) (σ1 := σ) (by decide +kernel) rfl (fun hC => ?_)
              rcases Classical.em (((σ.1 108) ((σ.1 106 40)).toNatClampNeg) = (2 : Int32)) with hc | hc
              · rw [if_pos hc] at h
                refine jE_icT 371 hC (by decide) hc ?_
                exact jE_loc (l := [(0, .ref 106), (2, .int x2), (3, .int x3)]) (ks := [0, 2, 3]) rfl (by decide) ⟨rfl, rfl, rfl, trivial⟩ (x_r_readMore_371 d hd x2 x3 σ _ res h hK)
              · rw [if_neg hc] at h
                refine jE_icF 371 hC (by decide) hc ?_
                refine jE_blk (bs := [(.iload 5, 0, 0), (.iconst (1), 1, 0)]) (i := .if_icmp .eq (24)) (a1 := 0) (a2 := 0) (pc1 := 347) (l1 := [(5, .int ((σ.1 108) ((σ.1 106 40)).toNatClampNeg)), (0, .ref 106), (1, .int x1), (2, .int x2), (3, .int x3)]) (st1 := [.int (1 : Int32), .int ((σ.1 108) ((σ.1 106 40)).toNatClampNeg)]) (σ1 := σ) (by decide +kernel) rfl (fun hC => ?_)
                rcases Classical.em (((σ.1 108) ((σ.1 106 40)).toNatClampNeg) = (1 : Int32)) with hc | hc
                · rw [if_pos hc] at h
                  refine jE_icT 371 hC (by decide) hc ?_
                  exact jE_loc (l := [(0, .ref 106), (2, .int x2), (3, .int x3)]) (ks := [0, 2, 3]) rfl (by decide) ⟨rfl, rfl, rfl, trivial⟩ (x_r_readMore_371 d hd x2 x3 σ _ res h hK)
                · rw [if_neg hc] at h
                  refine jE_icF 371 hC (by decide) hc ?_
                  refine jE_blk (bs := [(.iload 5, 0, 0), (.bipush (13), 13, 0)]) (i := .if_icmp .eq (17)) (a1 := 0) (a2 := 0) (pc1 := 354) (l1 := [(5, .int ((σ.1 108) ((σ.1 106 40)).toNatClampNeg)), (0, .ref 106), (1, .int x1), (2, .int x2), (3, .int x3)]) (st1 := [.int (13 : Int32), .int ((σ.1 108) ((σ.1 106 40)).toNatClampNeg)]) (σ1 := σ) (by decide +kernel) rfl (fun hC => ?_)
                  rcases Classical.em (((σ.1 108) ((σ.1 106 40)).toNatClampNeg) = (13 : Int32)) with hc | hc
                  · rw [if_pos hc] at h
                    refine jE_icT 371 hC (by decide) hc ?_
                    exact jE_loc (l := [(0, .ref 106), (2, .int x2), (3, .int x3)]) (ks := [0, 2, 3]) rfl (by decide) ⟨rfl, rfl, rfl, trivial⟩ (x_r_readMore_371 d hd x2 x3 σ _ res h hK)
                  · rw [if_neg hc] at h
                    refine jE_icF 371 hC (by decide) hc ?_
                    refine jE_blk (bs := [(.iload 5, 0, 0), (.bipush (15), 15, 0)]) (i := .if_icmp .eq (10)) (a1 := 0) (a2 := 0) (pc1 := 361) (l1 := [(5, .int ((σ.1 108) ((σ.1 106 40)).toNatClampNeg)), (0, .ref 106), (1, .int x1), (2, .int x2), (3, .int x3)]) (st1 := [.int (15 : Int32), .int ((σ.1 108) ((σ.1 106 40)).toNatClampNeg)]) (σ1 := σ) (by decide +kernel) rfl (fun hC => ?_)
                    rcases Classical.em (((σ.1 108) ((σ.1 106 40)).toNatClampNeg) = (15 : Int32)) with hc | hc
                    · rw [if_pos hc] at h
                      refine jE_icT 371 hC (by decide) hc ?_
                      exact jE_loc (l := [(0, .ref 106), (2, .int x2), (3, .int x3)]) (ks := [0, 2, 3]) rfl (by decide) ⟨rfl, rfl, rfl, trivial⟩ (x_r_readMore_371 d hd x2 x3 σ _ res h hK)
                    · rw [if_neg hc] at h
                      refine jE_icF 371 hC (by decide) hc ?_
                      refine jE_blk (bs := [(.iload 5, 0, 0), (.bipush (16), 16, 0)]) (i := .if_icmp .ne (24)) (a1 := 0) (a2 := 0) (pc1 := 368) (l1 := [(5, .int ((σ.1 108) ((σ.1 106 40)).toNatClampNeg)), (0, .ref 106), (1, .int x1), (2, .int x2), (3, .int x3)]) (st1 := [.int (16 : Int32), .int ((σ.1 108) ((σ.1 106 40)).toNatClampNeg)]) (σ1 := σ) (by decide +kernel) rfl (fun hC => ?_)
                      rcases Classical.em (¬ ((σ.1 108) ((σ.1 106 40)).toNatClampNeg) = (16 : Int32)) with hc | hc
                      · rw [if_pos hc] at h
                        refine jE_icT 392 hC (by decide) hc ?_
                        refine jE_blk (bs := [(.aload_n 0, 0, 0), (.aload_n 0, 0, 0), (.iload_n 2, 0, 0), (.iload_n 3, 0, 0)]) (i := .invokevirtual 368) (a1 := 170) (a2 := 0) (pc1 := 396) (l1 := [(5, .int ((σ.1 108) ((σ.1 106 40)).toNatClampNeg)), (0, .ref 106), (1, .int x1), (2, .int x2), (3, .int x3)]) (st1 := [.int x3, .int x2, .ref 106, .ref 106]) (σ1 := σ) (by decide +kernel) rfl (fun hC => ?_)
                        obtain ⟨q16, hq, h⟩ := Option.bind_eq_some_iff.mp h
                        refine jE_call (as := [.ref 106, .int x2, .int x3]) (pc1 := 399) (st1 := [.ref 106]) hC rfl (by decide) (by omega) (x_r_nameNode (d - 1) (by omega) x2 x3 σ q16 (some (.int q16.1), q16.2) hq rfl) ?_
                        refine jE_blk (bs := []) (i := .invokevirtual 359) (a1 := 165) (a2 := 0) (pc1 := 399) (l1 := [(5, .int ((σ.1 108) ((σ.1 106 40)).toNatClampNeg)), (0, .ref 106), (1, .int x1), (2, .int x2), (3, .int x3)]) (st1 := [.int q16.1, .ref 106]) (σ1 := q16.2) (by decide +kernel) rfl (fun hC => ?_)
                        obtain ⟨q17, hq, h⟩ := Option.bind_eq_some_iff.mp h
                        refine jE_call (as := [.ref 106, .int q16.1]) (pc1 := 402) (st1 := []) hC rfl (by decide) (by omega) (x_r_give (d - 1) (by omega) q16.1 q16.2 q17 (none, q17) hq rfl) ?_
                        refine jE_blk (bs := [(.goto (155), 0, 0)]) (i := .return_) (a1 := 0) (a2 := 0) (pc1 := 557) (l1 := [(5, .int ((σ.1 108) ((σ.1 106 40)).toNatClampNeg)), (0, .ref 106), (1, .int x1), (2, .int x2), (3, .int x3)]) (st1 := []) (σ1 := q17) (by decide +kernel) rfl (fun hC => ?_)
                        have h9 := Option.some.inj h
                        subst h9
                        have e9 : ((none, q17) : Option Value × jx_S) = res := hK
                        subst e9
                        exact jE_ret hC rfl
                      · rw [if_neg hc] at h
                        refine jE_icF 392 hC (by decide) hc ?_
                        exact jE_loc (l := [(0, .ref 106), (2, .int x2), (3, .int x3)]) (ks := [0, 2, 3]) rfl (by decide) ⟨rfl, rfl, rfl, trivial⟩ (x_r_readMore_371 d hd x2 x3 σ _ res h hK)
            · rw [if_neg hc5] at h
              rcases Classical.em (x1 = 16) with hc6 | hc6
              · rw [if_pos hc6] at h
                refine jE_tsw 405 16 hC hc6 (by decide +kernel) ?_
                refine jE_blk (bs := [(.aload_n 0, 0, 0)]) (i := .invokevirtual 371) (a1 := 171) (a2 := 0) (pc1 := 406) (l1 := [(0, .ref 106), (1, .int x1), (2, .int x2), (3, .int x3)]) (st1 := [.ref 106]) (σ1 := σ) (by decide +kernel) rfl (fun hC => ?_)
                obtain ⟨q18, hq, h⟩ := Option.bind_eq_some_iff.mp h
                refine jE_call (as := [.ref 106]) (pc1 := 409) (st1 := []) hC rfl (by decide) (by omega) (x_r_atom (d - 1) (by omega) σ q18 (none, q18) hq rfl) ?_
                refine jE_blk (bs := [(.goto (148), 0, 0)]) (i := .return_) (a1 := 0) (a2 := 0) (pc1 := 557) (l1 := [(0, .ref 106), (1, .int x1), (2, .int x2), (3, .int x3)]) (st1 := []) (σ1 := q18) (by decide +kernel) rfl (fun hC => ?_)
                have h9 := Option.some.inj h
                subst h9
                have e9 : ((none, q18) : Option Value × jx_S) = res := hK
                subst e9
                exact jE_ret hC rfl
              · rw [if_neg hc6] at h
                rcases Classical.em (x1 = 17) with hc7 | hc7
                · rw [if_pos hc7] at h
                  refine jE_tsw 412 17 hC hc7 (by decide +kernel) ?_
                  refine jE_blk (bs := [(.aload_n 0, 0, 0), (.bipush (17), 17, 0)]) (i := .invokevirtual 338) (a1 := 156) (a2 := 0) (pc1 := 415) (l1 := [(0, .ref 106), (1, .int x1), (2, .int x2), (3, .int x3)]) (st1 := [.int (17 : Int32), .ref 106]) (σ1 := σ) (by decide +kernel) rfl (fun hC => ?_)
                  obtain ⟨q19, hq, h⟩ := Option.bind_eq_some_iff.mp h
                  refine jE_call (as := [.ref 106, .int (17 : Int32)]) (pc1 := 418) (st1 := []) hC rfl (by decide) (by omega) (x_r_expect (d - 1) (by omega) (17 : Int32) σ q19 (none, q19) hq rfl) ?_
                  refine jE_blk (bs := [(.goto (139), 0, 0)]) (i := .return_) (a1 := 0) (a2 := 0) (pc1 := 557) (l1 := [(0, .ref 106), (1, .int x1), (2, .int x2), (3, .int x3)]) (st1 := []) (σ1 := q19) (by decide +kernel) rfl (fun hC => ?_)
                  have h9 := Option.some.inj h
                  subst h9
                  have e9 : ((none, q19) : Option Value × jx_S) = res := hK
                  subst e9
                  exact jE_ret hC rfl
                · rw [if_neg hc7] at h
                  rcases Classical.em (x1 = 18) with hc8 | hc8
                  · rw [if_pos hc8] at h
                    refine jE_tsw 421 18 hC hc8 (by decide +kernel) ?_
                    refine jE_blk (bs := [(.aload_n 0, 0, 0), (.getfield 17, 12, 6), (.aload_n 0, 0, 0), (.getfield 303, 12, 40)]) (i := .iaload) (a1 := 0) (a2 := 0) (pc1 := 429) (l1 := [(0, .ref 106), (1, .int x1), (2, .int x2), (3, .int x3)]) (st1 := [.int (σ.1 106 40), .ref 108]) (σ1 := σ) (by decide +kernel) rfl (fun hC => ?_)
                    obtain ⟨hi, h⟩ := jx_ite0_inv h
                    refine jE_iald (n := 1202) hC (by decide) rfl hi ?_
                    refine jE_blk (bs := [(.bipush (19), 19, 0)]) (i := .if_icmp .eq (17)) (a1 := 0) (a2 := 0) (pc1 := 432) (l1 := [(0, .ref 106), (1, .int x1), (2, .int x2), (3, .int x3)]) (st1 := [.int (19 : Int32), .int ((σ.1 108) ((σ.1 106 40)).toNatClampNeg)]) (σ1 := σ) (by decide +kernel) rfl (fun hC => ?_)
                    rcases Classical.em (((σ.1 108) ((σ.1 106 40)).toNatClampNeg) = (19 : Int32)) with hc | hc
                    · rw [if_pos hc] at h
                      refine jE_icT 449 hC (by decide) hc ?_
                      exact jE_loc (l := [(0, .ref 106)]) (ks := [0]) rfl (by decide) ⟨rfl, trivial⟩ (x_r_readMore_449 d hd σ _ res h hK)
                    · rw [if_neg hc] at h
                      refine jE_icF 449 hC (by decide) hc ?_
                      refine jE_blk (bs := [(.aload_n 0, 0, 0), (.getfield 17, 12, 6), (.aload_n 0, 0, 0), (.getfield 303, 12, 40)]) (i := .iaload) (a1 := 0) (a2 := 0) (pc1 := 443) (l1 := [(0, .ref 106), (1, .int x1), (2, .int x2), (3, .int x3)]) (st1 := [.int (σ.1 106 40), .ref 108]) (σ1 := σ) (by decide +kernel) rfl (fun hC => ?_)
                      obtain ⟨hi, h⟩ := jx_ite0_inv h
                      refine jE_iald (n := 1202) hC (by decide) rfl hi ?_
                      refine jE_blk (bs := [(.bipush (27), 27, 0)]) (i := .if_icmp .ne (111)) (a1 := 0) (a2 := 0) (pc1 := 446) (l1 := [(0, .ref 106), (1, .int x1), (2, .int x2), (3, .int x3)]) (st1 := [.int (27 : Int32), .int ((σ.1 108) ((σ.1 106 40)).toNatClampNeg)]) (σ1 := σ) (by decide +kernel) rfl (fun hC => ?_)
                      rcases Classical.em (¬ ((σ.1 108) ((σ.1 106 40)).toNatClampNeg) = (27 : Int32)) with hc | hc
                      · rw [if_pos hc] at h
                        refine jE_icT 557 hC (by decide) hc ?_
                        refine jE_blk (bs := []) (i := .return_) (a1 := 0) (a2 := 0) (pc1 := 557) (l1 := [(0, .ref 106), (1, .int x1), (2, .int x2), (3, .int x3)]) (st1 := []) (σ1 := σ) (by decide +kernel) rfl (fun hC => ?_)
                        have h9 := Option.some.inj h
                        subst h9
                        have e9 : ((none, σ) : Option Value × jx_S) = res := hK
                        subst e9
                        exact jE_ret hC rfl
                      · rw [if_neg hc] at h
                        refine jE_icF 557 hC (by decide) hc ?_
                        exact jE_loc (l := [(0, .ref 106)]) (ks := [0]) rfl (by decide) ⟨rfl, trivial⟩ (x_r_readMore_449 d hd σ _ res h hK)
                  · rw [if_neg hc8] at h
                    rcases Classical.em (x1 = 19) with hc9 | hc9
                    · rw [if_pos hc9] at h
                      refine jE_tsw 481 19 hC hc9 (by decide +kernel) ?_
                      refine jE_blk (bs := [(.aload_n 0, 0, 0)]) (i := .invokevirtual 352) (a1 := 163) (a2 := 0) (pc1 := 482) (l1 := [(0, .ref 106), (1, .int x1), (2, .int x2), (3, .int x3)]) (st1 := [.ref 106]) (σ1 := σ) (by decide +kernel) rfl (fun hC => ?_)
                      obtain ⟨q22, hq, h⟩ := Option.bind_eq_some_iff.mp h
                      refine jE_call (as := [.ref 106]) (pc1 := 485) (st1 := []) hC rfl (by decide) (by omega) (x_r_take (d - 1) (by omega) σ q22 (some (.int q22.1), q22.2) hq rfl) ?_
                      refine jE_blk (bs := [(.istore 6, 10, 0), (.aload_n 0, 0, 0)]) (i := .invokevirtual 352) (a1 := 163) (a2 := 0) (pc1 := 488) (l1 := [(6, .int q22.1), (0, .ref 106), (1, .int x1), (2, .int x2), (3, .int x3)]) (st1 := [.ref 106]) (σ1 := q22.2) (by decide +kernel) rfl (fun hC => ?_)
                      obtain ⟨q23, hq, h⟩ := Option.bind_eq_some_iff.mp h
                      refine jE_call (as := [.ref 106]) (pc1 := 491) (st1 := []) hC rfl (by decide) (by omega) (x_r_take (d - 1) (by omega) q22.2 q23 (some (.int q23.1), q23.2) hq rfl) ?_
                      refine jE_blk (bs := [(.istore 7, 10, 0), (.aload_n 0, 0, 0), (.aload_n 0, 0, 0), (.aload_n 0, 0, 0), (.getfield 17, 12, 6), (.iload_n 2, 0, 0)]) (i := .iaload) (a1 := 0) (a2 := 0) (pc1 := 500) (l1 := [(7, .int q23.1), (6, .int q22.1), (0, .ref 106), (1, .int x1), (2, .int x2), (3, .int x3)]) (st1 := [.int x2, .ref 108, .ref 106, .ref 106]) (σ1 := q23.2) (by decide +kernel) rfl (fun hC => ?_)
                      obtain ⟨hi, h⟩ := jx_ite0_inv h
                      refine jE_iald (n := 1202) hC (by decide) rfl hi ?_
                      refine jE_blk (bs := [(.iload_n 2, 0, 0), (.iload 7, 0, 0), (.iload 6, 0, 0), (.iconst (-1), 1, 1)]) (i := .invokevirtual 355) (a1 := 164) (a2 := 0) (pc1 := 507) (l1 := [(7, .int q23.1), (6, .int q22.1), (0, .ref 106), (1, .int x1), (2, .int x2), (3, .int x3)]) (st1 := [.int (-1 : Int32), .int q22.1, .int q23.1, .int x2, .int ((q23.2.1 108) (x2).toNatClampNeg), .ref 106, .ref 106]) (σ1 := q23.2) (by decide +kernel) rfl (fun hC => ?_)
                      obtain ⟨q24, hq, h⟩ := Option.bind_eq_some_iff.mp h
                      refine jE_call (as := [.ref 106, .int ((q23.2.1 108) (x2).toNatClampNeg), .int x2, .int q23.1, .int q22.1, .int (-1 : Int32)]) (pc1 := 510) (st1 := [.ref 106]) hC rfl (by decide) (by omega) (x_r_node (d - 1) (by omega) ((q23.2.1 108) (x2).toNatClampNeg) x2 q23.1 q22.1 (-1 : Int32) q23.2 q24 (some (.int q24.1), q24.2) hq rfl) ?_
                      refine jE_blk (bs := []) (i := .invokevirtual 359) (a1 := 165) (a2 := 0) (pc1 := 510) (l1 := [(7, .int q23.1), (6, .int q22.1), (0, .ref 106), (1, .int x1), (2, .int x2), (3, .int x3)]) (st1 := [.int q24.1, .ref 106]) (σ1 := q24.2) (by decide +kernel) rfl (fun hC => ?_)
                      obtain ⟨q25, hq, h⟩ := Option.bind_eq_some_iff.mp h
                      refine jE_call (as := [.ref 106, .int q24.1]) (pc1 := 513) (st1 := []) hC rfl (by decide) (by omega) (x_r_give (d - 1) (by omega) q24.1 q24.2 q25 (none, q25) hq rfl) ?_
                      refine jE_blk (bs := [(.goto (44), 0, 0)]) (i := .return_) (a1 := 0) (a2 := 0) (pc1 := 557) (l1 := [(7, .int q23.1), (6, .int q22.1), (0, .ref 106), (1, .int x1), (2, .int x2), (3, .int x3)]) (st1 := []) (σ1 := q25) (by decide +kernel) rfl (fun hC => ?_)
                      have h9 := Option.some.inj h
                      subst h9
                      have e9 : ((none, q25) : Option Value × jx_S) = res := hK
                      subst e9
                      exact jE_ret hC rfl
                    · rw [if_neg hc9] at h
                      rcases Classical.em (x1 = 20) with hc10 | hc10
                      · rw [if_pos hc10] at h
                        refine jE_tsw 516 20 hC hc10 (by decide +kernel) ?_
                        refine jE_blk (bs := [(.aload_n 0, 0, 0)]) (i := .invokevirtual 352) (a1 := 163) (a2 := 0) (pc1 := 517) (l1 := [(0, .ref 106), (1, .int x1), (2, .int x2), (3, .int x3)]) (st1 := [.ref 106]) (σ1 := σ) (by decide +kernel) rfl (fun hC => ?_)
                        obtain ⟨q26, hq, h⟩ := Option.bind_eq_some_iff.mp h
                        refine jE_call (as := [.ref 106]) (pc1 := 520) (st1 := []) hC rfl (by decide) (by omega) (x_r_take (d - 1) (by omega) σ q26 (some (.int q26.1), q26.2) hq rfl) ?_
                        refine jE_blk (bs := [(.istore 8, 10, 0), (.aload_n 0, 0, 0)]) (i := .invokevirtual 352) (a1 := 163) (a2 := 0) (pc1 := 523) (l1 := [(8, .int q26.1), (0, .ref 106), (1, .int x1), (2, .int x2), (3, .int x3)]) (st1 := [.ref 106]) (σ1 := q26.2) (by decide +kernel) rfl (fun hC => ?_)
                        obtain ⟨q27, hq, h⟩ := Option.bind_eq_some_iff.mp h
                        refine jE_call (as := [.ref 106]) (pc1 := 526) (st1 := []) hC rfl (by decide) (by omega) (x_r_take (d - 1) (by omega) q26.2 q27 (some (.int q27.1), q27.2) hq rfl) ?_
                        refine jE_blk (bs := [(.istore 9, 10, 0), (.aload_n 0, 0, 0), (.aload_n 0, 0, 0), (.bipush (14), 14, 0), (.iload_n 2, 0, 0), (.iload 9, 0, 0), (.iload 8, 0, 0), (.iconst (-1), 1, 1)]) (i := .invokevirtual 355) (a1 := 164) (a2 := 0) (pc1 := 538) (l1 := [(9, .int q27.1), (8, .int q26.1), (0, .ref 106), (1, .int x1), (2, .int x2), (3, .int x3)]) (st1 := [.int (-1 : Int32), .int q26.1, .int q27.1, .int x2, .int (14 : Int32), .ref 106, .ref 106]) (σ1 := q27.2) (by decide +kernel) rfl (fun hC => ?_)
                        obtain ⟨q28, hq, h⟩ := Option.bind_eq_some_iff.mp h
                        refine jE_call (as := [.ref 106, .int (14 : Int32), .int x2, .int q27.1, .int q26.1, .int (-1 : Int32)]) (pc1 := 541) (st1 := [.ref 106]) hC rfl (by decide) (by omega) (x_r_node (d - 1) (by omega) (14 : Int32) x2 q27.1 q26.1 (-1 : Int32) q27.2 q28 (some (.int q28.1), q28.2) hq rfl) ?_
                        refine jE_blk (bs := []) (i := .invokevirtual 359) (a1 := 165) (a2 := 0) (pc1 := 541) (l1 := [(9, .int q27.1), (8, .int q26.1), (0, .ref 106), (1, .int x1), (2, .int x2), (3, .int x3)]) (st1 := [.int q28.1, .ref 106]) (σ1 := q28.2) (by decide +kernel) rfl (fun hC => ?_)
                        obtain ⟨q29, hq, h⟩ := Option.bind_eq_some_iff.mp h
                        refine jE_call (as := [.ref 106, .int q28.1]) (pc1 := 544) (st1 := []) hC rfl (by decide) (by omega) (x_r_give (d - 1) (by omega) q28.1 q28.2 q29 (none, q29) hq rfl) ?_
                        refine jE_blk (bs := [(.goto (13), 0, 0)]) (i := .return_) (a1 := 0) (a2 := 0) (pc1 := 557) (l1 := [(9, .int q27.1), (8, .int q26.1), (0, .ref 106), (1, .int x1), (2, .int x2), (3, .int x3)]) (st1 := []) (σ1 := q29) (by decide +kernel) rfl (fun hC => ?_)
                        have h9 := Option.some.inj h
                        subst h9
                        have e9 : ((none, q29) : Option Value × jx_S) = res := hK
                        subst e9
                        exact jE_ret hC rfl
                      · rw [if_neg hc10] at h
                        refine jE_tswD 547 [10, 11, 12, 13, 14, 15, 16, 17, 18, 19, 20] hC (by decide +kernel) ⟨hc0, hc1, hc2, hc3, hc4, hc5, hc6, hc7, hc8, hc9, hc10, trivial⟩ ?_
                        refine jE_blk (bs := [(.aload_n 0, 0, 0), (.dup, 0, 0), (.getfield 332, 12, 48), (.iconst (1), 1, 0), (.isub, 0, 0), (.putfield 332, 12, 48)]) (i := .return_) (a1 := 0) (a2 := 0) (pc1 := 557) (l1 := [(0, .ref 106), (1, .int x1), (2, .int x2), (3, .int x3)]) (st1 := []) (σ1 := (jx_i σ 106 48 ((σ.1 106 48) - (1 : Int32)))) (by decide +kernel) rfl (fun hC => ?_)
                        have h9 := Option.some.inj h
                        subst h9
                        have e9 : ((none, (jx_i σ 106 48 ((σ.1 106 48) - (1 : Int32)))) : Option Value × jx_S) = res := hK
                        subst e9
                        exact jE_ret hC rfl
def p_r_readOne_195 (x2 : Int32) (y0 : Int32) (σ : jx_S) : Option jx_S := ((p_r_later y0 x2 (0 : Int32) σ).bind fun q11 => ((p_r_later (1 : Int32) (0 : Int32) (0 : Int32) q11).bind fun q12 => (some (q12))))
theorem x_r_readOne_195 (d : Nat) (hd : 5 ≤ d) (x2 : Int32) (y0 : Int32) (σ : jx_S) (t : jx_S) (res : Option Value × jx_S) (h : p_r_readOne_195 x2 y0 σ = some t) (hK : kkV t res) : jE d 167 195 [(0, .ref 106), (2, .int x2)] [.int y0, .ref 106] σ res := by
  unfold p_r_readOne_195 at h
  refine jE_blk (bs := [(.iload_n 2, 0, 0), (.iconst (0), 0, 0)]) (i := .invokevirtual 342) (a1 := 162) (a2 := 0) (pc1 := 197) (l1 := [(0, .ref 106), (2, .int x2)]) (st1 := [.int (0 : Int32), .int x2, .int y0, .ref 106]) (σ1 := σ) (by decide +kernel) rfl (fun hC => ?_)
  obtain ⟨q11, hq, h⟩ := Option.bind_eq_some_iff.mp h
  refine jE_call (as := [.ref 106, .int y0, .int x2, .int (0 : Int32)]) (pc1 := 200) (st1 := []) hC rfl (by decide) (by omega) (x_r_later (d - 1) (by omega) y0 x2 (0 : Int32) σ q11 (none, q11) hq rfl) ?_
  refine jE_blk (bs := [(.aload_n 0, 0, 0), (.iconst (1), 1, 0), (.iconst (0), 0, 0), (.iconst (0), 0, 0)]) (i := .invokevirtual 342) (a1 := 162) (a2 := 0) (pc1 := 204) (l1 := [(0, .ref 106), (2, .int x2)]) (st1 := [.int (0 : Int32), .int (0 : Int32), .int (1 : Int32), .ref 106]) (σ1 := q11) (by decide +kernel) rfl (fun hC => ?_)
  obtain ⟨q12, hq, h⟩ := Option.bind_eq_some_iff.mp h
  refine jE_call (as := [.ref 106, .int (1 : Int32), .int (0 : Int32), .int (0 : Int32)]) (pc1 := 207) (st1 := []) hC rfl (by decide) (by omega) (x_r_later (d - 1) (by omega) (1 : Int32) (0 : Int32) (0 : Int32) q11 q12 (none, q12) hq rfl) ?_
  refine jE_blk (bs := [(.goto (182), 0, 0)]) (i := .return_) (a1 := 0) (a2 := 0) (pc1 := 389) (l1 := [(0, .ref 106), (2, .int x2)]) (st1 := []) (σ1 := q12) (by decide +kernel) rfl (fun hC => ?_)
  have h9 := Option.some.inj h
  subst h9
  have e9 : ((none, q12) : Option Value × jx_S) = res := hK
  subst e9
  exact jE_ret hC rfl
def p_r_readOne_180 (x1 : Int32) (x2 : Int32) (y0 : Int32) (σ : jx_S) : Option jx_S := ((p_r_expect y0 σ).bind fun q10 => (if ¬ x1 = (4 : Int32) then (p_r_readOne_195 x2 (6 : Int32) q10) else (p_r_readOne_195 x2 (5 : Int32) q10)))
theorem x_r_readOne_180 (d : Nat) (hd : 5 ≤ d) (x1 : Int32) (x2 : Int32) (y0 : Int32) (σ : jx_S) (t : jx_S) (res : Option Value × jx_S) (h : p_r_readOne_180 x1 x2 y0 σ = some t) (hK : kkV t res) : jE d 167 180 [(0, .ref 106), (1, .int x1), (2, .int x2)] [.int y0, .ref 106] σ res := by
  unfold p_r_readOne_180 at h
  refine jE_blk (bs := []) (i := .invokevirtual 338) (a1 := 156) (a2 := 0) (pc1 := 180) (l1 := [(0, .ref 106), (1, .int x1), (2, .int x2)]) (st1 := [.int y0, .ref 106]) (σ1 := σ) (by decide +kernel) rfl (fun hC => ?_)
  obtain ⟨q10, hq, h⟩ := Option.bind_eq_some_iff.mp h
  refine jE_call (as := [.ref 106, .int y0]) (pc1 := 183) (st1 := []) hC rfl (by decide) (by omega) (x_r_expect (d - 1) (by omega) y0 σ q10 (none, q10) hq rfl) ?_
  refine jE_blk (bs := [(.aload_n 0, 0, 0), (.iload_n 1, 0, 0), (.iconst (4), 4, 0)]) (i := .if_icmp .ne (7)) (a1 := 0) (a2 := 0) (pc1 := 186) (l1 := [(0, .ref 106), (1, .int x1), (2, .int x2)]) (st1 := [.int (4 : Int32), .int x1, .ref 106]) (σ1 := q10) (by decide +kernel) rfl (fun hC => ?_)
  rcases Classical.em (¬ x1 = (4 : Int32)) with hc | hc
  · rw [if_pos hc] at h
    refine jE_icT 193 hC (by decide) hc ?_
    refine jE_blk (bs := [(.bipush (6), 6, 0)]) (i := .iload_n 2) (a1 := 0) (a2 := 0) (pc1 := 195) (l1 := [(0, .ref 106), (1, .int x1), (2, .int x2)]) (st1 := [.int (6 : Int32), .ref 106]) (σ1 := q10) (by decide +kernel) rfl (fun hC => ?_)
    exact jE_loc (l := [(0, .ref 106), (2, .int x2)]) (ks := [0, 2]) rfl (by decide) ⟨rfl, rfl, trivial⟩ (x_r_readOne_195 d hd x2 (6 : Int32) q10 _ res h hK)
  · rw [if_neg hc] at h
    refine jE_icF 193 hC (by decide) hc ?_
    refine jE_blk (bs := [(.iconst (5), 5, 0), (.goto (5), 0, 0)]) (i := .iload_n 2) (a1 := 0) (a2 := 0) (pc1 := 195) (l1 := [(0, .ref 106), (1, .int x1), (2, .int x2)]) (st1 := [.int (5 : Int32), .ref 106]) (σ1 := q10) (by decide +kernel) rfl (fun hC => ?_)
    exact jE_loc (l := [(0, .ref 106), (2, .int x2)]) (ks := [0, 2]) rfl (by decide) ⟨rfl, rfl, trivial⟩ (x_r_readOne_195 d hd x2 (5 : Int32) q10 _ res h hK)
def p_r_readOne_167 (x1 : Int32) (x2 : Int32) (σ : jx_S) : Option jx_S := (if ¬ x1 = (4 : Int32) then (p_r_readOne_180 x1 x2 (9 : Int32) σ) else (p_r_readOne_180 x1 x2 (8 : Int32) σ))
theorem x_r_readOne_167 (d : Nat) (hd : 5 ≤ d) (x1 : Int32) (x2 : Int32) (σ : jx_S) (t : jx_S) (res : Option Value × jx_S) (h : p_r_readOne_167 x1 x2 σ = some t) (hK : kkV t res) : jE d 167 167 [(0, .ref 106), (1, .int x1), (2, .int x2)] [] σ res := by
  unfold p_r_readOne_167 at h
  refine jE_blk (bs := [(.aload_n 0, 0, 0), (.iload_n 1, 0, 0), (.iconst (4), 4, 0)]) (i := .if_icmp .ne (8)) (a1 := 0) (a2 := 0) (pc1 := 170) (l1 := [(0, .ref 106), (1, .int x1), (2, .int x2)]) (st1 := [.int (4 : Int32), .int x1, .ref 106]) (σ1 := σ) (by decide +kernel) rfl (fun hC => ?_)
  rcases Classical.em (¬ x1 = (4 : Int32)) with hc | hc
  · rw [if_pos hc] at h
    refine jE_icT 178 hC (by decide) hc ?_
    refine jE_blk (bs := [(.bipush (9), 9, 0)]) (i := .invokevirtual 338) (a1 := 156) (a2 := 0) (pc1 := 180) (l1 := [(0, .ref 106), (1, .int x1), (2, .int x2)]) (st1 := [.int (9 : Int32), .ref 106]) (σ1 := σ) (by decide +kernel) rfl (fun hC => ?_)
    exact jE_loc (l := [(0, .ref 106), (1, .int x1), (2, .int x2)]) (ks := [0, 1, 2]) rfl (by decide) ⟨rfl, rfl, rfl, trivial⟩ (x_r_readOne_180 d hd x1 x2 (9 : Int32) σ _ res h hK)
  · rw [if_neg hc] at h
    refine jE_icF 178 hC (by decide) hc ?_
    refine jE_blk (bs := [(.bipush (8), 8, 0), (.goto (5), 0, 0)]) (i := .invokevirtual 338) (a1 := 156) (a2 := 0) (pc1 := 180) (l1 := [(0, .ref 106), (1, .int x1), (2, .int x2)]) (st1 := [.int (8 : Int32), .ref 106]) (σ1 := σ) (by decide +kernel) rfl (fun hC => ?_)
    exact jE_loc (l := [(0, .ref 106), (1, .int x1), (2, .int x2)]) (ks := [0, 1, 2]) rfl (by decide) ⟨rfl, rfl, rfl, trivial⟩ (x_r_readOne_180 d hd x1 x2 (8 : Int32) σ _ res h hK)
def p_r_readOne (x1 : Int32) (x2 : Int32) (x3 : Int32) (σ : jx_S) : Option jx_S := (if x1 = 1 then ((p_r_expression σ).bind fun q1 => (some (q1))) else (if x1 = 2 then ((p_r_expect (6 : Int32) σ).bind fun q2 => ((p_r_enter (x3 - x3 / (100 : Int32) * (100 : Int32)) (x3 / (100 : Int32)) q2).bind fun q3 => ((p_r_later (3 : Int32) x2 (x3 - x3 / (100 : Int32) * (100 : Int32)) q3).bind fun q4 => ((p_r_later (1 : Int32) (0 : Int32) (0 : Int32) q4).bind fun q5 => (some (q5)))))) else (if x1 = 3 then ((p_r_take (jx_i (jx_i σ 106 52 ((σ.1 106 52) - (1 : Int32))) 106 48 ((σ.1 106 48) - (1 : Int32)))).bind fun q6 => ((p_r_take q6.2).bind fun q7 => ((p_r_node (5 : Int32) x2 q7.1 q6.1 (-1 : Int32) q7.2).bind fun q8 => (if q8.1 < 0 ∨ 3000 ≤ (q8.1).toNatClampNeg then none else (if q7.1 < 0 ∨ 3000 ≤ (q7.1).toNatClampNeg then none else ((p_r_give q8.1 (jx_i (jx_i q8.2 117 (q8.1).toNatClampNeg x3) 122 (q7.1).toNatClampNeg x3)).bind fun q9 => (some (q9)))))))) else (if x1 = 4 then (p_r_readOne_167 x1 x2 σ) else (if x1 = 5 then (p_r_readOne_167 x1 x2 σ) else (if x1 = 6 then ((p_r_take (jx_i σ 106 48 ((σ.1 106 48) - (1 : Int32)))).bind fun q13 => ((p_r_take q13.2).bind fun q14 => ((p_r_take q14.2).bind fun q15 => ((p_r_node (7 : Int32) x2 q15.1 q14.1 q13.1 q15.2).bind fun q16 => ((p_r_give q16.1 q16.2).bind fun q17 => (some (q17))))))) else (if x1 = 7 then ((p_r_expect (11 : Int32) σ).bind fun q18 => ((p_r_expect (12 : Int32) q18).bind fun q19 => ((p_r_expect (21 : Int32) q19).bind fun q20 => ((p_r_later (8 : Int32) x2 (0 : Int32) q20).bind fun q21 => ((p_r_later (1 : Int32) (0 : Int32) (0 : Int32) q21).bind fun q22 => (some (q22))))))) else (if x1 = 8 then ((p_r_bar x2 σ).bind fun q23 => (some (q23))) else (if x1 = 9 then ((p_r_take (jx_i (jx_i σ 106 52 ((σ.1 106 52) - (2 : Int32))) 106 48 ((σ.1 106 48) - (1 : Int32)))).bind fun q24 => ((p_r_take q24.2).bind fun q25 => ((p_r_take q25.2).bind fun q26 => ((p_r_node (10 : Int32) x2 q26.1 q25.1 q24.1 q26.2).bind fun q27 => (if q27.1 < 0 ∨ 3000 ≤ (q27.1).toNatClampNeg then none else (if q27.1 < 0 ∨ 3000 ≤ (q27.1).toNatClampNeg then none else ((p_r_give q27.1 (jx_i (jx_i q27.2 117 (q27.1).toNatClampNeg x3) 118 (q27.1).toNatClampNeg (x3 + (1 : Int32)))).bind fun q28 => (some (q28))))))))) else ((p_r_readMore x1 x2 x3 σ).bind fun q29 => (some (q29))))))))))))
theorem x_r_readOne (d : Nat) (hd : 5 ≤ d) (x1 : Int32) (x2 : Int32) (x3 : Int32) (σ : jx_S) (t : jx_S) (res : Option Value × jx_S) (h : p_r_readOne x1 x2 x3 σ = some t) (hK : kkV t res) : jE d 167 0 [(0, .ref 106), (1, .int x1), (2, .int x2), (3, .int x3)] [] σ res := by
  unfold p_r_readOne at h
  refine jE_blk (bs := [(.iload_n 1, 0, 0)]) (i := .tableswitch (381) (1) (9) #[51, 58, 96, 166, 166, 209, 257, 293, 301]) (a1 := 0) (a2 := 0) (pc1 := 1) (l1 := [(0, .ref 106), (1, .int x1), (2, .int x2), (3, .int x3)]) (st1 := [.int x1]) (σ1 := σ) (by decide +kernel) rfl (fun hC => ?_)
  rcases Classical.em (x1 = 1) with hc0 | hc0
  · rw [if_pos hc0] at h
    refine jE_tsw 52 1 hC hc0 (by decide +kernel) ?_
    refine jE_blk (bs := [(.aload_n 0, 0, 0)]) (i := .invokevirtual 346) (a1 := 166) (a2 := 0) (pc1 := 53) (l1 := [(0, .ref 106), (1, .int x1), (2, .int x2), (3, .int x3)]) (st1 := [.ref 106]) (σ1 := σ) (by decide +kernel) rfl (fun hC => ?_)
    obtain ⟨q1, hq, h⟩ := Option.bind_eq_some_iff.mp h
    refine jE_call (as := [.ref 106]) (pc1 := 56) (st1 := []) hC rfl (by decide) (by omega) (x_r_expression (d - 1) (by omega) σ q1 (none, q1) hq rfl) ?_
    refine jE_blk (bs := [(.goto (333), 0, 0)]) (i := .return_) (a1 := 0) (a2 := 0) (pc1 := 389) (l1 := [(0, .ref 106), (1, .int x1), (2, .int x2), (3, .int x3)]) (st1 := []) (σ1 := q1) (by decide +kernel) rfl (fun hC => ?_)
    have h9 := Option.some.inj h
    subst h9
    have e9 : ((none, q1) : Option Value × jx_S) = res := hK
    subst e9
    exact jE_ret hC rfl
  · rw [if_neg hc0] at h
    rcases Classical.em (x1 = 2) with hc1 | hc1
    · rw [if_pos hc1] at h
      refine jE_tsw 59 2 hC hc1 (by decide +kernel) ?_
      refine jE_blk (bs := [(.aload_n 0, 0, 0), (.bipush (6), 6, 0)]) (i := .invokevirtual 338) (a1 := 156) (a2 := 0) (pc1 := 62) (l1 := [(0, .ref 106), (1, .int x1), (2, .int x2), (3, .int x3)]) (st1 := [.int (6 : Int32), .ref 106]) (σ1 := σ) (by decide +kernel) rfl (fun hC => ?_)
      obtain ⟨q2, hq, h⟩ := Option.bind_eq_some_iff.mp h
      refine jE_call (as := [.ref 106, .int (6 : Int32)]) (pc1 := 65) (st1 := []) hC rfl (by decide) (by omega) (x_r_expect (d - 1) (by omega) (6 : Int32) σ q2 (none, q2) hq rfl) ?_
      refine jE_blk (bs := [(.aload_n 0, 0, 0), (.iload_n 3, 0, 0), (.bipush (100), 100, 0)]) (i := .irem) (a1 := 0) (a2 := 0) (pc1 := 69) (l1 := [(0, .ref 106), (1, .int x1), (2, .int x2), (3, .int x3)]) (st1 := [.int (100 : Int32), .int x3, .ref 106]) (σ1 := q2) (by decide +kernel) rfl (fun hC => ?_)
      refine jE_irem hC (by decide) ?_
      refine jE_blk (bs := [(.iload_n 3, 0, 0), (.bipush (100), 100, 0)]) (i := .idiv) (a1 := 0) (a2 := 0) (pc1 := 73) (l1 := [(0, .ref 106), (1, .int x1), (2, .int x2), (3, .int x3)]) (st1 := [.int (100 : Int32), .int x3, .int (x3 - x3 / (100 : Int32) * (100 : Int32)), .ref 106]) (σ1 := q2) (by decide +kernel) rfl (fun hC => ?_)
      refine jE_idiv hC (by decide) ?_
      refine jE_blk (bs := []) (i := .invokevirtual 349) (a1 := 160) (a2 := 0) (pc1 := 74) (l1 := [(0, .ref 106), (1, .int x1), (2, .int x2), (3, .int x3)]) (st1 := [.int (x3 / (100 : Int32)), .int (x3 - x3 / (100 : Int32) * (100 : Int32)), .ref 106]) (σ1 := q2) (by decide +kernel) rfl (fun hC => ?_)
      obtain ⟨q3, hq, h⟩ := Option.bind_eq_some_iff.mp h
      refine jE_call (as := [.ref 106, .int (x3 - x3 / (100 : Int32) * (100 : Int32)), .int (x3 / (100 : Int32))]) (pc1 := 77) (st1 := []) hC rfl (by decide) (by omega) (x_r_enter (d - 1) (by omega) (x3 - x3 / (100 : Int32) * (100 : Int32)) (x3 / (100 : Int32)) q2 q3 (none, q3) hq rfl) ?_
      refine jE_blk (bs := [(.aload_n 0, 0, 0), (.iconst (3), 3, 0), (.iload_n 2, 0, 0), (.iload_n 3, 0, 0), (.bipush (100), 100, 0)]) (i := .irem) (a1 := 0) (a2 := 0) (pc1 := 83) (l1 := [(0, .ref 106), (1, .int x1), (2, .int x2), (3, .int x3)]) (st1 := [.int (100 : Int32), .int x3, .int x2, .int (3 : Int32), .ref 106]) (σ1 := q3) (by decide +kernel) rfl (fun hC => ?_)
      refine jE_irem hC (by decide) ?_
      refine jE_blk (bs := []) (i := .invokevirtual 342) (a1 := 162) (a2 := 0) (pc1 := 84) (l1 := [(0, .ref 106), (1, .int x1), (2, .int x2), (3, .int x3)]) (st1 := [.int (x3 - x3 / (100 : Int32) * (100 : Int32)), .int x2, .int (3 : Int32), .ref 106]) (σ1 := q3) (by decide +kernel) rfl (fun hC => ?_)
      obtain ⟨q4, hq, h⟩ := Option.bind_eq_some_iff.mp h
      refine jE_call (as := [.ref 106, .int (3 : Int32), .int x2, .int (x3 - x3 / (100 : Int32) * (100 : Int32))]) (pc1 := 87) (st1 := []) hC rfl (by decide) (by omega) (x_r_later (d - 1) (by omega) (3 : Int32) x2 (x3 - x3 / (100 : Int32) * (100 : Int32)) q3 q4 (none, q4) hq rfl) ?_
      refine jE_blk (bs := [(.aload_n 0, 0, 0), (.iconst (1), 1, 0), (.iconst (0), 0, 0), (.iconst (0), 0, 0)]) (i := .invokevirtual 342) (a1 := 162) (a2 := 0) (pc1 := 91) (l1 := [(0, .ref 106), (1, .int x1), (2, .int x2), (3, .int x3)]) (st1 := [.int (0 : Int32), .int (0 : Int32), .int (1 : Int32), .ref 106]) (σ1 := q4) (by decide +kernel) rfl (fun hC => ?_)
      obtain ⟨q5, hq, h⟩ := Option.bind_eq_some_iff.mp h
      refine jE_call (as := [.ref 106, .int (1 : Int32), .int (0 : Int32), .int (0 : Int32)]) (pc1 := 94) (st1 := []) hC rfl (by decide) (by omega) (x_r_later (d - 1) (by omega) (1 : Int32) (0 : Int32) (0 : Int32) q4 q5 (none, q5) hq rfl) ?_
      refine jE_blk (bs := [(.goto (295), 0, 0)]) (i := .return_) (a1 := 0) (a2 := 0) (pc1 := 389) (l1 := [(0, .ref 106), (1, .int x1), (2, .int x2), (3, .int x3)]) (st1 := []) (σ1 := q5) (by decide +kernel) rfl (fun hC => ?_)
      have h9 := Option.some.inj h
      subst h9
      have e9 : ((none, q5) : Option Value × jx_S) = res := hK
      subst e9
      exact jE_ret hC rfl
    · rw [if_neg hc1] at h
      rcases Classical.em (x1 = 3) with hc2 | hc2
      · rw [if_pos hc2] at h
        refine jE_tsw 97 3 hC hc2 (by decide +kernel) ?_
        refine jE_blk (bs := [(.aload_n 0, 0, 0), (.dup, 0, 0), (.getfield 317, 12, 52), (.iconst (1), 1, 0), (.isub, 0, 0), (.putfield 317, 12, 52), (.aload_n 0, 0, 0), (.dup, 0, 0), (.getfield 332, 12, 48), (.iconst (1), 1, 0), (.isub, 0, 0), (.putfield 332, 12, 48), (.aload_n 0, 0, 0)]) (i := .invokevirtual 352) (a1 := 163) (a2 := 0) (pc1 := 118) (l1 := [(0, .ref 106), (1, .int x1), (2, .int x2), (3, .int x3)]) (st1 := [.ref 106]) (σ1 := (jx_i (jx_i σ 106 52 ((σ.1 106 52) - (1 : Int32))) 106 48 ((σ.1 106 48) - (1 : Int32)))) (by decide +kernel) rfl (fun hC => ?_)
        obtain ⟨q6, hq, h⟩ := Option.bind_eq_some_iff.mp h
        refine jE_call (as := [.ref 106]) (pc1 := 121) (st1 := []) hC rfl (by decide) (by omega) (x_r_take (d - 1) (by omega) (jx_i (jx_i σ 106 52 ((σ.1 106 52) - (1 : Int32))) 106 48 ((σ.1 106 48) - (1 : Int32))) q6 (some (.int q6.1), q6.2) hq rfl) ?_
        refine jE_blk (bs := [(.istore 4, 14, 0), (.aload_n 0, 0, 0)]) (i := .invokevirtual 352) (a1 := 163) (a2 := 0) (pc1 := 124) (l1 := [(4, .int q6.1), (0, .ref 106), (1, .int x1), (2, .int x2), (3, .int x3)]) (st1 := [.ref 106]) (σ1 := q6.2) (by decide +kernel) rfl (fun hC => ?_)
        obtain ⟨q7, hq, h⟩ := Option.bind_eq_some_iff.mp h
        refine jE_call (as := [.ref 106]) (pc1 := 127) (st1 := []) hC rfl (by decide) (by omega) (x_r_take (d - 1) (by omega) q6.2 q7 (some (.int q7.1), q7.2) hq rfl) ?_
        refine jE_blk (bs := [(.istore 5, 14, 0), (.aload_n 0, 0, 0), (.iconst (5), 5, 0), (.iload_n 2, 0, 0), (.iload 5, 0, 0), (.iload 4, 0, 0), (.iconst (-1), 1, 1)]) (i := .invokevirtual 355) (a1 := 164) (a2 := 0) (pc1 := 137) (l1 := [(5, .int q7.1), (4, .int q6.1), (0, .ref 106), (1, .int x1), (2, .int x2), (3, .int x3)]) (st1 := [.int (-1 : Int32), .int q6.1, .int q7.1, .int x2, .int (5 : Int32), .ref 106]) (σ1 := q7.2) (by decide +kernel) rfl (fun hC => ?_)
        obtain ⟨q8, hq, h⟩ := Option.bind_eq_some_iff.mp h
        refine jE_call (as := [.ref 106, .int (5 : Int32), .int x2, .int q7.1, .int q6.1, .int (-1 : Int32)]) (pc1 := 140) (st1 := []) hC rfl (by decide) (by omega) (x_r_node (d - 1) (by omega) (5 : Int32) x2 q7.1 q6.1 (-1 : Int32) q7.2 q8 (some (.int q8.1), q8.2) hq rfl) ?_
        refine jE_blk (bs := [(.istore 6, 14, 0), (.aload_n 0, 0, 0), (.getfield 44, 12, 16), (.iload 6, 0, 0), (.iload_n 3, 0, 0)]) (i := .iastore) (a1 := 0) (a2 := 0) (pc1 := 149) (l1 := [(6, .int q8.1), (5, .int q7.1), (4, .int q6.1), (0, .ref 106), (1, .int x1), (2, .int x2), (3, .int x3)]) (st1 := [.int x3, .int q8.1, .ref 117]) (σ1 := q8.2) (by decide +kernel) rfl (fun hC => ?_)
        obtain ⟨hi, h⟩ := jx_ite0_inv h
        refine jE_iast (n := 3000) hC (by decide) rfl hi ?_
        refine jE_blk (bs := [(.aload_n 0, 0, 0), (.getfield 59, 12, 21), (.iload 5, 0, 0), (.iload_n 3, 0, 0)]) (i := .iastore) (a1 := 0) (a2 := 0) (pc1 := 157) (l1 := [(6, .int q8.1), (5, .int q7.1), (4, .int q6.1), (0, .ref 106), (1, .int x1), (2, .int x2), (3, .int x3)]) (st1 := [.int x3, .int q7.1, .ref 122]) (σ1 := (jx_i q8.2 117 (q8.1).toNatClampNeg x3)) (by decide +kernel) rfl (fun hC => ?_)
        obtain ⟨hi, h⟩ := jx_ite0_inv h
        refine jE_iast (n := 3000) hC (by decide) rfl hi ?_
        refine jE_blk (bs := [(.aload_n 0, 0, 0), (.iload 6, 0, 0)]) (i := .invokevirtual 359) (a1 := 165) (a2 := 0) (pc1 := 161) (l1 := [(6, .int q8.1), (5, .int q7.1), (4, .int q6.1), (0, .ref 106), (1, .int x1), (2, .int x2), (3, .int x3)]) (st1 := [.int q8.1, .ref 106]) (σ1 := (jx_i (jx_i q8.2 117 (q8.1).toNatClampNeg x3) 122 (q7.1).toNatClampNeg x3)) (by decide +kernel) rfl (fun hC => ?_)
        obtain ⟨q9, hq, h⟩ := Option.bind_eq_some_iff.mp h
        refine jE_call (as := [.ref 106, .int q8.1]) (pc1 := 164) (st1 := []) hC rfl (by decide) (by omega) (x_r_give (d - 1) (by omega) q8.1 (jx_i (jx_i q8.2 117 (q8.1).toNatClampNeg x3) 122 (q7.1).toNatClampNeg x3) q9 (none, q9) hq rfl) ?_
        refine jE_blk (bs := [(.goto (225), 0, 0)]) (i := .return_) (a1 := 0) (a2 := 0) (pc1 := 389) (l1 := [(6, .int q8.1), (5, .int q7.1), (4, .int q6.1), (0, .ref 106), (1, .int x1), (2, .int x2), (3, .int x3)]) (st1 := []) (σ1 := q9) (by decide +kernel) rfl (fun hC => ?_)
        have h9 := Option.some.inj h
        subst h9
        have e9 : ((none, q9) : Option Value × jx_S) = res := hK
        subst e9
        exact jE_ret hC rfl
      · rw [if_neg hc2] at h
        rcases Classical.em (x1 = 4) with hc3 | hc3
        · rw [if_pos hc3] at h
          refine jE_tsw 167 4 hC hc3 (by decide +kernel) ?_
          exact jE_loc (l := [(0, .ref 106), (1, .int x1), (2, .int x2)]) (ks := [0, 1, 2]) rfl (by decide) ⟨rfl, rfl, rfl, trivial⟩ (x_r_readOne_167 d hd x1 x2 σ _ res h hK)
        · rw [if_neg hc3] at h
          rcases Classical.em (x1 = 5) with hc4 | hc4
          · rw [if_pos hc4] at h
            refine jE_tsw 167 5 hC hc4 (by decide +kernel) ?_
            exact jE_loc (l := [(0, .ref 106), (1, .int x1), (2, .int x2)]) (ks := [0, 1, 2]) rfl (by decide) ⟨rfl, rfl, rfl, trivial⟩ (x_r_readOne_167 d hd x1 x2 σ _ res h hK)
          · rw [if_neg hc4] at h
            rcases Classical.em (x1 = 6) with hc5 | hc5
            · rw [if_pos hc5] at h
              refine jE_tsw 210 6 hC hc5 (by decide +kernel) ?_
              refine jE_blk (bs := [(.aload_n 0, 0, 0), (.dup, 0, 0), (.getfield 332, 12, 48), (.iconst (1), 1, 0), (.isub, 0, 0), (.putfield 332, 12, 48), (.aload_n 0, 0, 0)]) (i := .invokevirtual 352) (a1 := 163) (a2 := 0) (pc1 := 221) (l1 := [(0, .ref 106), (1, .int x1), (2, .int x2), (3, .int x3)]) (st1 := [.ref 106]) (σ1 := (jx_i σ 106 48 ((σ.1 106 48) - (1 : Int32)))) (by decide +kernel) rfl (fun hC => ?_)
              obtain ⟨q13, hq, h⟩ := Option.bind_eq_some_iff.mp h
              refine jE_call (as := [.ref 106]) (pc1 := 224) (st1 := []) hC rfl (by decide) (by omega) (x_r_take (d - 1) (by omega) (jx_i σ 106 48 ((σ.1 106 48) - (1 : Int32))) q13 (some (.int q13.1), q13.2) hq rfl) ?_
              refine jE_blk (bs := [(.istore 7, 14, 0), (.aload_n 0, 0, 0)]) (i := .invokevirtual 352) (a1 := 163) (a2 := 0) (pc1 := 227) (l1 := [(7, .int q13.1), (0, .ref 106), (1, .int x1), (2, .int x2), (3, .int x3)]) (st1 := [.ref 106]) (σ1 := q13.2) (by decide +kernel) rfl (fun hC => ?_)
              obtain ⟨q14, hq, h⟩ := Option.bind_eq_some_iff.mp h
              refine jE_call (as := [.ref 106]) (pc1 := 230) (st1 := []) hC rfl (by decide) (by omega) (x_r_take (d - 1) (by omega) q13.2 q14 (some (.int q14.1), q14.2) hq rfl) ?_
              refine jE_blk (bs := [(.istore 8, 14, 0), (.aload_n 0, 0, 0)]) (i := .invokevirtual 352) (a1 := 163) (a2 := 0) (pc1 := 233) (l1 := [(8, .int q14.1), (7, .int q13.1), (0, .ref 106), (1, .int x1), (2, .int x2), (3, .int x3)]) (st1 := [.ref 106]) (σ1 := q14.2) (by decide +kernel) rfl (fun hC => ?_)
              obtain ⟨q15, hq, h⟩ := Option.bind_eq_some_iff.mp h
              refine jE_call (as := [.ref 106]) (pc1 := 236) (st1 := []) hC rfl (by decide) (by omega) (x_r_take (d - 1) (by omega) q14.2 q15 (some (.int q15.1), q15.2) hq rfl) ?_
              refine jE_blk (bs := [(.istore 9, 14, 0), (.aload_n 0, 0, 0), (.aload_n 0, 0, 0), (.bipush (7), 7, 0), (.iload_n 2, 0, 0), (.iload 9, 0, 0), (.iload 8, 0, 0), (.iload 7, 0, 0)]) (i := .invokevirtual 355) (a1 := 164) (a2 := 0) (pc1 := 249) (l1 := [(9, .int q15.1), (8, .int q14.1), (7, .int q13.1), (0, .ref 106), (1, .int x1), (2, .int x2), (3, .int x3)]) (st1 := [.int q13.1, .int q14.1, .int q15.1, .int x2, .int (7 : Int32), .ref 106, .ref 106]) (σ1 := q15.2) (by decide +kernel) rfl (fun hC => ?_)
              obtain ⟨q16, hq, h⟩ := Option.bind_eq_some_iff.mp h
              refine jE_call (as := [.ref 106, .int (7 : Int32), .int x2, .int q15.1, .int q14.1, .int q13.1]) (pc1 := 252) (st1 := [.ref 106]) hC rfl (by decide) (by omega) (x_r_node (d - 1) (by omega) (7 : Int32) x2 q15.1 q14.1 q13.1 q15.2 q16 (some (.int q16.1), q16.2) hq rfl) ?_
              refine jE_blk (bs := []) (i := .invokevirtual 359) (a1 := 165) (a2 := 0) (pc1 := 252) (l1 := [(9, .int q15.1), (8, .int q14.1), (7, .int q13.1), (0, .ref 106), (1, .int x1), (2, .int x2), (3, .int x3)]) (st1 := [.int q16.1, .ref 106]) (σ1 := q16.2) (by decide +kernel) rfl (fun hC => ?_)
              obtain ⟨q17, hq, h⟩ := Option.bind_eq_some_iff.mp h
              refine jE_call (as := [.ref 106, .int q16.1]) (pc1 := 255) (st1 := []) hC rfl (by decide) (by omega) (x_r_give (d - 1) (by omega) q16.1 q16.2 q17 (none, q17) hq rfl) ?_
              refine jE_blk (bs := [(.goto (134), 0, 0)]) (i := .return_) (a1 := 0) (a2 := 0) (pc1 := 389) (l1 := [(9, .int q15.1), (8, .int q14.1), (7, .int q13.1), (0, .ref 106), (1, .int x1), (2, .int x2), (3, .int x3)]) (st1 := []) (σ1 := q17) (by decide +kernel) rfl (fun hC => ?_)
              have h9 := Option.some.inj h
              subst h9
              have e9 : ((none, q17) : Option Value × jx_S) = res := hK
              subst e9
              exact jE_ret hC rfl
            · rw [if_neg hc5] at h
              rcases Classical.em (x1 = 7) with hc6 | hc6
              · rw [if_pos hc6] at h
                refine jE_tsw 258 7 hC hc6 (by decide +kernel) ?_
                refine jE_blk (bs := [(.aload_n 0, 0, 0), (.bipush (11), 11, 0)]) (i := .invokevirtual 338) (a1 := 156) (a2 := 0) (pc1 := 261) (l1 := [(0, .ref 106), (1, .int x1), (2, .int x2), (3, .int x3)]) (st1 := [.int (11 : Int32), .ref 106]) (σ1 := σ) (by decide +kernel) rfl (fun hC => ?_)
                obtain ⟨q18, hq, h⟩ := Option.bind_eq_some_iff.mp h
                refine jE_call (as := [.ref 106, .int (11 : Int32)]) (pc1 := 264) (st1 := []) hC rfl (by decide) (by omega) (x_r_expect (d - 1) (by omega) (11 : Int32) σ q18 (none, q18) hq rfl) ?_
                refine jE_blk (bs := [(.aload_n 0, 0, 0), (.bipush (12), 12, 0)]) (i := .invokevirtual 338) (a1 := 156) (a2 := 0) (pc1 := 267) (l1 := [(0, .ref 106), (1, .int x1), (2, .int x2), (3, .int x3)]) (st1 := [.int (12 : Int32), .ref 106]) (σ1 := q18) (by decide +kernel) rfl (fun hC => ?_)
                obtain ⟨q19, hq, h⟩ := Option.bind_eq_some_iff.mp h
                refine jE_call (as := [.ref 106, .int (12 : Int32)]) (pc1 := 270) (st1 := []) hC rfl (by decide) (by omega) (x_r_expect (d - 1) (by omega) (12 : Int32) q18 q19 (none, q19) hq rfl) ?_
                refine jE_blk (bs := [(.aload_n 0, 0, 0), (.bipush (21), 21, 0)]) (i := .invokevirtual 338) (a1 := 156) (a2 := 0) (pc1 := 273) (l1 := [(0, .ref 106), (1, .int x1), (2, .int x2), (3, .int x3)]) (st1 := [.int (21 : Int32), .ref 106]) (σ1 := q19) (by decide +kernel) rfl (fun hC => ?_)
                obtain ⟨q20, hq, h⟩ := Option.bind_eq_some_iff.mp h
                refine jE_call (as := [.ref 106, .int (21 : Int32)]) (pc1 := 276) (st1 := []) hC rfl (by decide) (by omega) (x_r_expect (d - 1) (by omega) (21 : Int32) q19 q20 (none, q20) hq rfl) ?_
                refine jE_blk (bs := [(.aload_n 0, 0, 0), (.bipush (8), 8, 0), (.iload_n 2, 0, 0), (.iconst (0), 0, 0)]) (i := .invokevirtual 342) (a1 := 162) (a2 := 0) (pc1 := 281) (l1 := [(0, .ref 106), (1, .int x1), (2, .int x2), (3, .int x3)]) (st1 := [.int (0 : Int32), .int x2, .int (8 : Int32), .ref 106]) (σ1 := q20) (by decide +kernel) rfl (fun hC => ?_)
                obtain ⟨q21, hq, h⟩ := Option.bind_eq_some_iff.mp h
                refine jE_call (as := [.ref 106, .int (8 : Int32), .int x2, .int (0 : Int32)]) (pc1 := 284) (st1 := []) hC rfl (by decide) (by omega) (x_r_later (d - 1) (by omega) (8 : Int32) x2 (0 : Int32) q20 q21 (none, q21) hq rfl) ?_
                refine jE_blk (bs := [(.aload_n 0, 0, 0), (.iconst (1), 1, 0), (.iconst (0), 0, 0), (.iconst (0), 0, 0)]) (i := .invokevirtual 342) (a1 := 162) (a2 := 0) (pc1 := 288) (l1 := [(0, .ref 106), (1, .int x1), (2, .int x2), (3, .int x3)]) (st1 := [.int (0 : Int32), .int (0 : Int32), .int (1 : Int32), .ref 106]) (σ1 := q21) (by decide +kernel) rfl (fun hC => ?_)
                obtain ⟨q22, hq, h⟩ := Option.bind_eq_some_iff.mp h
                refine jE_call (as := [.ref 106, .int (1 : Int32), .int (0 : Int32), .int (0 : Int32)]) (pc1 := 291) (st1 := []) hC rfl (by decide) (by omega) (x_r_later (d - 1) (by omega) (1 : Int32) (0 : Int32) (0 : Int32) q21 q22 (none, q22) hq rfl) ?_
                refine jE_blk (bs := [(.goto (98), 0, 0)]) (i := .return_) (a1 := 0) (a2 := 0) (pc1 := 389) (l1 := [(0, .ref 106), (1, .int x1), (2, .int x2), (3, .int x3)]) (st1 := []) (σ1 := q22) (by decide +kernel) rfl (fun hC => ?_)
                have h9 := Option.some.inj h
                subst h9
                have e9 : ((none, q22) : Option Value × jx_S) = res := hK
                subst e9
                exact jE_ret hC rfl
              · rw [if_neg hc6] at h
                rcases Classical.em (x1 = 8) with hc7 | hc7
                · rw [if_pos hc7] at h
                  refine jE_tsw 294 8 hC hc7 (by decide +kernel) ?_
                  refine jE_blk (bs := [(.aload_n 0, 0, 0), (.iload_n 2, 0, 0)]) (i := .invokevirtual 362) (a1 := 168) (a2 := 0) (pc1 := 296) (l1 := [(0, .ref 106), (1, .int x1), (2, .int x2), (3, .int x3)]) (st1 := [.int x2, .ref 106]) (σ1 := σ) (by decide +kernel) rfl (fun hC => ?_)
                  obtain ⟨q23, hq, h⟩ := Option.bind_eq_some_iff.mp h
                  refine jE_call (as := [.ref 106, .int x2]) (pc1 := 299) (st1 := []) hC rfl (by decide) (by omega) (x_r_bar (d - 1) (by omega) x2 σ q23 (none, q23) hq rfl) ?_
                  refine jE_blk (bs := [(.goto (90), 0, 0)]) (i := .return_) (a1 := 0) (a2 := 0) (pc1 := 389) (l1 := [(0, .ref 106), (1, .int x1), (2, .int x2), (3, .int x3)]) (st1 := []) (σ1 := q23) (by decide +kernel) rfl (fun hC => ?_)
                  have h9 := Option.some.inj h
                  subst h9
                  have e9 : ((none, q23) : Option Value × jx_S) = res := hK
                  subst e9
                  exact jE_ret hC rfl
                · rw [if_neg hc7] at h
                  rcases Classical.em (x1 = 9) with hc8 | hc8
                  · rw [if_pos hc8] at h
                    refine jE_tsw 302 9 hC hc8 (by decide +kernel) ?_
                    refine jE_blk (bs := [(.aload_n 0, 0, 0), (.dup, 0, 0), (.getfield 317, 12, 52), (.iconst (2), 2, 0), (.isub, 0, 0), (.putfield 317, 12, 52), (.aload_n 0, 0, 0), (.dup, 0, 0), (.getfield 332, 12, 48), (.iconst (1), 1, 0), (.isub, 0, 0), (.putfield 332, 12, 48), (.aload_n 0, 0, 0)]) (i := .invokevirtual 352) (a1 := 163) (a2 := 0) (pc1 := 323) (l1 := [(0, .ref 106), (1, .int x1), (2, .int x2), (3, .int x3)]) (st1 := [.ref 106]) (σ1 := (jx_i (jx_i σ 106 52 ((σ.1 106 52) - (2 : Int32))) 106 48 ((σ.1 106 48) - (1 : Int32)))) (by decide +kernel) rfl (fun hC => ?_)
                    obtain ⟨q24, hq, h⟩ := Option.bind_eq_some_iff.mp h
                    refine jE_call (as := [.ref 106]) (pc1 := 326) (st1 := []) hC rfl (by decide) (by omega) (x_r_take (d - 1) (by omega) (jx_i (jx_i σ 106 52 ((σ.1 106 52) - (2 : Int32))) 106 48 ((σ.1 106 48) - (1 : Int32))) q24 (some (.int q24.1), q24.2) hq rfl) ?_
                    refine jE_blk (bs := [(.istore 10, 14, 0), (.aload_n 0, 0, 0)]) (i := .invokevirtual 352) (a1 := 163) (a2 := 0) (pc1 := 329) (l1 := [(10, .int q24.1), (0, .ref 106), (1, .int x1), (2, .int x2), (3, .int x3)]) (st1 := [.ref 106]) (σ1 := q24.2) (by decide +kernel) rfl (fun hC => ?_)
                    obtain ⟨q25, hq, h⟩ := Option.bind_eq_some_iff.mp h
                    refine jE_call (as := [.ref 106]) (pc1 := 332) (st1 := []) hC rfl (by decide) (by omega) (x_r_take (d - 1) (by omega) q24.2 q25 (some (.int q25.1), q25.2) hq rfl) ?_
                    refine jE_blk (bs := [(.istore 11, 14, 0), (.aload_n 0, 0, 0)]) (i := .invokevirtual 352) (a1 := 163) (a2 := 0) (pc1 := 335) (l1 := [(11, .int q25.1), (10, .int q24.1), (0, .ref 106), (1, .int x1), (2, .int x2), (3, .int x3)]) (st1 := [.ref 106]) (σ1 := q25.2) (by decide +kernel) rfl (fun hC => ?_)
                    obtain ⟨q26, hq, h⟩ := Option.bind_eq_some_iff.mp h
                    refine jE_call (as := [.ref 106]) (pc1 := 338) (st1 := []) hC rfl (by decide) (by omega) (x_r_take (d - 1) (by omega) q25.2 q26 (some (.int q26.1), q26.2) hq rfl) ?_
                    refine jE_blk (bs := [(.istore 12, 14, 0), (.aload_n 0, 0, 0), (.bipush (10), 10, 0), (.iload_n 2, 0, 0), (.iload 12, 0, 0), (.iload 11, 0, 0), (.iload 10, 0, 0)]) (i := .invokevirtual 355) (a1 := 164) (a2 := 0) (pc1 := 350) (l1 := [(12, .int q26.1), (11, .int q25.1), (10, .int q24.1), (0, .ref 106), (1, .int x1), (2, .int x2), (3, .int x3)]) (st1 := [.int q24.1, .int q25.1, .int q26.1, .int x2, .int (10 : Int32), .ref 106]) (σ1 := q26.2) (by decide +kernel) rfl (fun hC => ?_)
                    obtain ⟨q27, hq, h⟩ := Option.bind_eq_some_iff.mp h
                    refine jE_call (as := [.ref 106, .int (10 : Int32), .int x2, .int q26.1, .int q25.1, .int q24.1]) (pc1 := 353) (st1 := []) hC rfl (by decide) (by omega) (x_r_node (d - 1) (by omega) (10 : Int32) x2 q26.1 q25.1 q24.1 q26.2 q27 (some (.int q27.1), q27.2) hq rfl) ?_
                    refine jE_blk (bs := [(.istore 13, 14, 0), (.aload_n 0, 0, 0), (.getfield 44, 12, 16), (.iload 13, 0, 0), (.iload_n 3, 0, 0)]) (i := .iastore) (a1 := 0) (a2 := 0) (pc1 := 362) (l1 := [(13, .int q27.1), (12, .int q26.1), (11, .int q25.1), (10, .int q24.1), (0, .ref 106), (1, .int x1), (2, .int x2), (3, .int x3)]) (st1 := [.int x3, .int q27.1, .ref 117]) (σ1 := q27.2) (by decide +kernel) rfl (fun hC => ?_)
                    obtain ⟨hi, h⟩ := jx_ite0_inv h
                    refine jE_iast (n := 3000) hC (by decide) rfl hi ?_
                    refine jE_blk (bs := [(.aload_n 0, 0, 0), (.getfield 47, 12, 17), (.iload 13, 0, 0), (.iload_n 3, 0, 0), (.iconst (1), 1, 0), (.iadd, 0, 0)]) (i := .iastore) (a1 := 0) (a2 := 0) (pc1 := 372) (l1 := [(13, .int q27.1), (12, .int q26.1), (11, .int q25.1), (10, .int q24.1), (0, .ref 106), (1, .int x1), (2, .int x2), (3, .int x3)]) (st1 := [.int (x3 + (1 : Int32)), .int q27.1, .ref 118]) (σ1 := (jx_i q27.2 117 (q27.1).toNatClampNeg x3)) (by decide +kernel) rfl (fun hC => ?_)
                    obtain ⟨hi, h⟩ := jx_ite0_inv h
                    refine jE_iast (n := 3000) hC (by decide) rfl hi ?_
                    refine jE_blk (bs := [(.aload_n 0, 0, 0), (.iload 13, 0, 0)]) (i := .invokevirtual 359) (a1 := 165) (a2 := 0) (pc1 := 376) (l1 := [(13, .int q27.1), (12, .int q26.1), (11, .int q25.1), (10, .int q24.1), (0, .ref 106), (1, .int x1), (2, .int x2), (3, .int x3)]) (st1 := [.int q27.1, .ref 106]) (σ1 := (jx_i (jx_i q27.2 117 (q27.1).toNatClampNeg x3) 118 (q27.1).toNatClampNeg (x3 + (1 : Int32)))) (by decide +kernel) rfl (fun hC => ?_)
                    obtain ⟨q28, hq, h⟩ := Option.bind_eq_some_iff.mp h
                    refine jE_call (as := [.ref 106, .int q27.1]) (pc1 := 379) (st1 := []) hC rfl (by decide) (by omega) (x_r_give (d - 1) (by omega) q27.1 (jx_i (jx_i q27.2 117 (q27.1).toNatClampNeg x3) 118 (q27.1).toNatClampNeg (x3 + (1 : Int32))) q28 (none, q28) hq rfl) ?_
                    refine jE_blk (bs := [(.goto (10), 0, 0)]) (i := .return_) (a1 := 0) (a2 := 0) (pc1 := 389) (l1 := [(13, .int q27.1), (12, .int q26.1), (11, .int q25.1), (10, .int q24.1), (0, .ref 106), (1, .int x1), (2, .int x2), (3, .int x3)]) (st1 := []) (σ1 := q28) (by decide +kernel) rfl (fun hC => ?_)
                    have h9 := Option.some.inj h
                    subst h9
                    have e9 : ((none, q28) : Option Value × jx_S) = res := hK
                    subst e9
                    exact jE_ret hC rfl
                  · rw [if_neg hc8] at h
                    refine jE_tswD 382 [1, 2, 3, 4, 5, 6, 7, 8, 9] hC (by decide +kernel) ⟨hc0, hc1, hc2, hc3, hc4, hc5, hc6, hc7, hc8, trivial⟩ ?_
                    refine jE_blk (bs := [(.aload_n 0, 0, 0), (.iload_n 1, 0, 0), (.iload_n 2, 0, 0), (.iload_n 3, 0, 0)]) (i := .invokevirtual 365) (a1 := 169) (a2 := 0) (pc1 := 386) (l1 := [(0, .ref 106), (1, .int x1), (2, .int x2), (3, .int x3)]) (st1 := [.int x3, .int x2, .int x1, .ref 106]) (σ1 := σ) (by decide +kernel) rfl (fun hC => ?_)
                    obtain ⟨q29, hq, h⟩ := Option.bind_eq_some_iff.mp h
                    refine jE_call (as := [.ref 106, .int x1, .int x2, .int x3]) (pc1 := 389) (st1 := []) hC rfl (by decide) (by omega) (x_r_readMore (d - 1) (by omega) x1 x2 x3 σ q29 (none, q29) hq rfl) ?_
                    refine jE_blk (bs := []) (i := .return_) (a1 := 0) (a2 := 0) (pc1 := 389) (l1 := [(0, .ref 106), (1, .int x1), (2, .int x2), (3, .int x3)]) (st1 := []) (σ1 := q29) (by decide +kernel) rfl (fun hC => ?_)
                    have h9 := Option.some.inj h
                    subst h9
                    have e9 : ((none, q29) : Option Value × jx_S) = res := hK
                    subst e9
                    exact jE_ret hC rfl
def p_r_parameter0_56 (x1 : Int32) (x2 : Int32) (σ : jx_S) : Option jx_S := ((p_r_declare (0 : Int32) σ).bind fun q2 => ((p_r_expect (18 : Int32) q2.2).bind fun q3 => ((p_r_typeText q3).bind fun q4 => ((p_r_expect (17 : Int32) q4.2).bind fun q5 => (if (q5.1 106 41) = 0 then (some (q5)) else (if x1 < 0 ∨ 40 ≤ (x1).toNatClampNeg then none else (if (((8 : Int32) * x1) + ((q5.1 127) (x1).toNatClampNeg)) < 0 ∨ 320 ≤ ((((8 : Int32) * x1) + ((q5.1 127) (x1).toNatClampNeg))).toNatClampNeg then none else (if x1 < 0 ∨ 40 ≤ (x1).toNatClampNeg then none else (if (((8 : Int32) * x1) + ((q5.1 127) (x1).toNatClampNeg)) < 0 ∨ 320 ≤ ((((8 : Int32) * x1) + ((q5.1 127) (x1).toNatClampNeg))).toNatClampNeg then none else (if (((30 : Int32) * x1) + q2.1) < 0 ∨ 1200 ≤ ((((30 : Int32) * x1) + q2.1)).toNatClampNeg then none else ((p_r_enter q2.1 x2 (jx_i (jx_i (jx_i q5 134 ((((8 : Int32) * x1) + ((q5.1 127) (x1).toNatClampNeg))).toNatClampNeg x2) 135 ((((8 : Int32) * x1) + ((q5.1 127) (x1).toNatClampNeg))).toNatClampNeg q4.1) 137 ((((30 : Int32) * x1) + q2.1)).toNatClampNeg q4.1)).bind fun q6 => (if x1 < 0 ∨ 40 ≤ (x1).toNatClampNeg then none else (if x1 < 0 ∨ 40 ≤ (x1).toNatClampNeg then none else (some ((jx_i q6 127 (x1).toNatClampNeg (((q6.1 127) (x1).toNatClampNeg) + (1 : Int32))))))))))))))))))
theorem x_r_parameter0_56 (d : Nat) (hd : 4 ≤ d) (x1 : Int32) (x2 : Int32) (σ : jx_S) (t : jx_S) (res : Option Value × jx_S) (h : p_r_parameter0_56 x1 x2 σ = some t) (hK : kkV t res) : jE d 172 56 [(0, .ref 106), (1, .int x1), (2, .int x2)] [] σ res := by
  unfold p_r_parameter0_56 at h
  refine jE_blk (bs := [(.aload_n 0, 0, 0), (.iconst (0), 0, 0)]) (i := .invokevirtual 335) (a1 := 159) (a2 := 0) (pc1 := 58) (l1 := [(0, .ref 106), (1, .int x1), (2, .int x2)]) (st1 := [.int (0 : Int32), .ref 106]) (σ1 := σ) (by decide +kernel) rfl (fun hC => ?_)
  obtain ⟨q2, hq, h⟩ := Option.bind_eq_some_iff.mp h
  refine jE_call (as := [.ref 106, .int (0 : Int32)]) (pc1 := 61) (st1 := []) hC rfl (by decide) (by omega) (x_r_declare (d - 1) (by omega) (0 : Int32) σ q2 (some (.int q2.1), q2.2) hq rfl) ?_
  refine jE_blk (bs := [(.istore_n 3, 5, 0), (.aload_n 0, 0, 0), (.bipush (18), 18, 0)]) (i := .invokevirtual 338) (a1 := 156) (a2 := 0) (pc1 := 65) (l1 := [(3, .int q2.1), (0, .ref 106), (1, .int x1), (2, .int x2)]) (st1 := [.int (18 : Int32), .ref 106]) (σ1 := q2.2) (by decide +kernel) rfl (fun hC => ?_)
  obtain ⟨q3, hq, h⟩ := Option.bind_eq_some_iff.mp h
  refine jE_call (as := [.ref 106, .int (18 : Int32)]) (pc1 := 68) (st1 := []) hC rfl (by decide) (by omega) (x_r_expect (d - 1) (by omega) (18 : Int32) q2.2 q3 (none, q3) hq rfl) ?_
  refine jE_blk (bs := [(.aload_n 0, 0, 0)]) (i := .invokevirtual 377) (a1 := 158) (a2 := 0) (pc1 := 69) (l1 := [(3, .int q2.1), (0, .ref 106), (1, .int x1), (2, .int x2)]) (st1 := [.ref 106]) (σ1 := q3) (by decide +kernel) rfl (fun hC => ?_)
  obtain ⟨q4, hq, h⟩ := Option.bind_eq_some_iff.mp h
  refine jE_call (as := [.ref 106]) (pc1 := 72) (st1 := []) hC rfl (by decide) (by omega) (x_r_typeText (d - 1) (by omega) q3 q4 (some (.int q4.1), q4.2) hq rfl) ?_
  refine jE_blk (bs := [(.istore 4, 5, 0), (.aload_n 0, 0, 0), (.bipush (17), 17, 0)]) (i := .invokevirtual 338) (a1 := 156) (a2 := 0) (pc1 := 77) (l1 := [(4, .int q4.1), (3, .int q2.1), (0, .ref 106), (1, .int x1), (2, .int x2)]) (st1 := [.int (17 : Int32), .ref 106]) (σ1 := q4.2) (by decide +kernel) rfl (fun hC => ?_)
  obtain ⟨q5, hq, h⟩ := Option.bind_eq_some_iff.mp h
  refine jE_call (as := [.ref 106, .int (17 : Int32)]) (pc1 := 80) (st1 := []) hC rfl (by decide) (by omega) (x_r_expect (d - 1) (by omega) (17 : Int32) q4.2 q5 (none, q5) hq rfl) ?_
  refine jE_blk (bs := [(.aload_n 0, 0, 0), (.getfield 300, 12, 41)]) (i := .ifCond .eq (67)) (a1 := 0) (a2 := 0) (pc1 := 84) (l1 := [(4, .int q4.1), (3, .int q2.1), (0, .ref 106), (1, .int x1), (2, .int x2)]) (st1 := [.int (q5.1 106 41)]) (σ1 := q5) (by decide +kernel) rfl (fun hC => ?_)
  rcases Classical.em ((q5.1 106 41) = 0) with hc | hc
  · rw [if_pos hc] at h
    refine jE_ifT 151 hC (by decide) hc ?_
    refine jE_blk (bs := []) (i := .return_) (a1 := 0) (a2 := 0) (pc1 := 151) (l1 := [(4, .int q4.1), (3, .int q2.1), (0, .ref 106), (1, .int x1), (2, .int x2)]) (st1 := []) (σ1 := q5) (by decide +kernel) rfl (fun hC => ?_)
    have h9 := Option.some.inj h
    subst h9
    have e9 : ((none, q5) : Option Value × jx_S) = res := hK
    subst e9
    exact jE_ret hC rfl
  · rw [if_neg hc] at h
    refine jE_ifF 151 hC (by decide) hc ?_
    refine jE_blk (bs := [(.aload_n 0, 0, 0), (.getfield 96, 12, 34), (.bipush (8), 8, 0), (.iload_n 1, 0, 0), (.imul, 0, 0), (.aload_n 0, 0, 0), (.getfield 75, 12, 27), (.iload_n 1, 0, 0)]) (i := .iaload) (a1 := 0) (a2 := 0) (pc1 := 100) (l1 := [(4, .int q4.1), (3, .int q2.1), (0, .ref 106), (1, .int x1), (2, .int x2)]) (st1 := [.int x1, .ref 127, .int ((8 : Int32) * x1), .ref 134]) (σ1 := q5) (by decide +kernel) rfl (fun hC => ?_)
    obtain ⟨hi, h⟩ := jx_ite0_inv h
    refine jE_iald (n := 40) hC (by decide) rfl hi ?_
    refine jE_blk (bs := [(.iadd, 0, 0), (.iload_n 2, 0, 0)]) (i := .iastore) (a1 := 0) (a2 := 0) (pc1 := 103) (l1 := [(4, .int q4.1), (3, .int q2.1), (0, .ref 106), (1, .int x1), (2, .int x2)]) (st1 := [.int x2, .int (((8 : Int32) * x1) + ((q5.1 127) (x1).toNatClampNeg)), .ref 134]) (σ1 := q5) (by decide +kernel) rfl (fun hC => ?_)
    obtain ⟨hi, h⟩ := jx_ite0_inv h
    refine jE_iast (n := 320) hC (by decide) rfl hi ?_
    refine jE_blk (bs := [(.aload_n 0, 0, 0), (.getfield 99, 12, 35), (.bipush (8), 8, 0), (.iload_n 1, 0, 0), (.imul, 0, 0), (.aload_n 0, 0, 0), (.getfield 75, 12, 27), (.iload_n 1, 0, 0)]) (i := .iaload) (a1 := 0) (a2 := 0) (pc1 := 117) (l1 := [(4, .int q4.1), (3, .int q2.1), (0, .ref 106), (1, .int x1), (2, .int x2)]) (st1 := [.int x1, .ref 127, .int ((8 : Int32) * x1), .ref 135]) (σ1 := (jx_i q5 134 ((((8 : Int32) * x1) + ((q5.1 127) (x1).toNatClampNeg))).toNatClampNeg x2)) (by decide +kernel) rfl (fun hC => ?_)
    obtain ⟨hi, h⟩ := jx_ite0_inv h
    refine jE_iald (n := 40) hC (by decide) rfl hi ?_
    refine jE_blk (bs := [(.iadd, 0, 0), (.iload 4, 0, 0)]) (i := .iastore) (a1 := 0) (a2 := 0) (pc1 := 121) (l1 := [(4, .int q4.1), (3, .int q2.1), (0, .ref 106), (1, .int x1), (2, .int x2)]) (st1 := [.int q4.1, .int (((8 : Int32) * x1) + ((q5.1 127) (x1).toNatClampNeg)), .ref 135]) (σ1 := (jx_i q5 134 ((((8 : Int32) * x1) + ((q5.1 127) (x1).toNatClampNeg))).toNatClampNeg x2)) (by decide +kernel) rfl (fun hC => ?_)
    obtain ⟨hi, h⟩ := jx_ite0_inv h
    refine jE_iast (n := 320) hC (by decide) rfl hi ?_
    refine jE_blk (bs := [(.aload_n 0, 0, 0), (.getfield 105, 12, 37), (.bipush (30), 30, 0), (.iload_n 1, 0, 0), (.imul, 0, 0), (.iload_n 3, 0, 0), (.iadd, 0, 0), (.iload 4, 0, 0)]) (i := .iastore) (a1 := 0) (a2 := 0) (pc1 := 134) (l1 := [(4, .int q4.1), (3, .int q2.1), (0, .ref 106), (1, .int x1), (2, .int x2)]) (st1 := [.int q4.1, .int (((30 : Int32) * x1) + q2.1), .ref 137]) (σ1 := (jx_i (jx_i q5 134 ((((8 : Int32) * x1) + ((q5.1 127) (x1).toNatClampNeg))).toNatClampNeg x2) 135 ((((8 : Int32) * x1) + ((q5.1 127) (x1).toNatClampNeg))).toNatClampNeg q4.1)) (by decide +kernel) rfl (fun hC => ?_)
    obtain ⟨hi, h⟩ := jx_ite0_inv h
    refine jE_iast (n := 1200) hC (by decide) rfl hi ?_
    refine jE_blk (bs := [(.aload_n 0, 0, 0), (.iload_n 3, 0, 0), (.iload_n 2, 0, 0)]) (i := .invokevirtual 349) (a1 := 160) (a2 := 0) (pc1 := 138) (l1 := [(4, .int q4.1), (3, .int q2.1), (0, .ref 106), (1, .int x1), (2, .int x2)]) (st1 := [.int x2, .int q2.1, .ref 106]) (σ1 := (jx_i (jx_i (jx_i q5 134 ((((8 : Int32) * x1) + ((q5.1 127) (x1).toNatClampNeg))).toNatClampNeg x2) 135 ((((8 : Int32) * x1) + ((q5.1 127) (x1).toNatClampNeg))).toNatClampNeg q4.1) 137 ((((30 : Int32) * x1) + q2.1)).toNatClampNeg q4.1)) (by decide +kernel) rfl (fun hC => ?_)
    obtain ⟨q6, hq, h⟩ := Option.bind_eq_some_iff.mp h
    refine jE_call (as := [.ref 106, .int q2.1, .int x2]) (pc1 := 141) (st1 := []) hC rfl (by decide) (by omega) (x_r_enter (d - 1) (by omega) q2.1 x2 (jx_i (jx_i (jx_i q5 134 ((((8 : Int32) * x1) + ((q5.1 127) (x1).toNatClampNeg))).toNatClampNeg x2) 135 ((((8 : Int32) * x1) + ((q5.1 127) (x1).toNatClampNeg))).toNatClampNeg q4.1) 137 ((((30 : Int32) * x1) + q2.1)).toNatClampNeg q4.1) q6 (none, q6) hq rfl) ?_
    refine jE_blk (bs := [(.aload_n 0, 0, 0), (.getfield 75, 12, 27), (.iload_n 1, 0, 0), (.dup2, 0, 0)]) (i := .iaload) (a1 := 0) (a2 := 0) (pc1 := 147) (l1 := [(4, .int q4.1), (3, .int q2.1), (0, .ref 106), (1, .int x1), (2, .int x2)]) (st1 := [.int x1, .ref 127, .int x1, .ref 127]) (σ1 := q6) (by decide +kernel) rfl (fun hC => ?_)
    obtain ⟨hi, h⟩ := jx_ite0_inv h
    refine jE_iald (n := 40) hC (by decide) rfl hi ?_
    refine jE_blk (bs := [(.iconst (1), 1, 0), (.iadd, 0, 0)]) (i := .iastore) (a1 := 0) (a2 := 0) (pc1 := 150) (l1 := [(4, .int q4.1), (3, .int q2.1), (0, .ref 106), (1, .int x1), (2, .int x2)]) (st1 := [.int (((q6.1 127) (x1).toNatClampNeg) + (1 : Int32)), .int x1, .ref 127]) (σ1 := q6) (by decide +kernel) rfl (fun hC => ?_)
    obtain ⟨hi, h⟩ := jx_ite0_inv h
    refine jE_iast (n := 40) hC (by decide) rfl hi ?_
    refine jE_blk (bs := []) (i := .return_) (a1 := 0) (a2 := 0) (pc1 := 151) (l1 := [(4, .int q4.1), (3, .int q2.1), (0, .ref 106), (1, .int x1), (2, .int x2)]) (st1 := []) (σ1 := (jx_i q6 127 (x1).toNatClampNeg (((q6.1 127) (x1).toNatClampNeg) + (1 : Int32)))) (by decide +kernel) rfl (fun hC => ?_)
    have h9 := Option.some.inj h
    subst h9
    have e9 : ((none, (jx_i q6 127 (x1).toNatClampNeg (((q6.1 127) (x1).toNatClampNeg) + (1 : Int32)))) : Option Value × jx_S) = res := hK
    subst e9
    exact jE_ret hC rfl
def p_r_parameter0 (σ : jx_S) : Option jx_S := ((p_r_expect (16 : Int32) σ).bind fun q1 => (if (q1.1 106 41) = 0 then (p_r_parameter0_56 (σ.1 106 38) (q1.1 106 40) q1) else (if (q1.1 106 40) < 0 ∨ 1202 ≤ ((q1.1 106 40)).toNatClampNeg then none else (if ¬ ((q1.1 108) ((q1.1 106 40)).toNatClampNeg) = (1 : Int32) then (p_r_parameter0_56 (σ.1 106 38) (q1.1 106 40) q1) else (if (σ.1 106 38) < 0 ∨ 40 ≤ ((σ.1 106 38)).toNatClampNeg then none else (if ¬ ((q1.1 127) ((σ.1 106 38)).toNatClampNeg) = (8 : Int32) then (p_r_parameter0_56 (σ.1 106 38) (q1.1 106 40) q1) else ((p_r_stop (4 : Int32) (q1.1 106 40) q1).bind fun q7 => (p_r_parameter0_56 (σ.1 106 38) (q1.1 106 40) q7))))))))
theorem x_r_parameter0 (d : Nat) (hd : 4 ≤ d) (σ : jx_S) (t : jx_S) (res : Option Value × jx_S) (h : p_r_parameter0 σ = some t) (hK : kkV t res) : jE d 172 0 [(0, .ref 106)] [] σ res := by
  unfold p_r_parameter0 at h
  refine jE_blk (bs := [(.aload_n 0, 0, 0), (.getfield 219, 12, 38), (.istore_n 1, 5, 0), (.aload_n 0, 0, 0), (.bipush (16), 16, 0)]) (i := .invokevirtual 338) (a1 := 156) (a2 := 0) (pc1 := 8) (l1 := [(1, .int (σ.1 106 38)), (0, .ref 106)]) (st1 := [.int (16 : Int32), .ref 106]) (σ1 := σ) (by decide +kernel) rfl (fun hC => ?_)
  obtain ⟨q1, hq, h⟩ := Option.bind_eq_some_iff.mp h
  refine jE_call (as := [.ref 106, .int (16 : Int32)]) (pc1 := 11) (st1 := []) hC rfl (by decide) (by omega) (x_r_expect (d - 1) (by omega) (16 : Int32) σ q1 (none, q1) hq rfl) ?_
  refine jE_blk (bs := [(.aload_n 0, 0, 0), (.getfield 303, 12, 40), (.istore_n 2, 5, 0), (.aload_n 0, 0, 0), (.getfield 300, 12, 41)]) (i := .ifCond .eq (36)) (a1 := 0) (a2 := 0) (pc1 := 20) (l1 := [(2, .int (q1.1 106 40)), (1, .int (σ.1 106 38)), (0, .ref 106)]) (st1 := [.int (q1.1 106 41)]) (σ1 := q1) (by decide +kernel) rfl (fun hC => ?_)
  rcases Classical.em ((q1.1 106 41) = 0) with hc | hc
  · rw [if_pos hc] at h
    refine jE_ifT 56 hC (by decide) hc ?_
    exact jE_loc (l := [(0, .ref 106), (1, .int (σ.1 106 38)), (2, .int (q1.1 106 40))]) (ks := [0, 1, 2]) rfl (by decide) ⟨rfl, rfl, rfl, trivial⟩ (x_r_parameter0_56 d hd (σ.1 106 38) (q1.1 106 40) q1 _ res h hK)
  · rw [if_neg hc] at h
    refine jE_ifF 56 hC (by decide) hc ?_
    refine jE_blk (bs := [(.aload_n 0, 0, 0), (.getfield 17, 12, 6), (.aload_n 0, 0, 0), (.getfield 303, 12, 40)]) (i := .iaload) (a1 := 0) (a2 := 0) (pc1 := 31) (l1 := [(2, .int (q1.1 106 40)), (1, .int (σ.1 106 38)), (0, .ref 106)]) (st1 := [.int (q1.1 106 40), .ref 108]) (σ1 := q1) (by decide +kernel) rfl (fun hC => ?_)
    obtain ⟨hi, h⟩ := jx_ite0_inv h
    refine jE_iald (n := 1202) hC (by decide) rfl hi ?_
    refine jE_blk (bs := [(.iconst (1), 1, 0)]) (i := .if_icmp .ne (23)) (a1 := 0) (a2 := 0) (pc1 := 33) (l1 := [(2, .int (q1.1 106 40)), (1, .int (σ.1 106 38)), (0, .ref 106)]) (st1 := [.int (1 : Int32), .int ((q1.1 108) ((q1.1 106 40)).toNatClampNeg)]) (σ1 := q1) (by decide +kernel) rfl (fun hC => ?_)
    rcases Classical.em (¬ ((q1.1 108) ((q1.1 106 40)).toNatClampNeg) = (1 : Int32)) with hc | hc
    · rw [if_pos hc] at h
      refine jE_icT 56 hC (by decide) hc ?_
      exact jE_loc (l := [(0, .ref 106), (1, .int (σ.1 106 38)), (2, .int (q1.1 106 40))]) (ks := [0, 1, 2]) rfl (by decide) ⟨rfl, rfl, rfl, trivial⟩ (x_r_parameter0_56 d hd (σ.1 106 38) (q1.1 106 40) q1 _ res h hK)
    · rw [if_neg hc] at h
      refine jE_icF 56 hC (by decide) hc ?_
      refine jE_blk (bs := [(.aload_n 0, 0, 0), (.getfield 75, 12, 27), (.iload_n 1, 0, 0)]) (i := .iaload) (a1 := 0) (a2 := 0) (pc1 := 41) (l1 := [(2, .int (q1.1 106 40)), (1, .int (σ.1 106 38)), (0, .ref 106)]) (st1 := [.int (σ.1 106 38), .ref 127]) (σ1 := q1) (by decide +kernel) rfl (fun hC => ?_)
      obtain ⟨hi, h⟩ := jx_ite0_inv h
      refine jE_iald (n := 40) hC (by decide) rfl hi ?_
      refine jE_blk (bs := [(.bipush (8), 8, 0)]) (i := .if_icmp .ne (12)) (a1 := 0) (a2 := 0) (pc1 := 44) (l1 := [(2, .int (q1.1 106 40)), (1, .int (σ.1 106 38)), (0, .ref 106)]) (st1 := [.int (8 : Int32), .int ((q1.1 127) ((σ.1 106 38)).toNatClampNeg)]) (σ1 := q1) (by decide +kernel) rfl (fun hC => ?_)
      rcases Classical.em (¬ ((q1.1 127) ((σ.1 106 38)).toNatClampNeg) = (8 : Int32)) with hc | hc
      · rw [if_pos hc] at h
        refine jE_icT 56 hC (by decide) hc ?_
        exact jE_loc (l := [(0, .ref 106), (1, .int (σ.1 106 38)), (2, .int (q1.1 106 40))]) (ks := [0, 1, 2]) rfl (by decide) ⟨rfl, rfl, rfl, trivial⟩ (x_r_parameter0_56 d hd (σ.1 106 38) (q1.1 106 40) q1 _ res h hK)
      · rw [if_neg hc] at h
        refine jE_icF 56 hC (by decide) hc ?_
        refine jE_blk (bs := [(.aload_n 0, 0, 0), (.iconst (4), 4, 0), (.aload_n 0, 0, 0), (.getfield 303, 12, 40)]) (i := .invokevirtual 306) (a1 := 155) (a2 := 0) (pc1 := 53) (l1 := [(2, .int (q1.1 106 40)), (1, .int (σ.1 106 38)), (0, .ref 106)]) (st1 := [.int (q1.1 106 40), .int (4 : Int32), .ref 106]) (σ1 := q1) (by decide +kernel) rfl (fun hC => ?_)
        obtain ⟨q7, hq, h⟩ := Option.bind_eq_some_iff.mp h
        refine jE_call (as := [.ref 106, .int (4 : Int32), .int (q1.1 106 40)]) (pc1 := 56) (st1 := []) hC rfl (by decide) (by omega) (x_r_stop (d - 1) (by omega) (4 : Int32) (q1.1 106 40) q1 q7 (none, q7) hq rfl) ?_
        exact jE_loc (l := [(0, .ref 106), (1, .int (σ.1 106 38)), (2, .int (q1.1 106 40))]) (ks := [0, 1, 2]) rfl (by decide) ⟨rfl, rfl, rfl, trivial⟩ (x_r_parameter0_56 d hd (σ.1 106 38) (q1.1 106 40) q7 _ res h hK)
