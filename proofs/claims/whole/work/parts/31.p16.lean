def kk_r_workName_146 (d : Nat) (t : ((Int32 × Int32 × Int32 × Int32 × Int32 × Int32 × Int32 × Int32 × jx_S) ⊕ jx_S)) (res : Option Value × jx_S) : Prop := match t with
  | .inl s => jE d 219 146 [(0, .ref 106), (1, .int s.1), (2, .int s.2.1), (3, .int s.2.2.1), (4, .int s.2.2.2.1), (5, .int s.2.2.2.2.1), (6, .int s.2.2.2.2.2.1), (7, .int s.2.2.2.2.2.2.1), (8, .int s.2.2.2.2.2.2.2.1)] [] s.2.2.2.2.2.2.2.2 res
  | .inr t => kkV t res
def kk_r_workName_168 (d : Nat) (t : ((Int32 × Int32 × Int32 × Int32 × Int32 × Int32 × Int32 × jx_S) ⊕ jx_S)) (res : Option Value × jx_S) : Prop := match t with
  | .inl s => jE d 219 168 [(0, .ref 106), (1, .int s.1), (2, .int s.2.1), (3, .int s.2.2.1), (4, .int s.2.2.2.1), (5, .int s.2.2.2.2.1), (6, .int s.2.2.2.2.2.1), (7, .int s.2.2.2.2.2.2.1)] [] s.2.2.2.2.2.2.2 res
  | .inr t => kkV t res
def p_r_workName_334 (x4 : Int32) (y0 : Int64) (σ : jx_S) : Option jx_S := ((p_r_call y0 x4 σ).bind fun q1 => (some (q1)))
theorem x_r_workName_334 (d : Nat) (hd : 4 ≤ d) (x4 : Int32) (y0 : Int64) (σ : jx_S) (t : jx_S) (res : Option Value × jx_S) (h : p_r_workName_334 x4 y0 σ = some t) (hK : kkV t res) : jE d 219 334 [(4, .int x4)] [.long y0, .ref 106] σ res := by
  unfold p_r_workName_334 at h
  refine jE_blk (bs := [(.iload 4, 0, 0)]) (i := .invokevirtual 577) (a1 := 220) (a2 := 0) (pc1 := 336) (l1 := [(4, .int x4)]) (st1 := [.int x4, .long y0, .ref 106]) (σ1 := σ) (by decide +kernel) rfl (fun hC => ?_)
  obtain ⟨q1, hq, h⟩ := Option.bind_eq_some_iff.mp h
  refine jE_call (as := [.ref 106, .long y0, .int x4]) (pc1 := 339) (st1 := []) hC rfl (by decide) (by omega) (x_r_call (d - 1) (by omega) y0 x4 σ q1 (none, q1) hq rfl) ?_
  refine jE_blk (bs := []) (i := .return_) (a1 := 0) (a2 := 0) (pc1 := 339) (l1 := [(4, .int x4)]) (st1 := []) (σ1 := q1) (by decide +kernel) rfl (fun hC => ?_)
  have h9 := Option.some.inj h
  subst h9
  have e9 : ((none, q1) : Option Value × jx_S) = res := hK
  subst e9
  exact jE_ret hC rfl
def p_r_workName_238 (x1 : Int32) (x2 : Int32) (x3 : Int32) (x4 : Int32) (x5 : Int32) (x6 : Int32) (x7 : Int32) (σ : jx_S) : Option ((Int32 × Int32 × Int32 × Int32 × Int32 × Int32 × Int32 × jx_S) ⊕ jx_S) := ((p_r_putOff x7 x3 σ).bind fun q3 => (if (q3.2.1 106 87) = 0 then (if (q3.2.1 106 85) < 0 ∨ 4000 ≤ ((q3.2.1 106 85)).toNatClampNeg then none else (if x7 < 0 ∨ 3000 ≤ (x7).toNatClampNeg then none else (some (.inl (x1, x2, x3, x4, (x5 + 1), x6, ((q3.2.1 120) (x7).toNatClampNeg), (jx_i (jx_l q3.2 166 ((q3.2.1 106 85)).toNatClampNeg q3.1) 106 85 ((q3.2.1 106 85) + (1 : Int32)))))))) else (Option.map Sum.inr (some (q3.2)))))
theorem x_r_workName_238 (d : Nat) (hd : 4 ≤ d) (x1 : Int32) (x2 : Int32) (x3 : Int32) (x4 : Int32) (x5 : Int32) (x6 : Int32) (x7 : Int32) (σ : jx_S) (t : ((Int32 × Int32 × Int32 × Int32 × Int32 × Int32 × Int32 × jx_S) ⊕ jx_S)) (res : Option Value × jx_S) (h : p_r_workName_238 x1 x2 x3 x4 x5 x6 x7 σ = some t) (hK : kk_r_workName_168 d t res) : jE d 219 238 [(0, .ref 106), (1, .int x1), (2, .int x2), (3, .int x3), (4, .int x4), (5, .int x5), (6, .int x6), (7, .int x7)] [] σ res := by
  unfold p_r_workName_238 at h
  refine jE_blk (bs := [(.aload_n 0, 0, 0), (.iload 7, 0, 0), (.iload_n 3, 0, 0)]) (i := .invokevirtual 574) (a1 := 215) (a2 := 0) (pc1 := 242) (l1 := [(0, .ref 106), (1, .int x1), (2, .int x2), (3, .int x3), (4, .int x4), (5, .int x5), (6, .int x6), (7, .int x7)]) (st1 := [.int x3, .int x7, .ref 106]) (σ1 := σ) (by decide +kernel) rfl (fun hC => ?_)
  obtain ⟨q3, hq, h⟩ := Option.bind_eq_some_iff.mp h
  refine jE_call (as := [.ref 106, .int x7, .int x3]) (pc1 := 245) (st1 := []) hC rfl (by decide) (by omega) (x_r_putOff (d - 1) (by omega) x7 x3 σ q3 (some (.long q3.1), q3.2) hq rfl) ?_
  refine jE_blk (bs := [(.lstore 8, 10, 0), (.aload_n 0, 0, 0), (.getfield 521, 12, 87)]) (i := .ifCond .eq (4)) (a1 := 0) (a2 := 0) (pc1 := 251) (l1 := [(8, .long q3.1), (0, .ref 106), (1, .int x1), (2, .int x2), (3, .int x3), (4, .int x4), (5, .int x5), (6, .int x6), (7, .int x7)]) (st1 := [.int (q3.2.1 106 87)]) (σ1 := q3.2) (by decide +kernel) rfl (fun hC => ?_)
  rcases Classical.em ((q3.2.1 106 87) = 0) with hc | hc
  · rw [if_pos hc] at h
    refine jE_ifT 255 hC (by decide) hc ?_
    refine jE_blk (bs := [(.aload_n 0, 0, 0), (.getfield 194, 12, 84), (.aload_n 0, 0, 0), (.getfield 500, 12, 85), (.lload 8, 0, 0)]) (i := .lastore) (a1 := 0) (a2 := 0) (pc1 := 265) (l1 := [(8, .long q3.1), (0, .ref 106), (1, .int x1), (2, .int x2), (3, .int x3), (4, .int x4), (5, .int x5), (6, .int x6), (7, .int x7)]) (st1 := [.long q3.1, .int (q3.2.1 106 85), .ref 166]) (σ1 := q3.2) (by decide +kernel) rfl (fun hC => ?_)
    obtain ⟨hi, h⟩ := jx_ite0_inv h
    refine jE_last (n := 4000) hC (by decide) rfl hi ?_
    refine jE_blk (bs := [(.aload_n 0, 0, 0), (.dup, 0, 0), (.getfield 500, 12, 85), (.iconst (1), 1, 0), (.iadd, 0, 0), (.putfield 500, 12, 85), (.aload_n 0, 0, 0), (.getfield 53, 12, 19), (.iload 7, 0, 0)]) (i := .iaload) (a1 := 0) (a2 := 0) (pc1 := 282) (l1 := [(8, .long q3.1), (0, .ref 106), (1, .int x1), (2, .int x2), (3, .int x3), (4, .int x4), (5, .int x5), (6, .int x6), (7, .int x7)]) (st1 := [.int x7, .ref 120]) (σ1 := (jx_i (jx_l q3.2 166 ((q3.2.1 106 85)).toNatClampNeg q3.1) 106 85 ((q3.2.1 106 85) + (1 : Int32)))) (by decide +kernel) rfl (fun hC => ?_)
    obtain ⟨hi, h⟩ := jx_ite0_inv h
    refine jE_iald (n := 3000) hC (by decide) rfl hi ?_
    refine jE_blk (bs := [(.istore 7, 10, 0), (.iinc 5 (1), 10, 2), (.goto (-120), 0, 0)]) (i := .iload 5) (a1 := 0) (a2 := 0) (pc1 := 168) (l1 := [(5, .int (x5 + 1)), (7, .int ((q3.2.1 120) (x7).toNatClampNeg)), (8, .long q3.1), (0, .ref 106), (1, .int x1), (2, .int x2), (3, .int x3), (4, .int x4), (6, .int x6)]) (st1 := []) (σ1 := (jx_i (jx_l q3.2 166 ((q3.2.1 106 85)).toNatClampNeg q3.1) 106 85 ((q3.2.1 106 85) + (1 : Int32)))) (by decide +kernel) rfl (fun hC => ?_)
    have h9 := Option.some.inj h
    subst h9
    exact jE_loc (l := [(0, .ref 106), (1, .int x1), (2, .int x2), (3, .int x3), (4, .int x4), (5, .int (x5 + 1)), (6, .int x6), (7, .int ((q3.2.1 120) (x7).toNatClampNeg))]) (ks := [0, 1, 2, 3, 4, 5, 6, 7]) rfl (by decide) ⟨rfl, rfl, rfl, rfl, rfl, rfl, rfl, rfl, trivial⟩ hK
  · rw [if_neg hc] at h
    refine jE_ifF 255 hC (by decide) hc ?_
    obtain ⟨t9_4, h9_4, h8_4⟩ := Option.map_eq_some_iff.mp h
    clear h
    subst h8_4
    have h := h9_4
    clear h9_4
    refine jE_blk (bs := []) (i := .return_) (a1 := 0) (a2 := 0) (pc1 := 254) (l1 := [(8, .long q3.1), (0, .ref 106), (1, .int x1), (2, .int x2), (3, .int x3), (4, .int x4), (5, .int x5), (6, .int x6), (7, .int x7)]) (st1 := []) (σ1 := q3.2) (by decide +kernel) rfl (fun hC => ?_)
    have h9 := Option.some.inj h
    subst h9
    have e9 : ((none, q3.2) : Option Value × jx_S) = res := hK
    subst e9
    exact jE_ret hC rfl
def p_r_workName_168_s (x1 : Int32) (x2 : Int32) (x3 : Int32) (x4 : Int32) (x5 : Int32) (x6 : Int32) (x7 : Int32) (σ : jx_S) : Option ((Int32 × Int32 × Int32 × Int32 × Int32 × Int32 × Int32 × jx_S) ⊕ jx_S) := (if x4 ≤ x5 then (Option.map Sum.inr (if x1 < 0 ∨ 251 ≤ (x1).toNatClampNeg then none else (if x6 = 0 then (if x2 < 0 ∨ 3000 ≤ (x2).toNatClampNeg then none else (if (x3 + ((σ.1 117) (x2).toNatClampNeg)) < 0 ∨ 30000 ≤ ((x3 + ((σ.1 117) (x2).toNatClampNeg))).toNatClampNeg then none else (p_r_workName_334 x4 ((σ.2 150) ((x3 + ((σ.1 117) (x2).toNatClampNeg))).toNatClampNeg) (jx_i σ 163 (x1).toNatClampNeg (1000 : Int32))))) else (if x2 < 0 ∨ 3000 ≤ (x2).toNatClampNeg then none else (p_r_workName_334 x4 (v_r_tagged (4 : Int64) ((σ.1 123) (x2).toNatClampNeg) (jx_i σ 163 (x1).toNatClampNeg (1000 : Int32))) (jx_i σ 163 (x1).toNatClampNeg (1000 : Int32))))))) else (if (σ.1 106 86) = 0 then (p_r_workName_238 x1 x2 x3 x4 x5 x6 x7 σ) else (if x6 = 0 then (p_r_workName_238 x1 x2 x3 x4 x5 x6 x7 σ) else (if x2 < 0 ∨ 3000 ≤ (x2).toNatClampNeg then none else (if (((8 : Int32) * ((σ.1 123) (x2).toNatClampNeg)) + x5) < 0 ∨ 320 ≤ ((((8 : Int32) * ((σ.1 123) (x2).toNatClampNeg)) + x5)).toNatClampNeg then none else (if ((σ.1 136) ((((8 : Int32) * ((σ.1 123) (x2).toNatClampNeg)) + x5)).toNatClampNeg) = 0 then (p_r_workName_238 x1 x2 x3 x4 x5 x6 x7 σ) else (Option.map Sum.inr (if x1 < 0 ∨ 251 ≤ (x1).toNatClampNeg then none else ((p_r_begin x7 x3 (-1 : Int32) (jx_i (jx_i σ 106 92 ((σ.1 106 92) + (1 : Int32))) 163 (x1).toNatClampNeg ((500 : Int32) + x5))).bind fun q5 => (some (q5)))))))))))
theorem x_r_workName_168_s (d : Nat) (hd : 4 ≤ d) (x1 : Int32) (x2 : Int32) (x3 : Int32) (x4 : Int32) (x5 : Int32) (x6 : Int32) (x7 : Int32) (σ : jx_S) (t : ((Int32 × Int32 × Int32 × Int32 × Int32 × Int32 × Int32 × jx_S) ⊕ jx_S)) (res : Option Value × jx_S) (h : p_r_workName_168_s x1 x2 x3 x4 x5 x6 x7 σ = some t) (hK : kk_r_workName_168 d t res) : jE d 219 168 [(0, .ref 106), (1, .int x1), (2, .int x2), (3, .int x3), (4, .int x4), (5, .int x5), (6, .int x6), (7, .int x7)] [] σ res := by
  unfold p_r_workName_168_s at h
  refine jE_blk (bs := [(.iload 5, 0, 0), (.iload 4, 0, 0)]) (i := .if_icmp .ge (119)) (a1 := 0) (a2 := 0) (pc1 := 172) (l1 := [(0, .ref 106), (1, .int x1), (2, .int x2), (3, .int x3), (4, .int x4), (5, .int x5), (6, .int x6), (7, .int x7)]) (st1 := [.int x4, .int x5]) (σ1 := σ) (by decide +kernel) rfl (fun hC => ?_)
  rcases Classical.em (x4 ≤ x5) with hc | hc
  · rw [if_pos hc] at h
    refine jE_icT 291 hC (by decide) hc ?_
    obtain ⟨t9_2, h9_2, h8_2⟩ := Option.map_eq_some_iff.mp h
    clear h
    subst h8_2
    have h := h9_2
    clear h9_2
    refine jE_blk (bs := [(.aload_n 0, 0, 0), (.getfield 185, 12, 79), (.iload_n 1, 0, 0), (.sipush (1000), 1000, 0)]) (i := .iastore) (a1 := 0) (a2 := 0) (pc1 := 299) (l1 := [(0, .ref 106), (1, .int x1), (2, .int x2), (3, .int x3), (4, .int x4), (5, .int x5), (6, .int x6), (7, .int x7)]) (st1 := [.int (1000 : Int32), .int x1, .ref 163]) (σ1 := σ) (by decide +kernel) rfl (fun hC => ?_)
    obtain ⟨hi, h⟩ := jx_ite0_inv h
    refine jE_iast (n := 251) hC (by decide) rfl hi ?_
    refine jE_blk (bs := [(.aload_n 0, 0, 0), (.iload 6, 0, 0)]) (i := .ifCond .eq (18)) (a1 := 0) (a2 := 0) (pc1 := 303) (l1 := [(0, .ref 106), (1, .int x1), (2, .int x2), (3, .int x3), (4, .int x4), (5, .int x5), (6, .int x6), (7, .int x7)]) (st1 := [.int x6, .ref 106]) (σ1 := (jx_i σ 163 (x1).toNatClampNeg (1000 : Int32))) (by decide +kernel) rfl (fun hC => ?_)
    rcases Classical.em (x6 = 0) with hc | hc
    · rw [if_pos hc] at h
      refine jE_ifT 321 hC (by decide) hc ?_
      refine jE_blk (bs := [(.aload_n 0, 0, 0), (.getfield 145, 12, 61), (.iload_n 3, 0, 0), (.aload_n 0, 0, 0), (.getfield 44, 12, 16), (.iload_n 2, 0, 0)]) (i := .iaload) (a1 := 0) (a2 := 0) (pc1 := 331) (l1 := [(0, .ref 106), (1, .int x1), (2, .int x2), (3, .int x3), (4, .int x4), (5, .int x5), (6, .int x6), (7, .int x7)]) (st1 := [.int x2, .ref 117, .int x3, .ref 150, .ref 106]) (σ1 := (jx_i σ 163 (x1).toNatClampNeg (1000 : Int32))) (by decide +kernel) rfl (fun hC => ?_)
      obtain ⟨hi, h⟩ := jx_ite0_inv h
      refine jE_iald (n := 3000) hC (by decide) rfl hi ?_
      refine jE_blk (bs := [(.iadd, 0, 0)]) (i := .laload) (a1 := 0) (a2 := 0) (pc1 := 333) (l1 := [(0, .ref 106), (1, .int x1), (2, .int x2), (3, .int x3), (4, .int x4), (5, .int x5), (6, .int x6), (7, .int x7)]) (st1 := [.int (x3 + ((σ.1 117) (x2).toNatClampNeg)), .ref 150, .ref 106]) (σ1 := (jx_i σ 163 (x1).toNatClampNeg (1000 : Int32))) (by decide +kernel) rfl (fun hC => ?_)
      obtain ⟨hi, h⟩ := jx_ite0_inv h
      refine jE_lald (n := 30000) hC (by decide) rfl hi ?_
      exact jE_loc (l := [(4, .int x4)]) (ks := [4]) rfl (by decide) ⟨rfl, trivial⟩ (x_r_workName_334 d hd x4 ((σ.2 150) ((x3 + ((σ.1 117) (x2).toNatClampNeg))).toNatClampNeg) (jx_i σ 163 (x1).toNatClampNeg (1000 : Int32)) _ res h hK)
    · rw [if_neg hc] at h
      refine jE_ifF 321 hC (by decide) hc ?_
      refine jE_blk (bs := [(.ldc2_w 537, 4, 0), (.aload_n 0, 0, 0), (.getfield 62, 12, 22), (.iload_n 2, 0, 0)]) (i := .iaload) (a1 := 0) (a2 := 0) (pc1 := 314) (l1 := [(0, .ref 106), (1, .int x1), (2, .int x2), (3, .int x3), (4, .int x4), (5, .int x5), (6, .int x6), (7, .int x7)]) (st1 := [.int x2, .ref 123, .long (4 : Int64), .ref 106]) (σ1 := (jx_i σ 163 (x1).toNatClampNeg (1000 : Int32))) (by decide +kernel) rfl (fun hC => ?_)
      obtain ⟨hi, h⟩ := jx_ite0_inv h
      refine jE_iald (n := 3000) hC (by decide) rfl hi ?_
      refine jE_blk (bs := []) (i := .invokestatic 533) (a1 := 209) (a2 := 0) (pc1 := 315) (l1 := [(0, .ref 106), (1, .int x1), (2, .int x2), (3, .int x3), (4, .int x4), (5, .int x5), (6, .int x6), (7, .int x7)]) (st1 := [.int ((σ.1 123) (x2).toNatClampNeg), .long (4 : Int64), .ref 106]) (σ1 := (jx_i σ 163 (x1).toNatClampNeg (1000 : Int32))) (by decide +kernel) rfl (fun hC => ?_)
      refine jE_call (as := [.long (4 : Int64), .int ((σ.1 123) (x2).toNatClampNeg)]) (pc1 := 318) (st1 := [.ref 106]) hC rfl (by decide) (by omega) (xv_r_tagged (d - 1) (by omega) (4 : Int64) ((σ.1 123) (x2).toNatClampNeg) (jx_i σ 163 (x1).toNatClampNeg (1000 : Int32))) ?_
      refine jE_blk (bs := [(.goto (16), 0, 0)]) (i := .iload 4) (a1 := 0) (a2 := 0) (pc1 := 334) (l1 := [(0, .ref 106), (1, .int x1), (2, .int x2), (3, .int x3), (4, .int x4), (5, .int x5), (6, .int x6), (7, .int x7)]) (st1 := [.long (v_r_tagged (4 : Int64) ((σ.1 123) (x2).toNatClampNeg) (jx_i σ 163 (x1).toNatClampNeg (1000 : Int32))), .ref 106]) (σ1 := (jx_i σ 163 (x1).toNatClampNeg (1000 : Int32))) (by decide +kernel) rfl (fun hC => ?_)
      exact jE_loc (l := [(4, .int x4)]) (ks := [4]) rfl (by decide) ⟨rfl, trivial⟩ (x_r_workName_334 d hd x4 (v_r_tagged (4 : Int64) ((σ.1 123) (x2).toNatClampNeg) (jx_i σ 163 (x1).toNatClampNeg (1000 : Int32))) (jx_i σ 163 (x1).toNatClampNeg (1000 : Int32)) _ res h hK)
  · rw [if_neg hc] at h
    refine jE_icF 291 hC (by decide) hc ?_
    refine jE_blk (bs := [(.aload_n 0, 0, 0), (.getfield 568, 12, 86)]) (i := .ifCond .eq (59)) (a1 := 0) (a2 := 0) (pc1 := 179) (l1 := [(0, .ref 106), (1, .int x1), (2, .int x2), (3, .int x3), (4, .int x4), (5, .int x5), (6, .int x6), (7, .int x7)]) (st1 := [.int (σ.1 106 86)]) (σ1 := σ) (by decide +kernel) rfl (fun hC => ?_)
    rcases Classical.em ((σ.1 106 86) = 0) with hc | hc
    · rw [if_pos hc] at h
      refine jE_ifT 238 hC (by decide) hc ?_
      exact jE_loc (l := [(0, .ref 106), (1, .int x1), (2, .int x2), (3, .int x3), (4, .int x4), (5, .int x5), (6, .int x6), (7, .int x7)]) (ks := [0, 1, 2, 3, 4, 5, 6, 7]) rfl (by decide) ⟨rfl, rfl, rfl, rfl, rfl, rfl, rfl, rfl, trivial⟩ (x_r_workName_238 d hd x1 x2 x3 x4 x5 x6 x7 σ _ res h hK)
    · rw [if_neg hc] at h
      refine jE_ifF 238 hC (by decide) hc ?_
      refine jE_blk (bs := [(.iload 6, 0, 0)]) (i := .ifCond .eq (54)) (a1 := 0) (a2 := 0) (pc1 := 184) (l1 := [(0, .ref 106), (1, .int x1), (2, .int x2), (3, .int x3), (4, .int x4), (5, .int x5), (6, .int x6), (7, .int x7)]) (st1 := [.int x6]) (σ1 := σ) (by decide +kernel) rfl (fun hC => ?_)
      rcases Classical.em (x6 = 0) with hc | hc
      · rw [if_pos hc] at h
        refine jE_ifT 238 hC (by decide) hc ?_
        exact jE_loc (l := [(0, .ref 106), (1, .int x1), (2, .int x2), (3, .int x3), (4, .int x4), (5, .int x5), (6, .int x6), (7, .int x7)]) (ks := [0, 1, 2, 3, 4, 5, 6, 7]) rfl (by decide) ⟨rfl, rfl, rfl, rfl, rfl, rfl, rfl, rfl, trivial⟩ (x_r_workName_238 d hd x1 x2 x3 x4 x5 x6 x7 σ _ res h hK)
      · rw [if_neg hc] at h
        refine jE_ifF 238 hC (by decide) hc ?_
        refine jE_blk (bs := [(.aload_n 0, 0, 0), (.getfield 102, 12, 36), (.bipush (8), 8, 0), (.aload_n 0, 0, 0), (.getfield 62, 12, 22), (.iload_n 2, 0, 0)]) (i := .iaload) (a1 := 0) (a2 := 0) (pc1 := 198) (l1 := [(0, .ref 106), (1, .int x1), (2, .int x2), (3, .int x3), (4, .int x4), (5, .int x5), (6, .int x6), (7, .int x7)]) (st1 := [.int x2, .ref 123, .int (8 : Int32), .ref 136]) (σ1 := σ) (by decide +kernel) rfl (fun hC => ?_)
        obtain ⟨hi, h⟩ := jx_ite0_inv h
        refine jE_iald (n := 3000) hC (by decide) rfl hi ?_
        refine jE_blk (bs := [(.imul, 0, 0), (.iload 5, 0, 0), (.iadd, 0, 0)]) (i := .baload) (a1 := 0) (a2 := 0) (pc1 := 203) (l1 := [(0, .ref 106), (1, .int x1), (2, .int x2), (3, .int x3), (4, .int x4), (5, .int x5), (6, .int x6), (7, .int x7)]) (st1 := [.int (((8 : Int32) * ((σ.1 123) (x2).toNatClampNeg)) + x5), .ref 136]) (σ1 := σ) (by decide +kernel) rfl (fun hC => ?_)
        obtain ⟨hi, h⟩ := jx_ite0_inv h
        refine jE_bald (n := 320) hC (by decide) rfl hi ?_
        refine jE_blk (bs := []) (i := .ifCond .eq (34)) (a1 := 0) (a2 := 0) (pc1 := 204) (l1 := [(0, .ref 106), (1, .int x1), (2, .int x2), (3, .int x3), (4, .int x4), (5, .int x5), (6, .int x6), (7, .int x7)]) (st1 := [.int ((σ.1 136) ((((8 : Int32) * ((σ.1 123) (x2).toNatClampNeg)) + x5)).toNatClampNeg)]) (σ1 := σ) (by decide +kernel) rfl (fun hC => ?_)
        rcases Classical.em (((σ.1 136) ((((8 : Int32) * ((σ.1 123) (x2).toNatClampNeg)) + x5)).toNatClampNeg) = 0) with hc | hc
        · rw [if_pos hc] at h
          refine jE_ifT 238 hC (by decide) hc ?_
          exact jE_loc (l := [(0, .ref 106), (1, .int x1), (2, .int x2), (3, .int x3), (4, .int x4), (5, .int x5), (6, .int x6), (7, .int x7)]) (ks := [0, 1, 2, 3, 4, 5, 6, 7]) rfl (by decide) ⟨rfl, rfl, rfl, rfl, rfl, rfl, rfl, rfl, trivial⟩ (x_r_workName_238 d hd x1 x2 x3 x4 x5 x6 x7 σ _ res h hK)
        · rw [if_neg hc] at h
          refine jE_ifF 238 hC (by decide) hc ?_
          obtain ⟨t9_6, h9_6, h8_6⟩ := Option.map_eq_some_iff.mp h
          clear h
          subst h8_6
          have h := h9_6
          clear h9_6
          refine jE_blk (bs := [(.aload_n 0, 0, 0), (.dup, 0, 0), (.getfield 509, 12, 92), (.iconst (1), 1, 0), (.iadd, 0, 0), (.putfield 509, 12, 92), (.aload_n 0, 0, 0), (.getfield 185, 12, 79), (.iload_n 1, 0, 0), (.sipush (500), 500, 0), (.iload 5, 0, 0), (.iadd, 0, 0)]) (i := .iastore) (a1 := 0) (a2 := 0) (pc1 := 228) (l1 := [(0, .ref 106), (1, .int x1), (2, .int x2), (3, .int x3), (4, .int x4), (5, .int x5), (6, .int x6), (7, .int x7)]) (st1 := [.int ((500 : Int32) + x5), .int x1, .ref 163]) (σ1 := (jx_i σ 106 92 ((σ.1 106 92) + (1 : Int32)))) (by decide +kernel) rfl (fun hC => ?_)
          obtain ⟨hi, h⟩ := jx_ite0_inv h
          refine jE_iast (n := 251) hC (by decide) rfl hi ?_
          refine jE_blk (bs := [(.aload_n 0, 0, 0), (.iload 7, 0, 0), (.iload_n 3, 0, 0), (.iconst (-1), 1, 1)]) (i := .invokevirtual 571) (a1 := 211) (a2 := 0) (pc1 := 234) (l1 := [(0, .ref 106), (1, .int x1), (2, .int x2), (3, .int x3), (4, .int x4), (5, .int x5), (6, .int x6), (7, .int x7)]) (st1 := [.int (-1 : Int32), .int x3, .int x7, .ref 106]) (σ1 := (jx_i (jx_i σ 106 92 ((σ.1 106 92) + (1 : Int32))) 163 (x1).toNatClampNeg ((500 : Int32) + x5))) (by decide +kernel) rfl (fun hC => ?_)
          obtain ⟨q5, hq, h⟩ := Option.bind_eq_some_iff.mp h
          refine jE_call (as := [.ref 106, .int x7, .int x3, .int (-1 : Int32)]) (pc1 := 237) (st1 := []) hC rfl (by decide) (by omega) (x_r_begin (d - 1) (by omega) x7 x3 (-1 : Int32) (jx_i (jx_i σ 106 92 ((σ.1 106 92) + (1 : Int32))) 163 (x1).toNatClampNeg ((500 : Int32) + x5)) q5 (none, q5) hq rfl) ?_
          refine jE_blk (bs := []) (i := .return_) (a1 := 0) (a2 := 0) (pc1 := 237) (l1 := [(0, .ref 106), (1, .int x1), (2, .int x2), (3, .int x3), (4, .int x4), (5, .int x5), (6, .int x6), (7, .int x7)]) (st1 := []) (σ1 := q5) (by decide +kernel) rfl (fun hC => ?_)
          have h9 := Option.some.inj h
          subst h9
          have e9 : ((none, q5) : Option Value × jx_S) = res := hK
          subst e9
          exact jE_ret hC rfl
def p_r_workName_168 (x1 : Int32) (x2 : Int32) (x3 : Int32) (x4 : Int32) (x5 : Int32) (x6 : Int32) (x7 : Int32) (σ : jx_S) : Option jx_S := jx_loop 100000000 (fun s => p_r_workName_168_s s.1 s.2.1 s.2.2.1 s.2.2.2.1 s.2.2.2.2.1 s.2.2.2.2.2.1 s.2.2.2.2.2.2.1 (s.2.2.2.2.2.2.2)) (x1, x2, x3, x4, x5, x6, x7, σ)
theorem x_r_workName_168 (d : Nat) (hd : 4 ≤ d) (x1 : Int32) (x2 : Int32) (x3 : Int32) (x4 : Int32) (x5 : Int32) (x6 : Int32) (x7 : Int32) (σ : jx_S) (t : jx_S) (res : Option Value × jx_S) (h : p_r_workName_168 x1 x2 x3 x4 x5 x6 x7 σ = some t) (hK : kkV t res) : jE d 219 168 [(0, .ref 106), (1, .int x1), (2, .int x2), (3, .int x3), (4, .int x4), (5, .int x5), (6, .int x6), (7, .int x7)] [] σ res := by
  refine jx_loop_ok (E := fun s t => ∀ res, kkV t res → jE d 219 168 [(0, .ref 106), (1, .int s.1), (2, .int s.2.1), (3, .int s.2.2.1), (4, .int s.2.2.2.1), (5, .int s.2.2.2.2.1), (6, .int s.2.2.2.2.2.1), (7, .int s.2.2.2.2.2.2.1)] [] s.2.2.2.2.2.2.2 res) (fun s t hs => ?_) _ _ _ h res hK
  cases t with
  | inl s1 => exact fun b hb res hk => x_r_workName_168_s d hd (s.1) (s.2.1) (s.2.2.1) (s.2.2.2.1) (s.2.2.2.2.1) (s.2.2.2.2.2.1) (s.2.2.2.2.2.2.1) (s.2.2.2.2.2.2.2) _ res hs (hb res hk)
  | inr b => exact fun res hk => x_r_workName_168_s d hd (s.1) (s.2.1) (s.2.2.1) (s.2.2.2.1) (s.2.2.2.2.1) (s.2.2.2.2.2.1) (s.2.2.2.2.2.2.1) (s.2.2.2.2.2.2.2) _ res hs hk
def p_r_workName_146_s (x1 : Int32) (x2 : Int32) (x3 : Int32) (x4 : Int32) (x5 : Int32) (x6 : Int32) (x7 : Int32) (x8 : Int32) (σ : jx_S) : Option ((Int32 × Int32 × Int32 × Int32 × Int32 × Int32 × Int32 × Int32 × jx_S) ⊕ jx_S) := (if x5 ≤ x8 then (Option.map Sum.inr (p_r_workName_168 x1 x2 x3 x4 x5 x6 x7 σ)) else (if x7 < 0 ∨ 3000 ≤ (x7).toNatClampNeg then none else (some (.inl (x1, x2, x3, x4, x5, x6, ((σ.1 120) (x7).toNatClampNeg), (x8 + 1), σ)))))
theorem x_r_workName_146_s (d : Nat) (hd : 4 ≤ d) (x1 : Int32) (x2 : Int32) (x3 : Int32) (x4 : Int32) (x5 : Int32) (x6 : Int32) (x7 : Int32) (x8 : Int32) (σ : jx_S) (t : ((Int32 × Int32 × Int32 × Int32 × Int32 × Int32 × Int32 × Int32 × jx_S) ⊕ jx_S)) (res : Option Value × jx_S) (h : p_r_workName_146_s x1 x2 x3 x4 x5 x6 x7 x8 σ = some t) (hK : kk_r_workName_146 d t res) : jE d 219 146 [(0, .ref 106), (1, .int x1), (2, .int x2), (3, .int x3), (4, .int x4), (5, .int x5), (6, .int x6), (7, .int x7), (8, .int x8)] [] σ res := by
  unfold p_r_workName_146_s at h
  refine jE_blk (bs := [(.iload 8, 0, 0), (.iload 5, 0, 0)]) (i := .if_icmp .ge (18)) (a1 := 0) (a2 := 0) (pc1 := 150) (l1 := [(0, .ref 106), (1, .int x1), (2, .int x2), (3, .int x3), (4, .int x4), (5, .int x5), (6, .int x6), (7, .int x7), (8, .int x8)]) (st1 := [.int x5, .int x8]) (σ1 := σ) (by decide +kernel) rfl (fun hC => ?_)
  rcases Classical.em (x5 ≤ x8) with hc | hc
  · rw [if_pos hc] at h
    refine jE_icT 168 hC (by decide) hc ?_
    obtain ⟨t9_7, h9_7, h8_7⟩ := Option.map_eq_some_iff.mp h
    clear h
    subst h8_7
    have h := h9_7
    clear h9_7
    exact jE_loc (l := [(0, .ref 106), (1, .int x1), (2, .int x2), (3, .int x3), (4, .int x4), (5, .int x5), (6, .int x6), (7, .int x7)]) (ks := [0, 1, 2, 3, 4, 5, 6, 7]) rfl (by decide) ⟨rfl, rfl, rfl, rfl, rfl, rfl, rfl, rfl, trivial⟩ (x_r_workName_168 d hd x1 x2 x3 x4 x5 x6 x7 σ _ res h hK)
  · rw [if_neg hc] at h
    refine jE_icF 168 hC (by decide) hc ?_
    refine jE_blk (bs := [(.aload_n 0, 0, 0), (.getfield 53, 12, 19), (.iload 7, 0, 0)]) (i := .iaload) (a1 := 0) (a2 := 0) (pc1 := 159) (l1 := [(0, .ref 106), (1, .int x1), (2, .int x2), (3, .int x3), (4, .int x4), (5, .int x5), (6, .int x6), (7, .int x7), (8, .int x8)]) (st1 := [.int x7, .ref 120]) (σ1 := σ) (by decide +kernel) rfl (fun hC => ?_)
    obtain ⟨hi, h⟩ := jx_ite0_inv h
    refine jE_iald (n := 3000) hC (by decide) rfl hi ?_
    refine jE_blk (bs := [(.istore 7, 10, 0), (.iinc 8 (1), 10, 2), (.goto (-19), 0, 0)]) (i := .iload 8) (a1 := 0) (a2 := 0) (pc1 := 146) (l1 := [(8, .int (x8 + 1)), (7, .int ((σ.1 120) (x7).toNatClampNeg)), (0, .ref 106), (1, .int x1), (2, .int x2), (3, .int x3), (4, .int x4), (5, .int x5), (6, .int x6)]) (st1 := []) (σ1 := σ) (by decide +kernel) rfl (fun hC => ?_)
    have h9 := Option.some.inj h
    subst h9
    exact jE_loc (l := [(0, .ref 106), (1, .int x1), (2, .int x2), (3, .int x3), (4, .int x4), (5, .int x5), (6, .int x6), (7, .int ((σ.1 120) (x7).toNatClampNeg)), (8, .int (x8 + 1))]) (ks := [0, 1, 2, 3, 4, 5, 6, 7, 8]) rfl (by decide) ⟨rfl, rfl, rfl, rfl, rfl, rfl, rfl, rfl, rfl, trivial⟩ hK
def p_r_workName_146 (x1 : Int32) (x2 : Int32) (x3 : Int32) (x4 : Int32) (x5 : Int32) (x6 : Int32) (x7 : Int32) (x8 : Int32) (σ : jx_S) : Option jx_S := jx_loop 100000000 (fun s => p_r_workName_146_s s.1 s.2.1 s.2.2.1 s.2.2.2.1 s.2.2.2.2.1 s.2.2.2.2.2.1 s.2.2.2.2.2.2.1 s.2.2.2.2.2.2.2.1 (s.2.2.2.2.2.2.2.2)) (x1, x2, x3, x4, x5, x6, x7, x8, σ)
theorem x_r_workName_146 (d : Nat) (hd : 4 ≤ d) (x1 : Int32) (x2 : Int32) (x3 : Int32) (x4 : Int32) (x5 : Int32) (x6 : Int32) (x7 : Int32) (x8 : Int32) (σ : jx_S) (t : jx_S) (res : Option Value × jx_S) (h : p_r_workName_146 x1 x2 x3 x4 x5 x6 x7 x8 σ = some t) (hK : kkV t res) : jE d 219 146 [(0, .ref 106), (1, .int x1), (2, .int x2), (3, .int x3), (4, .int x4), (5, .int x5), (6, .int x6), (7, .int x7), (8, .int x8)] [] σ res := by
  refine jx_loop_ok (E := fun s t => ∀ res, kkV t res → jE d 219 146 [(0, .ref 106), (1, .int s.1), (2, .int s.2.1), (3, .int s.2.2.1), (4, .int s.2.2.2.1), (5, .int s.2.2.2.2.1), (6, .int s.2.2.2.2.2.1), (7, .int s.2.2.2.2.2.2.1), (8, .int s.2.2.2.2.2.2.2.1)] [] s.2.2.2.2.2.2.2.2 res) (fun s t hs => ?_) _ _ _ h res hK
  cases t with
  | inl s1 => exact fun b hb res hk => x_r_workName_146_s d hd (s.1) (s.2.1) (s.2.2.1) (s.2.2.2.1) (s.2.2.2.2.1) (s.2.2.2.2.2.1) (s.2.2.2.2.2.2.1) (s.2.2.2.2.2.2.2.1) (s.2.2.2.2.2.2.2.2) _ res hs (hb res hk)
  | inr b => exact fun res hk => x_r_workName_146_s d hd (s.1) (s.2.1) (s.2.2.1) (s.2.2.2.1) (s.2.2.2.2.1) (s.2.2.2.2.2.1) (s.2.2.2.2.2.2.1) (s.2.2.2.2.2.2.2.1) (s.2.2.2.2.2.2.2.2) _ res hs hk
def p_r_workName_135 (x1 : Int32) (x2 : Int32) (x3 : Int32) (x4 : Int32) (x5 : Int32) (x6 : Int32) (σ : jx_S) : Option jx_S := (if x2 < 0 ∨ 3000 ≤ (x2).toNatClampNeg then none else (p_r_workName_146 x1 x2 x3 x4 x5 x6 ((σ.1 114) (x2).toNatClampNeg) (0 : Int32) σ))
theorem x_r_workName_135 (d : Nat) (hd : 4 ≤ d) (x1 : Int32) (x2 : Int32) (x3 : Int32) (x4 : Int32) (x5 : Int32) (x6 : Int32) (σ : jx_S) (t : jx_S) (res : Option Value × jx_S) (h : p_r_workName_135 x1 x2 x3 x4 x5 x6 σ = some t) (hK : kkV t res) : jE d 219 135 [(0, .ref 106), (1, .int x1), (2, .int x2), (3, .int x3), (4, .int x4), (5, .int x5), (6, .int x6)] [] σ res := by
  unfold p_r_workName_135 at h
  refine jE_blk (bs := [(.aload_n 0, 0, 0), (.getfield 35, 12, 13), (.iload_n 2, 0, 0)]) (i := .iaload) (a1 := 0) (a2 := 0) (pc1 := 140) (l1 := [(0, .ref 106), (1, .int x1), (2, .int x2), (3, .int x3), (4, .int x4), (5, .int x5), (6, .int x6)]) (st1 := [.int x2, .ref 114]) (σ1 := σ) (by decide +kernel) rfl (fun hC => ?_)
  obtain ⟨hi, h⟩ := jx_ite0_inv h
  refine jE_iald (n := 3000) hC (by decide) rfl hi ?_
  refine jE_blk (bs := [(.istore 7, 10, 0), (.iconst (0), 0, 0), (.istore 8, 10, 0)]) (i := .iload 8) (a1 := 0) (a2 := 0) (pc1 := 146) (l1 := [(8, .int (0 : Int32)), (7, .int ((σ.1 114) (x2).toNatClampNeg)), (0, .ref 106), (1, .int x1), (2, .int x2), (3, .int x3), (4, .int x4), (5, .int x5), (6, .int x6)]) (st1 := []) (σ1 := σ) (by decide +kernel) rfl (fun hC => ?_)
  exact jE_loc (l := [(0, .ref 106), (1, .int x1), (2, .int x2), (3, .int x3), (4, .int x4), (5, .int x5), (6, .int x6), (7, .int ((σ.1 114) (x2).toNatClampNeg)), (8, .int (0 : Int32))]) (ks := [0, 1, 2, 3, 4, 5, 6, 7, 8]) rfl (by decide) ⟨rfl, rfl, rfl, rfl, rfl, rfl, rfl, rfl, rfl, trivial⟩ (x_r_workName_146 d hd x1 x2 x3 x4 x5 x6 ((σ.1 114) (x2).toNatClampNeg) (0 : Int32) σ _ res h hK)
def p_r_workName_84 (x1 : Int32) (x2 : Int32) (x3 : Int32) (x4 : Int32) (x5 : Int32) (y0 : Int32) (σ : jx_S) : Option jx_S := (if x5 < (500 : Int32) then (p_r_workName_135 x1 x2 x3 x4 x5 y0 σ) else (if (σ.1 106 85) < 0 ∨ 4000 ≤ ((σ.1 106 85)).toNatClampNeg then none else (if x1 < 0 ∨ 251 ≤ (x1).toNatClampNeg then none else (p_r_workName_135 x1 x2 x3 x4 ((x5 - (500 : Int32)) + (1 : Int32)) y0 (jx_i (jx_i (jx_l σ 166 ((σ.1 106 85)).toNatClampNeg (σ.2 106 90)) 106 85 ((σ.1 106 85) + (1 : Int32))) 163 (x1).toNatClampNeg ((x5 - (500 : Int32)) + (1 : Int32)))))))
theorem x_r_workName_84 (d : Nat) (hd : 4 ≤ d) (x1 : Int32) (x2 : Int32) (x3 : Int32) (x4 : Int32) (x5 : Int32) (y0 : Int32) (σ : jx_S) (t : jx_S) (res : Option Value × jx_S) (h : p_r_workName_84 x1 x2 x3 x4 x5 y0 σ = some t) (hK : kkV t res) : jE d 219 84 [(0, .ref 106), (1, .int x1), (2, .int x2), (3, .int x3), (4, .int x4), (5, .int x5)] [.int y0] σ res := by
  unfold p_r_workName_84 at h
  refine jE_blk (bs := [(.istore 6, 10, 0), (.iload 5, 0, 0), (.sipush (500), 500, 0)]) (i := .if_icmp .lt (44)) (a1 := 0) (a2 := 0) (pc1 := 91) (l1 := [(6, .int y0), (0, .ref 106), (1, .int x1), (2, .int x2), (3, .int x3), (4, .int x4), (5, .int x5)]) (st1 := [.int (500 : Int32), .int x5]) (σ1 := σ) (by decide +kernel) rfl (fun hC => ?_)
  rcases Classical.em (x5 < (500 : Int32)) with hc | hc
  · rw [if_pos hc] at h
    refine jE_icT 135 hC (by decide) hc ?_
    exact jE_loc (l := [(0, .ref 106), (1, .int x1), (2, .int x2), (3, .int x3), (4, .int x4), (5, .int x5), (6, .int y0)]) (ks := [0, 1, 2, 3, 4, 5, 6]) rfl (by decide) ⟨rfl, rfl, rfl, rfl, rfl, rfl, rfl, trivial⟩ (x_r_workName_135 d hd x1 x2 x3 x4 x5 y0 σ _ res h hK)
  · rw [if_neg hc] at h
    refine jE_icF 135 hC (by decide) hc ?_
    refine jE_blk (bs := [(.aload_n 0, 0, 0), (.getfield 194, 12, 84), (.aload_n 0, 0, 0), (.getfield 500, 12, 85), (.aload_n 0, 0, 0), (.getfield 529, 12, 90)]) (i := .lastore) (a1 := 0) (a2 := 0) (pc1 := 106) (l1 := [(6, .int y0), (0, .ref 106), (1, .int x1), (2, .int x2), (3, .int x3), (4, .int x4), (5, .int x5)]) (st1 := [.long (σ.2 106 90), .int (σ.1 106 85), .ref 166]) (σ1 := σ) (by decide +kernel) rfl (fun hC => ?_)
    obtain ⟨hi, h⟩ := jx_ite0_inv h
    refine jE_last (n := 4000) hC (by decide) rfl hi ?_
    refine jE_blk (bs := [(.aload_n 0, 0, 0), (.dup, 0, 0), (.getfield 500, 12, 85), (.iconst (1), 1, 0), (.iadd, 0, 0), (.putfield 500, 12, 85), (.iload 5, 0, 0), (.sipush (500), 500, 0), (.isub, 0, 0), (.iconst (1), 1, 0), (.iadd, 0, 0), (.istore 5, 10, 0), (.aload_n 0, 0, 0), (.getfield 185, 12, 79), (.iload_n 1, 0, 0), (.iload 5, 0, 0)]) (i := .iastore) (a1 := 0) (a2 := 0) (pc1 := 134) (l1 := [(5, .int ((x5 - (500 : Int32)) + (1 : Int32))), (6, .int y0), (0, .ref 106), (1, .int x1), (2, .int x2), (3, .int x3), (4, .int x4)]) (st1 := [.int ((x5 - (500 : Int32)) + (1 : Int32)), .int x1, .ref 163]) (σ1 := (jx_i (jx_l σ 166 ((σ.1 106 85)).toNatClampNeg (σ.2 106 90)) 106 85 ((σ.1 106 85) + (1 : Int32)))) (by decide +kernel) rfl (fun hC => ?_)
    obtain ⟨hi, h⟩ := jx_ite0_inv h
    refine jE_iast (n := 251) hC (by decide) rfl hi ?_
    exact jE_loc (l := [(0, .ref 106), (1, .int x1), (2, .int x2), (3, .int x3), (4, .int x4), (5, .int ((x5 - (500 : Int32)) + (1 : Int32))), (6, .int y0)]) (ks := [0, 1, 2, 3, 4, 5, 6]) rfl (by decide) ⟨rfl, rfl, rfl, rfl, rfl, rfl, rfl, trivial⟩ (x_r_workName_135 d hd x1 x2 x3 x4 ((x5 - (500 : Int32)) + (1 : Int32)) y0 (jx_i (jx_i (jx_l σ 166 ((σ.1 106 85)).toNatClampNeg (σ.2 106 90)) 106 85 ((σ.1 106 85) + (1 : Int32))) 163 (x1).toNatClampNeg ((x5 - (500 : Int32)) + (1 : Int32))) _ res h hK)
def p_r_workName_37 (x1 : Int32) (x2 : Int32) (x3 : Int32) (σ : jx_S) : Option jx_S := (if x2 < 0 ∨ 3000 ≤ (x2).toNatClampNeg then none else (if x1 < 0 ∨ 251 ≤ (x1).toNatClampNeg then none else (if ¬ ((σ.1 163) (x1).toNatClampNeg) = (1000 : Int32) then (if x2 < 0 ∨ 3000 ≤ (x2).toNatClampNeg then none else (if 0 ≤ ((σ.1 117) (x2).toNatClampNeg) then (p_r_workName_84 x1 x2 x3 ((σ.1 119) (x2).toNatClampNeg) ((σ.1 163) (x1).toNatClampNeg) (0 : Int32) σ) else (p_r_workName_84 x1 x2 x3 ((σ.1 119) (x2).toNatClampNeg) ((σ.1 163) (x1).toNatClampNeg) (1 : Int32) σ))) else ((p_r_finish (σ.2 106 90) σ).bind fun q8 => (some (q8))))))
theorem x_r_workName_37 (d : Nat) (hd : 4 ≤ d) (x1 : Int32) (x2 : Int32) (x3 : Int32) (σ : jx_S) (t : jx_S) (res : Option Value × jx_S) (h : p_r_workName_37 x1 x2 x3 σ = some t) (hK : kkV t res) : jE d 219 37 [(0, .ref 106), (1, .int x1), (2, .int x2), (3, .int x3)] [] σ res := by
  unfold p_r_workName_37 at h
  refine jE_blk (bs := [(.aload_n 0, 0, 0), (.getfield 50, 12, 18), (.iload_n 2, 0, 0)]) (i := .iaload) (a1 := 0) (a2 := 0) (pc1 := 42) (l1 := [(0, .ref 106), (1, .int x1), (2, .int x2), (3, .int x3)]) (st1 := [.int x2, .ref 119]) (σ1 := σ) (by decide +kernel) rfl (fun hC => ?_)
  obtain ⟨hi, h⟩ := jx_ite0_inv h
  refine jE_iald (n := 3000) hC (by decide) rfl hi ?_
  refine jE_blk (bs := [(.istore 4, 10, 0), (.aload_n 0, 0, 0), (.getfield 185, 12, 79), (.iload_n 1, 0, 0)]) (i := .iaload) (a1 := 0) (a2 := 0) (pc1 := 50) (l1 := [(4, .int ((σ.1 119) (x2).toNatClampNeg)), (0, .ref 106), (1, .int x1), (2, .int x2), (3, .int x3)]) (st1 := [.int x1, .ref 163]) (σ1 := σ) (by decide +kernel) rfl (fun hC => ?_)
  obtain ⟨hi, h⟩ := jx_ite0_inv h
  refine jE_iald (n := 251) hC (by decide) rfl hi ?_
  refine jE_blk (bs := [(.istore 5, 10, 0), (.iload 5, 0, 0), (.sipush (1000), 1000, 0)]) (i := .if_icmp .ne (12)) (a1 := 0) (a2 := 0) (pc1 := 58) (l1 := [(5, .int ((σ.1 163) (x1).toNatClampNeg)), (4, .int ((σ.1 119) (x2).toNatClampNeg)), (0, .ref 106), (1, .int x1), (2, .int x2), (3, .int x3)]) (st1 := [.int (1000 : Int32), .int ((σ.1 163) (x1).toNatClampNeg)]) (σ1 := σ) (by decide +kernel) rfl (fun hC => ?_)
  rcases Classical.em (¬ ((σ.1 163) (x1).toNatClampNeg) = (1000 : Int32)) with hc | hc
  · rw [if_pos hc] at h
    refine jE_icT 70 hC (by decide) hc ?_
    refine jE_blk (bs := [(.aload_n 0, 0, 0), (.getfield 44, 12, 16), (.iload_n 2, 0, 0)]) (i := .iaload) (a1 := 0) (a2 := 0) (pc1 := 75) (l1 := [(5, .int ((σ.1 163) (x1).toNatClampNeg)), (4, .int ((σ.1 119) (x2).toNatClampNeg)), (0, .ref 106), (1, .int x1), (2, .int x2), (3, .int x3)]) (st1 := [.int x2, .ref 117]) (σ1 := σ) (by decide +kernel) rfl (fun hC => ?_)
    obtain ⟨hi, h⟩ := jx_ite0_inv h
    refine jE_iald (n := 3000) hC (by decide) rfl hi ?_
    refine jE_blk (bs := []) (i := .ifCond .ge (7)) (a1 := 0) (a2 := 0) (pc1 := 76) (l1 := [(5, .int ((σ.1 163) (x1).toNatClampNeg)), (4, .int ((σ.1 119) (x2).toNatClampNeg)), (0, .ref 106), (1, .int x1), (2, .int x2), (3, .int x3)]) (st1 := [.int ((σ.1 117) (x2).toNatClampNeg)]) (σ1 := σ) (by decide +kernel) rfl (fun hC => ?_)
    rcases Classical.em (0 ≤ ((σ.1 117) (x2).toNatClampNeg)) with hc | hc
    · rw [if_pos hc] at h
      refine jE_ifT 83 hC (by decide) hc ?_
      refine jE_blk (bs := [(.iconst (0), 0, 0)]) (i := .istore 6) (a1 := 10) (a2 := 0) (pc1 := 84) (l1 := [(5, .int ((σ.1 163) (x1).toNatClampNeg)), (4, .int ((σ.1 119) (x2).toNatClampNeg)), (0, .ref 106), (1, .int x1), (2, .int x2), (3, .int x3)]) (st1 := [.int (0 : Int32)]) (σ1 := σ) (by decide +kernel) rfl (fun hC => ?_)
      exact jE_loc (l := [(0, .ref 106), (1, .int x1), (2, .int x2), (3, .int x3), (4, .int ((σ.1 119) (x2).toNatClampNeg)), (5, .int ((σ.1 163) (x1).toNatClampNeg))]) (ks := [0, 1, 2, 3, 4, 5]) rfl (by decide) ⟨rfl, rfl, rfl, rfl, rfl, rfl, trivial⟩ (x_r_workName_84 d hd x1 x2 x3 ((σ.1 119) (x2).toNatClampNeg) ((σ.1 163) (x1).toNatClampNeg) (0 : Int32) σ _ res h hK)
    · rw [if_neg hc] at h
      refine jE_ifF 83 hC (by decide) hc ?_
      refine jE_blk (bs := [(.iconst (1), 1, 0), (.goto (4), 0, 0)]) (i := .istore 6) (a1 := 10) (a2 := 0) (pc1 := 84) (l1 := [(5, .int ((σ.1 163) (x1).toNatClampNeg)), (4, .int ((σ.1 119) (x2).toNatClampNeg)), (0, .ref 106), (1, .int x1), (2, .int x2), (3, .int x3)]) (st1 := [.int (1 : Int32)]) (σ1 := σ) (by decide +kernel) rfl (fun hC => ?_)
      exact jE_loc (l := [(0, .ref 106), (1, .int x1), (2, .int x2), (3, .int x3), (4, .int ((σ.1 119) (x2).toNatClampNeg)), (5, .int ((σ.1 163) (x1).toNatClampNeg))]) (ks := [0, 1, 2, 3, 4, 5]) rfl (by decide) ⟨rfl, rfl, rfl, rfl, rfl, rfl, trivial⟩ (x_r_workName_84 d hd x1 x2 x3 ((σ.1 119) (x2).toNatClampNeg) ((σ.1 163) (x1).toNatClampNeg) (1 : Int32) σ _ res h hK)
  · rw [if_neg hc] at h
    refine jE_icF 70 hC (by decide) hc ?_
    refine jE_blk (bs := [(.aload_n 0, 0, 0), (.aload_n 0, 0, 0), (.getfield 529, 12, 90)]) (i := .invokevirtual 564) (a1 := 212) (a2 := 0) (pc1 := 66) (l1 := [(5, .int ((σ.1 163) (x1).toNatClampNeg)), (4, .int ((σ.1 119) (x2).toNatClampNeg)), (0, .ref 106), (1, .int x1), (2, .int x2), (3, .int x3)]) (st1 := [.long (σ.2 106 90), .ref 106]) (σ1 := σ) (by decide +kernel) rfl (fun hC => ?_)
    obtain ⟨q8, hq, h⟩ := Option.bind_eq_some_iff.mp h
    refine jE_call (as := [.ref 106, .long (σ.2 106 90)]) (pc1 := 69) (st1 := []) hC rfl (by decide) (by omega) (x_r_finish (d - 1) (by omega) (σ.2 106 90) σ q8 (none, q8) hq rfl) ?_
    refine jE_blk (bs := []) (i := .return_) (a1 := 0) (a2 := 0) (pc1 := 69) (l1 := [(5, .int ((σ.1 163) (x1).toNatClampNeg)), (4, .int ((σ.1 119) (x2).toNatClampNeg)), (0, .ref 106), (1, .int x1), (2, .int x2), (3, .int x3)]) (st1 := []) (σ1 := q8) (by decide +kernel) rfl (fun hC => ?_)
    have h9 := Option.some.inj h
    subst h9
    have e9 : ((none, q8) : Option Value × jx_S) = res := hK
    subst e9
    exact jE_ret hC rfl
def p_r_workName (x1 : Int32) (x2 : Int32) (x3 : Int32) (σ : jx_S) : Option jx_S := (if x2 < 0 ∨ 3000 ≤ (x2).toNatClampNeg then none else (if ¬ ((σ.1 119) (x2).toNatClampNeg) = 0 then (p_r_workName_37 x1 x2 x3 σ) else (if x2 < 0 ∨ 3000 ≤ (x2).toNatClampNeg then none else (if ((σ.1 117) (x2).toNatClampNeg) < 0 then (p_r_workName_37 x1 x2 x3 σ) else (if x2 < 0 ∨ 3000 ≤ (x2).toNatClampNeg then none else (if (x3 + ((σ.1 117) (x2).toNatClampNeg)) < 0 ∨ 30000 ≤ ((x3 + ((σ.1 117) (x2).toNatClampNeg))).toNatClampNeg then none else ((p_r_workLocal x1 ((σ.2 150) ((x3 + ((σ.1 117) (x2).toNatClampNeg))).toNatClampNeg) σ).bind fun q9 => (some (q9)))))))))
theorem x_r_workName (d : Nat) (hd : 4 ≤ d) (x1 : Int32) (x2 : Int32) (x3 : Int32) (σ : jx_S) (t : jx_S) (res : Option Value × jx_S) (h : p_r_workName x1 x2 x3 σ = some t) (hK : kkV t res) : jE d 219 0 [(0, .ref 106), (1, .int x1), (2, .int x2), (3, .int x3)] [] σ res := by
  unfold p_r_workName at h
  refine jE_blk (bs := [(.aload_n 0, 0, 0), (.getfield 50, 12, 18), (.iload_n 2, 0, 0)]) (i := .iaload) (a1 := 0) (a2 := 0) (pc1 := 5) (l1 := [(0, .ref 106), (1, .int x1), (2, .int x2), (3, .int x3)]) (st1 := [.int x2, .ref 119]) (σ1 := σ) (by decide +kernel) rfl (fun hC => ?_)
  obtain ⟨hi, h⟩ := jx_ite0_inv h
  refine jE_iald (n := 3000) hC (by decide) rfl hi ?_
  refine jE_blk (bs := []) (i := .ifCond .ne (31)) (a1 := 0) (a2 := 0) (pc1 := 6) (l1 := [(0, .ref 106), (1, .int x1), (2, .int x2), (3, .int x3)]) (st1 := [.int ((σ.1 119) (x2).toNatClampNeg)]) (σ1 := σ) (by decide +kernel) rfl (fun hC => ?_)
  rcases Classical.em (¬ ((σ.1 119) (x2).toNatClampNeg) = 0) with hc | hc
  · rw [if_pos hc] at h
    refine jE_ifT 37 hC (by decide) hc ?_
    exact jE_loc (l := [(0, .ref 106), (1, .int x1), (2, .int x2), (3, .int x3)]) (ks := [0, 1, 2, 3]) rfl (by decide) ⟨rfl, rfl, rfl, rfl, trivial⟩ (x_r_workName_37 d hd x1 x2 x3 σ _ res h hK)
  · rw [if_neg hc] at h
    refine jE_ifF 37 hC (by decide) hc ?_
    refine jE_blk (bs := [(.aload_n 0, 0, 0), (.getfield 44, 12, 16), (.iload_n 2, 0, 0)]) (i := .iaload) (a1 := 0) (a2 := 0) (pc1 := 14) (l1 := [(0, .ref 106), (1, .int x1), (2, .int x2), (3, .int x3)]) (st1 := [.int x2, .ref 117]) (σ1 := σ) (by decide +kernel) rfl (fun hC => ?_)
    obtain ⟨hi, h⟩ := jx_ite0_inv h
    refine jE_iald (n := 3000) hC (by decide) rfl hi ?_
    refine jE_blk (bs := []) (i := .ifCond .lt (22)) (a1 := 0) (a2 := 0) (pc1 := 15) (l1 := [(0, .ref 106), (1, .int x1), (2, .int x2), (3, .int x3)]) (st1 := [.int ((σ.1 117) (x2).toNatClampNeg)]) (σ1 := σ) (by decide +kernel) rfl (fun hC => ?_)
    rcases Classical.em (((σ.1 117) (x2).toNatClampNeg) < 0) with hc | hc
    · rw [if_pos hc] at h
      refine jE_ifT 37 hC (by decide) hc ?_
      exact jE_loc (l := [(0, .ref 106), (1, .int x1), (2, .int x2), (3, .int x3)]) (ks := [0, 1, 2, 3]) rfl (by decide) ⟨rfl, rfl, rfl, rfl, trivial⟩ (x_r_workName_37 d hd x1 x2 x3 σ _ res h hK)
    · rw [if_neg hc] at h
      refine jE_ifF 37 hC (by decide) hc ?_
      refine jE_blk (bs := [(.aload_n 0, 0, 0), (.iload_n 1, 0, 0), (.aload_n 0, 0, 0), (.getfield 145, 12, 61), (.iload_n 3, 0, 0), (.aload_n 0, 0, 0), (.getfield 44, 12, 16), (.iload_n 2, 0, 0)]) (i := .iaload) (a1 := 0) (a2 := 0) (pc1 := 30) (l1 := [(0, .ref 106), (1, .int x1), (2, .int x2), (3, .int x3)]) (st1 := [.int x2, .ref 117, .int x3, .ref 150, .int x1, .ref 106]) (σ1 := σ) (by decide +kernel) rfl (fun hC => ?_)
      obtain ⟨hi, h⟩ := jx_ite0_inv h
      refine jE_iald (n := 3000) hC (by decide) rfl hi ?_
      refine jE_blk (bs := [(.iadd, 0, 0)]) (i := .laload) (a1 := 0) (a2 := 0) (pc1 := 32) (l1 := [(0, .ref 106), (1, .int x1), (2, .int x2), (3, .int x3)]) (st1 := [.int (x3 + ((σ.1 117) (x2).toNatClampNeg)), .ref 150, .int x1, .ref 106]) (σ1 := σ) (by decide +kernel) rfl (fun hC => ?_)
      obtain ⟨hi, h⟩ := jx_ite0_inv h
      refine jE_lald (n := 30000) hC (by decide) rfl hi ?_
      refine jE_blk (bs := []) (i := .invokevirtual 560) (a1 := 221) (a2 := 0) (pc1 := 33) (l1 := [(0, .ref 106), (1, .int x1), (2, .int x2), (3, .int x3)]) (st1 := [.long ((σ.2 150) ((x3 + ((σ.1 117) (x2).toNatClampNeg))).toNatClampNeg), .int x1, .ref 106]) (σ1 := σ) (by decide +kernel) rfl (fun hC => ?_)
      obtain ⟨q9, hq, h⟩ := Option.bind_eq_some_iff.mp h
      refine jE_call (as := [.ref 106, .int x1, .long ((σ.2 150) ((x3 + ((σ.1 117) (x2).toNatClampNeg))).toNatClampNeg)]) (pc1 := 36) (st1 := []) hC rfl (by decide) (by omega) (x_r_workLocal (d - 1) (by omega) x1 ((σ.2 150) ((x3 + ((σ.1 117) (x2).toNatClampNeg))).toNatClampNeg) σ q9 (none, q9) hq rfl) ?_
      refine jE_blk (bs := []) (i := .return_) (a1 := 0) (a2 := 0) (pc1 := 36) (l1 := [(0, .ref 106), (1, .int x1), (2, .int x2), (3, .int x3)]) (st1 := []) (σ1 := q9) (by decide +kernel) rfl (fun hC => ?_)
      have h9 := Option.some.inj h
      subst h9
      have e9 : ((none, q9) : Option Value × jx_S) = res := hK
      subst e9
      exact jE_ret hC rfl
def p_r_workBinary_225 (y0 : Int32) (σ : jx_S) : Option jx_S := ((p_r_finish (v_r_tagged (0 : Int64) y0 σ) σ).bind fun q1 => (some (q1)))
theorem x_r_workBinary_225 (d : Nat) (hd : 1 ≤ d) (y0 : Int32) (σ : jx_S) (t : jx_S) (res : Option Value × jx_S) (h : p_r_workBinary_225 y0 σ = some t) (hK : kkV t res) : jE d 222 225 [(0, .ref 106)] [.int y0] σ res := by
  unfold p_r_workBinary_225 at h
  refine jE_blk (bs := [(.istore 6, 7, 0), (.aload_n 0, 0, 0), (.lconst 0, 0, 0), (.iload 6, 0, 0)]) (i := .invokestatic 533) (a1 := 209) (a2 := 0) (pc1 := 231) (l1 := [(6, .int y0), (0, .ref 106)]) (st1 := [.int y0, .long (0 : Int64), .ref 106]) (σ1 := σ) (by decide +kernel) rfl (fun hC => ?_)
  refine jE_call (as := [.long (0 : Int64), .int y0]) (pc1 := 234) (st1 := [.ref 106]) hC rfl (by decide) (by omega) (xv_r_tagged (d - 1) (by omega) (0 : Int64) y0 σ) ?_
  refine jE_blk (bs := []) (i := .invokevirtual 564) (a1 := 212) (a2 := 0) (pc1 := 234) (l1 := [(6, .int y0), (0, .ref 106)]) (st1 := [.long (v_r_tagged (0 : Int64) y0 σ), .ref 106]) (σ1 := σ) (by decide +kernel) rfl (fun hC => ?_)
  obtain ⟨q1, hq, h⟩ := Option.bind_eq_some_iff.mp h
  refine jE_call (as := [.ref 106, .long (v_r_tagged (0 : Int64) y0 σ)]) (pc1 := 237) (st1 := []) hC rfl (by decide) (by omega) (x_r_finish (d - 1) (by omega) (v_r_tagged (0 : Int64) y0 σ) σ q1 (none, q1) hq rfl) ?_
  refine jE_blk (bs := []) (i := .return_) (a1 := 0) (a2 := 0) (pc1 := 237) (l1 := [(6, .int y0), (0, .ref 106)]) (st1 := []) (σ1 := q1) (by decide +kernel) rfl (fun hC => ?_)
  have h9 := Option.some.inj h
  subst h9
  have e9 : ((none, q1) : Option Value × jx_S) = res := hK
  subst e9
  exact jE_ret hC rfl
def p_r_workBinary_111 (x2 : Int32) (x4 : Int32) (x5 : Int32) (σ : jx_S) : Option jx_S := (if x2 < 0 ∨ 3000 ≤ (x2).toNatClampNeg then none else (if ¬ ((σ.1 112) (x2).toNatClampNeg) = (23 : Int32) then (if x2 < 0 ∨ 3000 ≤ (x2).toNatClampNeg then none else (if ¬ ((σ.1 112) (x2).toNatClampNeg) = (24 : Int32) then (if x2 < 0 ∨ 3000 ≤ (x2).toNatClampNeg then none else (if ¬ ((σ.1 112) (x2).toNatClampNeg) = (25 : Int32) then (if x2 < 0 ∨ 3000 ≤ (x2).toNatClampNeg then none else (if ¬ ((σ.1 112) (x2).toNatClampNeg) = (26 : Int32) then (if x2 < 0 ∨ 3000 ≤ (x2).toNatClampNeg then none else (if ¬ ((σ.1 112) (x2).toNatClampNeg) = (19 : Int32) then (if x5 ≤ x4 then (p_r_workBinary_225 (0 : Int32) σ) else (p_r_workBinary_225 (1 : Int32) σ)) else (if ¬ x4 = x5 then (p_r_workBinary_225 (0 : Int32) σ) else (p_r_workBinary_225 (1 : Int32) σ)))) else (if x5 = 0 then none else (p_r_workBinary_225 (x4 / x5) σ)))) else (p_r_workBinary_225 (x4 * x5) σ))) else (p_r_workBinary_225 (x4 - x5) σ))) else (p_r_workBinary_225 (x4 + x5) σ)))
theorem x_r_workBinary_111 (d : Nat) (hd : 1 ≤ d) (x2 : Int32) (x4 : Int32) (x5 : Int32) (σ : jx_S) (t : jx_S) (res : Option Value × jx_S) (h : p_r_workBinary_111 x2 x4 x5 σ = some t) (hK : kkV t res) : jE d 222 111 [(0, .ref 106), (2, .int x2), (4, .int x4), (5, .int x5)] [] σ res := by
  unfold p_r_workBinary_111 at h
  refine jE_blk (bs := [(.aload_n 0, 0, 0), (.getfield 29, 12, 11), (.iload_n 2, 0, 0)]) (i := .iaload) (a1 := 0) (a2 := 0) (pc1 := 116) (l1 := [(0, .ref 106), (2, .int x2), (4, .int x4), (5, .int x5)]) (st1 := [.int x2, .ref 112]) (σ1 := σ) (by decide +kernel) rfl (fun hC => ?_)
  obtain ⟨hi, h⟩ := jx_ite0_inv h
  refine jE_iald (n := 3000) hC (by decide) rfl hi ?_
  refine jE_blk (bs := [(.bipush (23), 23, 0)]) (i := .if_icmp .ne (11)) (a1 := 0) (a2 := 0) (pc1 := 119) (l1 := [(0, .ref 106), (2, .int x2), (4, .int x4), (5, .int x5)]) (st1 := [.int (23 : Int32), .int ((σ.1 112) (x2).toNatClampNeg)]) (σ1 := σ) (by decide +kernel) rfl (fun hC => ?_)
  rcases Classical.em (¬ ((σ.1 112) (x2).toNatClampNeg) = (23 : Int32)) with hc | hc
  · rw [if_pos hc] at h
    refine jE_icT 130 hC (by decide) hc ?_
    refine jE_blk (bs := [(.aload_n 0, 0, 0), (.getfield 29, 12, 11), (.iload_n 2, 0, 0)]) (i := .iaload) (a1 := 0) (a2 := 0) (pc1 := 135) (l1 := [(0, .ref 106), (2, .int x2), (4, .int x4), (5, .int x5)]) (st1 := [.int x2, .ref 112]) (σ1 := σ) (by decide +kernel) rfl (fun hC => ?_)
    obtain ⟨hi, h⟩ := jx_ite0_inv h
    refine jE_iald (n := 3000) hC (by decide) rfl hi ?_
    refine jE_blk (bs := [(.bipush (24), 24, 0)]) (i := .if_icmp .ne (11)) (a1 := 0) (a2 := 0) (pc1 := 138) (l1 := [(0, .ref 106), (2, .int x2), (4, .int x4), (5, .int x5)]) (st1 := [.int (24 : Int32), .int ((σ.1 112) (x2).toNatClampNeg)]) (σ1 := σ) (by decide +kernel) rfl (fun hC => ?_)
    rcases Classical.em (¬ ((σ.1 112) (x2).toNatClampNeg) = (24 : Int32)) with hc | hc
    · rw [if_pos hc] at h
      refine jE_icT 149 hC (by decide) hc ?_
      refine jE_blk (bs := [(.aload_n 0, 0, 0), (.getfield 29, 12, 11), (.iload_n 2, 0, 0)]) (i := .iaload) (a1 := 0) (a2 := 0) (pc1 := 154) (l1 := [(0, .ref 106), (2, .int x2), (4, .int x4), (5, .int x5)]) (st1 := [.int x2, .ref 112]) (σ1 := σ) (by decide +kernel) rfl (fun hC => ?_)
      obtain ⟨hi, h⟩ := jx_ite0_inv h
      refine jE_iald (n := 3000) hC (by decide) rfl hi ?_
      refine jE_blk (bs := [(.bipush (25), 25, 0)]) (i := .if_icmp .ne (11)) (a1 := 0) (a2 := 0) (pc1 := 157) (l1 := [(0, .ref 106), (2, .int x2), (4, .int x4), (5, .int x5)]) (st1 := [.int (25 : Int32), .int ((σ.1 112) (x2).toNatClampNeg)]) (σ1 := σ) (by decide +kernel) rfl (fun hC => ?_)
      rcases Classical.em (¬ ((σ.1 112) (x2).toNatClampNeg) = (25 : Int32)) with hc | hc
      · rw [if_pos hc] at h
        refine jE_icT 168 hC (by decide) hc ?_
        refine jE_blk (bs := [(.aload_n 0, 0, 0), (.getfield 29, 12, 11), (.iload_n 2, 0, 0)]) (i := .iaload) (a1 := 0) (a2 := 0) (pc1 := 173) (l1 := [(0, .ref 106), (2, .int x2), (4, .int x4), (5, .int x5)]) (st1 := [.int x2, .ref 112]) (σ1 := σ) (by decide +kernel) rfl (fun hC => ?_)
        obtain ⟨hi, h⟩ := jx_ite0_inv h
        refine jE_iald (n := 3000) hC (by decide) rfl hi ?_
        refine jE_blk (bs := [(.bipush (26), 26, 0)]) (i := .if_icmp .ne (11)) (a1 := 0) (a2 := 0) (pc1 := 176) (l1 := [(0, .ref 106), (2, .int x2), (4, .int x4), (5, .int x5)]) (st1 := [.int (26 : Int32), .int ((σ.1 112) (x2).toNatClampNeg)]) (σ1 := σ) (by decide +kernel) rfl (fun hC => ?_)
        rcases Classical.em (¬ ((σ.1 112) (x2).toNatClampNeg) = (26 : Int32)) with hc | hc
        · rw [if_pos hc] at h
          refine jE_icT 187 hC (by decide) hc ?_
          refine jE_blk (bs := [(.aload_n 0, 0, 0), (.getfield 29, 12, 11), (.iload_n 2, 0, 0)]) (i := .iaload) (a1 := 0) (a2 := 0) (pc1 := 192) (l1 := [(0, .ref 106), (2, .int x2), (4, .int x4), (5, .int x5)]) (st1 := [.int x2, .ref 112]) (σ1 := σ) (by decide +kernel) rfl (fun hC => ?_)
          obtain ⟨hi, h⟩ := jx_ite0_inv h
          refine jE_iald (n := 3000) hC (by decide) rfl hi ?_
          refine jE_blk (bs := [(.bipush (19), 19, 0)]) (i := .if_icmp .ne (18)) (a1 := 0) (a2 := 0) (pc1 := 195) (l1 := [(0, .ref 106), (2, .int x2), (4, .int x4), (5, .int x5)]) (st1 := [.int (19 : Int32), .int ((σ.1 112) (x2).toNatClampNeg)]) (σ1 := σ) (by decide +kernel) rfl (fun hC => ?_)
          rcases Classical.em (¬ ((σ.1 112) (x2).toNatClampNeg) = (19 : Int32)) with hc | hc
          · rw [if_pos hc] at h
            refine jE_icT 213 hC (by decide) hc ?_
            refine jE_blk (bs := [(.iload 4, 0, 0), (.iload 5, 0, 0)]) (i := .if_icmp .ge (7)) (a1 := 0) (a2 := 0) (pc1 := 217) (l1 := [(0, .ref 106), (2, .int x2), (4, .int x4), (5, .int x5)]) (st1 := [.int x5, .int x4]) (σ1 := σ) (by decide +kernel) rfl (fun hC => ?_)
            rcases Classical.em (x5 ≤ x4) with hc | hc
            · rw [if_pos hc] at h
              refine jE_icT 224 hC (by decide) hc ?_
              refine jE_blk (bs := [(.iconst (0), 0, 0)]) (i := .istore 6) (a1 := 7) (a2 := 0) (pc1 := 225) (l1 := [(0, .ref 106), (2, .int x2), (4, .int x4), (5, .int x5)]) (st1 := [.int (0 : Int32)]) (σ1 := σ) (by decide +kernel) rfl (fun hC => ?_)
              exact jE_loc (l := [(0, .ref 106)]) (ks := [0]) rfl (by decide) ⟨rfl, trivial⟩ (x_r_workBinary_225 d hd (0 : Int32) σ _ res h hK)
            · rw [if_neg hc] at h
              refine jE_icF 224 hC (by decide) hc ?_
              refine jE_blk (bs := [(.iconst (1), 1, 0), (.goto (4), 0, 0)]) (i := .istore 6) (a1 := 7) (a2 := 0) (pc1 := 225) (l1 := [(0, .ref 106), (2, .int x2), (4, .int x4), (5, .int x5)]) (st1 := [.int (1 : Int32)]) (σ1 := σ) (by decide +kernel) rfl (fun hC => ?_)
              exact jE_loc (l := [(0, .ref 106)]) (ks := [0]) rfl (by decide) ⟨rfl, trivial⟩ (x_r_workBinary_225 d hd (1 : Int32) σ _ res h hK)
          · rw [if_neg hc] at h
            refine jE_icF 213 hC (by decide) hc ?_
            refine jE_blk (bs := [(.iload 4, 0, 0), (.iload 5, 0, 0)]) (i := .if_icmp .ne (7)) (a1 := 0) (a2 := 0) (pc1 := 202) (l1 := [(0, .ref 106), (2, .int x2), (4, .int x4), (5, .int x5)]) (st1 := [.int x5, .int x4]) (σ1 := σ) (by decide +kernel) rfl (fun hC => ?_)
            rcases Classical.em (¬ x4 = x5) with hc | hc
            · rw [if_pos hc] at h
              refine jE_icT 209 hC (by decide) hc ?_
              refine jE_blk (bs := [(.iconst (0), 0, 0), (.goto (15), 0, 0)]) (i := .istore 6) (a1 := 7) (a2 := 0) (pc1 := 225) (l1 := [(0, .ref 106), (2, .int x2), (4, .int x4), (5, .int x5)]) (st1 := [.int (0 : Int32)]) (σ1 := σ) (by decide +kernel) rfl (fun hC => ?_)
              exact jE_loc (l := [(0, .ref 106)]) (ks := [0]) rfl (by decide) ⟨rfl, trivial⟩ (x_r_workBinary_225 d hd (0 : Int32) σ _ res h hK)
            · rw [if_neg hc] at h
              refine jE_icF 209 hC (by decide) hc ?_
              refine jE_blk (bs := [(.iconst (1), 1, 0), (.goto (19), 0, 0)]) (i := .istore 6) (a1 := 7) (a2 := 0) (pc1 := 225) (l1 := [(0, .ref 106), (2, .int x2), (4, .int x4), (5, .int x5)]) (st1 := [.int (1 : Int32)]) (σ1 := σ) (by decide +kernel) rfl (fun hC => ?_)
              exact jE_loc (l := [(0, .ref 106)]) (ks := [0]) rfl (by decide) ⟨rfl, trivial⟩ (x_r_workBinary_225 d hd (1 : Int32) σ _ res h hK)
        · rw [if_neg hc] at h
          refine jE_icF 187 hC (by decide) hc ?_
          refine jE_blk (bs := [(.iload 4, 0, 0), (.iload 5, 0, 0)]) (i := .idiv) (a1 := 0) (a2 := 0) (pc1 := 183) (l1 := [(0, .ref 106), (2, .int x2), (4, .int x4), (5, .int x5)]) (st1 := [.int x5, .int x4]) (σ1 := σ) (by decide +kernel) rfl (fun hC => ?_)
          obtain ⟨hi, h⟩ := jx_ite0_inv h
          refine jE_idiv hC hi ?_
          refine jE_blk (bs := [(.goto (41), 0, 0)]) (i := .istore 6) (a1 := 7) (a2 := 0) (pc1 := 225) (l1 := [(0, .ref 106), (2, .int x2), (4, .int x4), (5, .int x5)]) (st1 := [.int (x4 / x5)]) (σ1 := σ) (by decide +kernel) rfl (fun hC => ?_)
          exact jE_loc (l := [(0, .ref 106)]) (ks := [0]) rfl (by decide) ⟨rfl, trivial⟩ (x_r_workBinary_225 d hd (x4 / x5) σ _ res h hK)
      · rw [if_neg hc] at h
        refine jE_icF 168 hC (by decide) hc ?_
        refine jE_blk (bs := [(.iload 4, 0, 0), (.iload 5, 0, 0), (.imul, 0, 0), (.goto (60), 0, 0)]) (i := .istore 6) (a1 := 7) (a2 := 0) (pc1 := 225) (l1 := [(0, .ref 106), (2, .int x2), (4, .int x4), (5, .int x5)]) (st1 := [.int (x4 * x5)]) (σ1 := σ) (by decide +kernel) rfl (fun hC => ?_)
        exact jE_loc (l := [(0, .ref 106)]) (ks := [0]) rfl (by decide) ⟨rfl, trivial⟩ (x_r_workBinary_225 d hd (x4 * x5) σ _ res h hK)
    · rw [if_neg hc] at h
      refine jE_icF 149 hC (by decide) hc ?_
      refine jE_blk (bs := [(.iload 4, 0, 0), (.iload 5, 0, 0), (.isub, 0, 0), (.goto (79), 0, 0)]) (i := .istore 6) (a1 := 7) (a2 := 0) (pc1 := 225) (l1 := [(0, .ref 106), (2, .int x2), (4, .int x4), (5, .int x5)]) (st1 := [.int (x4 - x5)]) (σ1 := σ) (by decide +kernel) rfl (fun hC => ?_)
      exact jE_loc (l := [(0, .ref 106)]) (ks := [0]) rfl (by decide) ⟨rfl, trivial⟩ (x_r_workBinary_225 d hd (x4 - x5) σ _ res h hK)
  · rw [if_neg hc] at h
    refine jE_icF 130 hC (by decide) hc ?_
    refine jE_blk (bs := [(.iload 4, 0, 0), (.iload 5, 0, 0), (.iadd, 0, 0), (.goto (98), 0, 0)]) (i := .istore 6) (a1 := 7) (a2 := 0) (pc1 := 225) (l1 := [(0, .ref 106), (2, .int x2), (4, .int x4), (5, .int x5)]) (st1 := [.int (x4 + x5)]) (σ1 := σ) (by decide +kernel) rfl (fun hC => ?_)
    exact jE_loc (l := [(0, .ref 106)]) (ks := [0]) rfl (by decide) ⟨rfl, trivial⟩ (x_r_workBinary_225 d hd (x4 + x5) σ _ res h hK)
def p_r_workBinary (x1 : Int32) (x2 : Int32) (x3 : Int32) (σ : jx_S) : Option jx_S := (if x1 < 0 ∨ 251 ≤ (x1).toNatClampNeg then none else (if ¬ ((σ.1 163) (x1).toNatClampNeg) = 0 then (if x1 < 0 ∨ 251 ≤ (x1).toNatClampNeg then none else (if ¬ ((σ.1 163) (x1).toNatClampNeg) = (1 : Int32) then (if x1 < 0 ∨ 251 ≤ (x1).toNatClampNeg then none else (if x2 < 0 ∨ 3000 ≤ (x2).toNatClampNeg then none else (if ¬ ((σ.1 112) (x2).toNatClampNeg) = (26 : Int32) then (p_r_workBinary_111 x2 (((σ.2 165) (x1).toNatClampNeg)).toInt32 ((σ.2 106 90)).toInt32 σ) else (if ¬ ((σ.2 106 90)).toInt32 = 0 then (p_r_workBinary_111 x2 (((σ.2 165) (x1).toNatClampNeg)).toInt32 ((σ.2 106 90)).toInt32 σ) else (some ((jx_i σ 106 87 (2 : Int32)))))))) else (if x1 < 0 ∨ 251 ≤ (x1).toNatClampNeg then none else (if x1 < 0 ∨ 251 ≤ (x1).toNatClampNeg then none else (if x2 < 0 ∨ 3000 ≤ (x2).toNatClampNeg then none else ((p_r_begin ((σ.1 115) (x2).toNatClampNeg) x3 (-1 : Int32) (jx_i (jx_l σ 165 (x1).toNatClampNeg (σ.2 106 90)) 163 (x1).toNatClampNeg (2 : Int32))).bind fun q2 => (some (q2)))))))) else (if x1 < 0 ∨ 251 ≤ (x1).toNatClampNeg then none else (if x2 < 0 ∨ 3000 ≤ (x2).toNatClampNeg then none else ((p_r_begin ((σ.1 114) (x2).toNatClampNeg) x3 (-1 : Int32) (jx_i σ 163 (x1).toNatClampNeg (1 : Int32))).bind fun q3 => (some (q3)))))))
theorem x_r_workBinary (d : Nat) (hd : 1 ≤ d) (x1 : Int32) (x2 : Int32) (x3 : Int32) (σ : jx_S) (t : jx_S) (res : Option Value × jx_S) (h : p_r_workBinary x1 x2 x3 σ = some t) (hK : kkV t res) : jE d 222 0 [(0, .ref 106), (1, .int x1), (2, .int x2), (3, .int x3)] [] σ res := by
  unfold p_r_workBinary at h
  refine jE_blk (bs := [(.aload_n 0, 0, 0), (.getfield 185, 12, 79), (.iload_n 1, 0, 0)]) (i := .iaload) (a1 := 0) (a2 := 0) (pc1 := 5) (l1 := [(0, .ref 106), (1, .int x1), (2, .int x2), (3, .int x3)]) (st1 := [.int x1, .ref 163]) (σ1 := σ) (by decide +kernel) rfl (fun hC => ?_)
  obtain ⟨hi, h⟩ := jx_ite0_inv h
  refine jE_iald (n := 251) hC (by decide) rfl hi ?_
  refine jE_blk (bs := []) (i := .ifCond .ne (25)) (a1 := 0) (a2 := 0) (pc1 := 6) (l1 := [(0, .ref 106), (1, .int x1), (2, .int x2), (3, .int x3)]) (st1 := [.int ((σ.1 163) (x1).toNatClampNeg)]) (σ1 := σ) (by decide +kernel) rfl (fun hC => ?_)
  rcases Classical.em (¬ ((σ.1 163) (x1).toNatClampNeg) = 0) with hc | hc
  · rw [if_pos hc] at h
    refine jE_ifT 31 hC (by decide) hc ?_
    refine jE_blk (bs := [(.aload_n 0, 0, 0), (.getfield 185, 12, 79), (.iload_n 1, 0, 0)]) (i := .iaload) (a1 := 0) (a2 := 0) (pc1 := 36) (l1 := [(0, .ref 106), (1, .int x1), (2, .int x2), (3, .int x3)]) (st1 := [.int x1, .ref 163]) (σ1 := σ) (by decide +kernel) rfl (fun hC => ?_)
    obtain ⟨hi, h⟩ := jx_ite0_inv h
    refine jE_iald (n := 251) hC (by decide) rfl hi ?_
    refine jE_blk (bs := [(.iconst (1), 1, 0)]) (i := .if_icmp .ne (35)) (a1 := 0) (a2 := 0) (pc1 := 38) (l1 := [(0, .ref 106), (1, .int x1), (2, .int x2), (3, .int x3)]) (st1 := [.int (1 : Int32), .int ((σ.1 163) (x1).toNatClampNeg)]) (σ1 := σ) (by decide +kernel) rfl (fun hC => ?_)
    rcases Classical.em (¬ ((σ.1 163) (x1).toNatClampNeg) = (1 : Int32)) with hc | hc
    · rw [if_pos hc] at h
      refine jE_icT 73 hC (by decide) hc ?_
      refine jE_blk (bs := [(.aload_n 0, 0, 0), (.getfield 191, 12, 81), (.iload_n 1, 0, 0)]) (i := .laload) (a1 := 0) (a2 := 0) (pc1 := 78) (l1 := [(0, .ref 106), (1, .int x1), (2, .int x2), (3, .int x3)]) (st1 := [.int x1, .ref 165]) (σ1 := σ) (by decide +kernel) rfl (fun hC => ?_)
      obtain ⟨hi, h⟩ := jx_ite0_inv h
      refine jE_lald (n := 251) hC (by decide) rfl hi ?_
      refine jE_blk (bs := [(.l2i, 0, 0), (.istore 4, 7, 0), (.aload_n 0, 0, 0), (.getfield 529, 12, 90), (.l2i, 0, 0), (.istore 5, 7, 0), (.aload_n 0, 0, 0), (.getfield 29, 12, 11), (.iload_n 2, 0, 0)]) (i := .iaload) (a1 := 0) (a2 := 0) (pc1 := 94) (l1 := [(5, .int ((σ.2 106 90)).toInt32), (4, .int (((σ.2 165) (x1).toNatClampNeg)).toInt32), (0, .ref 106), (1, .int x1), (2, .int x2), (3, .int x3)]) (st1 := [.int x2, .ref 112]) (σ1 := σ) (by decide +kernel) rfl (fun hC => ?_)
      obtain ⟨hi, h⟩ := jx_ite0_inv h
      refine jE_iald (n := 3000) hC (by decide) rfl hi ?_
      refine jE_blk (bs := [(.bipush (26), 26, 0)]) (i := .if_icmp .ne (14)) (a1 := 0) (a2 := 0) (pc1 := 97) (l1 := [(5, .int ((σ.2 106 90)).toInt32), (4, .int (((σ.2 165) (x1).toNatClampNeg)).toInt32), (0, .ref 106), (1, .int x1), (2, .int x2), (3, .int x3)]) (st1 := [.int (26 : Int32), .int ((σ.1 112) (x2).toNatClampNeg)]) (σ1 := σ) (by decide +kernel) rfl (fun hC => ?_)
      rcases Classical.em (¬ ((σ.1 112) (x2).toNatClampNeg) = (26 : Int32)) with hc | hc
      · rw [if_pos hc] at h
        refine jE_icT 111 hC (by decide) hc ?_
        exact jE_loc (l := [(0, .ref 106), (2, .int x2), (4, .int (((σ.2 165) (x1).toNatClampNeg)).toInt32), (5, .int ((σ.2 106 90)).toInt32)]) (ks := [0, 2, 4, 5]) rfl (by decide) ⟨rfl, rfl, rfl, rfl, trivial⟩ (x_r_workBinary_111 d hd x2 (((σ.2 165) (x1).toNatClampNeg)).toInt32 ((σ.2 106 90)).toInt32 σ _ res h hK)
      · rw [if_neg hc] at h
        refine jE_icF 111 hC (by decide) hc ?_
        refine jE_blk (bs := [(.iload 5, 0, 0)]) (i := .ifCond .ne (9)) (a1 := 0) (a2 := 0) (pc1 := 102) (l1 := [(5, .int ((σ.2 106 90)).toInt32), (4, .int (((σ.2 165) (x1).toNatClampNeg)).toInt32), (0, .ref 106), (1, .int x1), (2, .int x2), (3, .int x3)]) (st1 := [.int ((σ.2 106 90)).toInt32]) (σ1 := σ) (by decide +kernel) rfl (fun hC => ?_)
        rcases Classical.em (¬ ((σ.2 106 90)).toInt32 = 0) with hc | hc
        · rw [if_pos hc] at h
          refine jE_ifT 111 hC (by decide) hc ?_
          exact jE_loc (l := [(0, .ref 106), (2, .int x2), (4, .int (((σ.2 165) (x1).toNatClampNeg)).toInt32), (5, .int ((σ.2 106 90)).toInt32)]) (ks := [0, 2, 4, 5]) rfl (by decide) ⟨rfl, rfl, rfl, rfl, trivial⟩ (x_r_workBinary_111 d hd x2 (((σ.2 165) (x1).toNatClampNeg)).toInt32 ((σ.2 106 90)).toInt32 σ _ res h hK)
        · rw [if_neg hc] at h
          refine jE_ifF 111 hC (by decide) hc ?_
          refine jE_blk (bs := [(.aload_n 0, 0, 0), (.iconst (2), 2, 0), (.putfield 521, 12, 87)]) (i := .return_) (a1 := 0) (a2 := 0) (pc1 := 110) (l1 := [(5, .int ((σ.2 106 90)).toInt32), (4, .int (((σ.2 165) (x1).toNatClampNeg)).toInt32), (0, .ref 106), (1, .int x1), (2, .int x2), (3, .int x3)]) (st1 := []) (σ1 := (jx_i σ 106 87 (2 : Int32))) (by decide +kernel) rfl (fun hC => ?_)
          have h9 := Option.some.inj h
          subst h9
          have e9 : ((none, (jx_i σ 106 87 (2 : Int32))) : Option Value × jx_S) = res := hK
          subst e9
          exact jE_ret hC rfl
    · rw [if_neg hc] at h
      refine jE_icF 73 hC (by decide) hc ?_
      refine jE_blk (bs := [(.aload_n 0, 0, 0), (.getfield 191, 12, 81), (.iload_n 1, 0, 0), (.aload_n 0, 0, 0), (.getfield 529, 12, 90)]) (i := .lastore) (a1 := 0) (a2 := 0) (pc1 := 50) (l1 := [(0, .ref 106), (1, .int x1), (2, .int x2), (3, .int x3)]) (st1 := [.long (σ.2 106 90), .int x1, .ref 165]) (σ1 := σ) (by decide +kernel) rfl (fun hC => ?_)
      obtain ⟨hi, h⟩ := jx_ite0_inv h
      refine jE_last (n := 251) hC (by decide) rfl hi ?_
      refine jE_blk (bs := [(.aload_n 0, 0, 0), (.getfield 185, 12, 79), (.iload_n 1, 0, 0), (.iconst (2), 2, 0)]) (i := .iastore) (a1 := 0) (a2 := 0) (pc1 := 57) (l1 := [(0, .ref 106), (1, .int x1), (2, .int x2), (3, .int x3)]) (st1 := [.int (2 : Int32), .int x1, .ref 163]) (σ1 := (jx_l σ 165 (x1).toNatClampNeg (σ.2 106 90))) (by decide +kernel) rfl (fun hC => ?_)
      obtain ⟨hi, h⟩ := jx_ite0_inv h
      refine jE_iast (n := 251) hC (by decide) rfl hi ?_
      refine jE_blk (bs := [(.aload_n 0, 0, 0), (.aload_n 0, 0, 0), (.getfield 38, 12, 14), (.iload_n 2, 0, 0)]) (i := .iaload) (a1 := 0) (a2 := 0) (pc1 := 64) (l1 := [(0, .ref 106), (1, .int x1), (2, .int x2), (3, .int x3)]) (st1 := [.int x2, .ref 115, .ref 106]) (σ1 := (jx_i (jx_l σ 165 (x1).toNatClampNeg (σ.2 106 90)) 163 (x1).toNatClampNeg (2 : Int32))) (by decide +kernel) rfl (fun hC => ?_)
      obtain ⟨hi, h⟩ := jx_ite0_inv h
      refine jE_iald (n := 3000) hC (by decide) rfl hi ?_
      refine jE_blk (bs := [(.iload_n 3, 0, 0), (.iconst (-1), 1, 1)]) (i := .invokevirtual 571) (a1 := 211) (a2 := 0) (pc1 := 67) (l1 := [(0, .ref 106), (1, .int x1), (2, .int x2), (3, .int x3)]) (st1 := [.int (-1 : Int32), .int x3, .int ((σ.1 115) (x2).toNatClampNeg), .ref 106]) (σ1 := (jx_i (jx_l σ 165 (x1).toNatClampNeg (σ.2 106 90)) 163 (x1).toNatClampNeg (2 : Int32))) (by decide +kernel) rfl (fun hC => ?_)
      obtain ⟨q2, hq, h⟩ := Option.bind_eq_some_iff.mp h
      refine jE_call (as := [.ref 106, .int ((σ.1 115) (x2).toNatClampNeg), .int x3, .int (-1 : Int32)]) (pc1 := 70) (st1 := []) hC rfl (by decide) (by omega) (x_r_begin (d - 1) (by omega) ((σ.1 115) (x2).toNatClampNeg) x3 (-1 : Int32) (jx_i (jx_l σ 165 (x1).toNatClampNeg (σ.2 106 90)) 163 (x1).toNatClampNeg (2 : Int32)) q2 (none, q2) hq rfl) ?_
      refine jE_blk (bs := [(.goto (167), 0, 0)]) (i := .return_) (a1 := 0) (a2 := 0) (pc1 := 237) (l1 := [(0, .ref 106), (1, .int x1), (2, .int x2), (3, .int x3)]) (st1 := []) (σ1 := q2) (by decide +kernel) rfl (fun hC => ?_)
      have h9 := Option.some.inj h
      subst h9
      have e9 : ((none, q2) : Option Value × jx_S) = res := hK
      subst e9
      exact jE_ret hC rfl
  · rw [if_neg hc] at h
    refine jE_ifF 31 hC (by decide) hc ?_
    refine jE_blk (bs := [(.aload_n 0, 0, 0), (.getfield 185, 12, 79), (.iload_n 1, 0, 0), (.iconst (1), 1, 0)]) (i := .iastore) (a1 := 0) (a2 := 0) (pc1 := 15) (l1 := [(0, .ref 106), (1, .int x1), (2, .int x2), (3, .int x3)]) (st1 := [.int (1 : Int32), .int x1, .ref 163]) (σ1 := σ) (by decide +kernel) rfl (fun hC => ?_)
    obtain ⟨hi, h⟩ := jx_ite0_inv h
    refine jE_iast (n := 251) hC (by decide) rfl hi ?_
    refine jE_blk (bs := [(.aload_n 0, 0, 0), (.aload_n 0, 0, 0), (.getfield 35, 12, 13), (.iload_n 2, 0, 0)]) (i := .iaload) (a1 := 0) (a2 := 0) (pc1 := 22) (l1 := [(0, .ref 106), (1, .int x1), (2, .int x2), (3, .int x3)]) (st1 := [.int x2, .ref 114, .ref 106]) (σ1 := (jx_i σ 163 (x1).toNatClampNeg (1 : Int32))) (by decide +kernel) rfl (fun hC => ?_)
    obtain ⟨hi, h⟩ := jx_ite0_inv h
    refine jE_iald (n := 3000) hC (by decide) rfl hi ?_
    refine jE_blk (bs := [(.iload_n 3, 0, 0), (.iconst (-1), 1, 1)]) (i := .invokevirtual 571) (a1 := 211) (a2 := 0) (pc1 := 25) (l1 := [(0, .ref 106), (1, .int x1), (2, .int x2), (3, .int x3)]) (st1 := [.int (-1 : Int32), .int x3, .int ((σ.1 114) (x2).toNatClampNeg), .ref 106]) (σ1 := (jx_i σ 163 (x1).toNatClampNeg (1 : Int32))) (by decide +kernel) rfl (fun hC => ?_)
    obtain ⟨q3, hq, h⟩ := Option.bind_eq_some_iff.mp h
    refine jE_call (as := [.ref 106, .int ((σ.1 114) (x2).toNatClampNeg), .int x3, .int (-1 : Int32)]) (pc1 := 28) (st1 := []) hC rfl (by decide) (by omega) (x_r_begin (d - 1) (by omega) ((σ.1 114) (x2).toNatClampNeg) x3 (-1 : Int32) (jx_i σ 163 (x1).toNatClampNeg (1 : Int32)) q3 (none, q3) hq rfl) ?_
    refine jE_blk (bs := [(.goto (209), 0, 0)]) (i := .return_) (a1 := 0) (a2 := 0) (pc1 := 237) (l1 := [(0, .ref 106), (1, .int x1), (2, .int x2), (3, .int x3)]) (st1 := []) (σ1 := q3) (by decide +kernel) rfl (fun hC => ?_)
    have h9 := Option.some.inj h
    subst h9
    have e9 : ((none, q3) : Option Value × jx_S) = res := hK
    subst e9
    exact jE_ret hC rfl
def p_r_workChoice_174 (x3 : Int32) (y0 : Int32) (σ : jx_S) : Option jx_S := ((p_r_begin y0 x3 (-1 : Int32) σ).bind fun q2 => (some (q2)))
theorem x_r_workChoice_174 (d : Nat) (hd : 1 ≤ d) (x3 : Int32) (y0 : Int32) (σ : jx_S) (t : jx_S) (res : Option Value × jx_S) (h : p_r_workChoice_174 x3 y0 σ = some t) (hK : kkV t res) : jE d 223 174 [(3, .int x3)] [.int y0, .ref 106] σ res := by
  unfold p_r_workChoice_174 at h
  refine jE_blk (bs := [(.iload_n 3, 0, 0), (.iconst (-1), 1, 1)]) (i := .invokevirtual 571) (a1 := 211) (a2 := 0) (pc1 := 176) (l1 := [(3, .int x3)]) (st1 := [.int (-1 : Int32), .int x3, .int y0, .ref 106]) (σ1 := σ) (by decide +kernel) rfl (fun hC => ?_)
  obtain ⟨q2, hq, h⟩ := Option.bind_eq_some_iff.mp h
  refine jE_call (as := [.ref 106, .int y0, .int x3, .int (-1 : Int32)]) (pc1 := 179) (st1 := []) hC rfl (by decide) (by omega) (x_r_begin (d - 1) (by omega) y0 x3 (-1 : Int32) σ q2 (none, q2) hq rfl) ?_
  refine jE_blk (bs := [(.goto (11), 0, 0)]) (i := .return_) (a1 := 0) (a2 := 0) (pc1 := 190) (l1 := [(3, .int x3)]) (st1 := []) (σ1 := q2) (by decide +kernel) rfl (fun hC => ?_)
  have h9 := Option.some.inj h
  subst h9
  have e9 : ((none, q2) : Option Value × jx_S) = res := hK
  subst e9
  exact jE_ret hC rfl
def p_r_workChoice_153 (x2 : Int32) (x3 : Int32) (x6 : Int32) (σ : jx_S) : Option jx_S := (if x6 = 0 then (if x2 < 0 ∨ 3000 ≤ (x2).toNatClampNeg then none else (p_r_workChoice_174 x3 ((σ.1 116) (x2).toNatClampNeg) σ)) else (if x2 < 0 ∨ 3000 ≤ (x2).toNatClampNeg then none else (p_r_workChoice_174 x3 ((σ.1 115) (x2).toNatClampNeg) σ)))
theorem x_r_workChoice_153 (d : Nat) (hd : 1 ≤ d) (x2 : Int32) (x3 : Int32) (x6 : Int32) (σ : jx_S) (t : jx_S) (res : Option Value × jx_S) (h : p_r_workChoice_153 x2 x3 x6 σ = some t) (hK : kkV t res) : jE d 223 153 [(0, .ref 106), (2, .int x2), (3, .int x3), (6, .int x6)] [] σ res := by
  unfold p_r_workChoice_153 at h
  refine jE_blk (bs := [(.aload_n 0, 0, 0), (.iload 6, 0, 0)]) (i := .ifCond .eq (12)) (a1 := 0) (a2 := 0) (pc1 := 156) (l1 := [(0, .ref 106), (2, .int x2), (3, .int x3), (6, .int x6)]) (st1 := [.int x6, .ref 106]) (σ1 := σ) (by decide +kernel) rfl (fun hC => ?_)
  rcases Classical.em (x6 = 0) with hc | hc
  · rw [if_pos hc] at h
    refine jE_ifT 168 hC (by decide) hc ?_
    refine jE_blk (bs := [(.aload_n 0, 0, 0), (.getfield 41, 12, 15), (.iload_n 2, 0, 0)]) (i := .iaload) (a1 := 0) (a2 := 0) (pc1 := 173) (l1 := [(0, .ref 106), (2, .int x2), (3, .int x3), (6, .int x6)]) (st1 := [.int x2, .ref 116, .ref 106]) (σ1 := σ) (by decide +kernel) rfl (fun hC => ?_)
    obtain ⟨hi, h⟩ := jx_ite0_inv h
    refine jE_iald (n := 3000) hC (by decide) rfl hi ?_
    exact jE_loc (l := [(3, .int x3)]) (ks := [3]) rfl (by decide) ⟨rfl, trivial⟩ (x_r_workChoice_174 d hd x3 ((σ.1 116) (x2).toNatClampNeg) σ _ res h hK)
  · rw [if_neg hc] at h
    refine jE_ifF 168 hC (by decide) hc ?_
    refine jE_blk (bs := [(.aload_n 0, 0, 0), (.getfield 38, 12, 14), (.iload_n 2, 0, 0)]) (i := .iaload) (a1 := 0) (a2 := 0) (pc1 := 164) (l1 := [(0, .ref 106), (2, .int x2), (3, .int x3), (6, .int x6)]) (st1 := [.int x2, .ref 115, .ref 106]) (σ1 := σ) (by decide +kernel) rfl (fun hC => ?_)
    obtain ⟨hi, h⟩ := jx_ite0_inv h
    refine jE_iald (n := 3000) hC (by decide) rfl hi ?_
    refine jE_blk (bs := [(.goto (9), 0, 0)]) (i := .iload_n 3) (a1 := 0) (a2 := 0) (pc1 := 174) (l1 := [(0, .ref 106), (2, .int x2), (3, .int x3), (6, .int x6)]) (st1 := [.int ((σ.1 115) (x2).toNatClampNeg), .ref 106]) (σ1 := σ) (by decide +kernel) rfl (fun hC => ?_)
    exact jE_loc (l := [(3, .int x3)]) (ks := [3]) rfl (by decide) ⟨rfl, trivial⟩ (x_r_workChoice_174 d hd x3 ((σ.1 115) (x2).toNatClampNeg) σ _ res h hK)
def p_r_workChoice_93 (x2 : Int32) (x3 : Int32) (x4 : Int64) (y0 : Int32) (σ : jx_S) : Option jx_S := (if x2 < 0 ∨ 3000 ≤ (x2).toNatClampNeg then none else (if ¬ ((σ.1 112) (x2).toNatClampNeg) = (10 : Int32) then (p_r_workChoice_153 x2 x3 y0 σ) else (if ¬ y0 = 0 then (p_r_workChoice_153 x2 x3 y0 σ) else (if x2 < 0 ∨ 3000 ≤ (x2).toNatClampNeg then none else (if (x4).toInt32 < 0 ∨ 3000 ≤ ((x4).toInt32).toNatClampNeg then none else (if (x3 + ((σ.1 117) (x2).toNatClampNeg)) < 0 ∨ 30000 ≤ ((x3 + ((σ.1 117) (x2).toNatClampNeg))).toNatClampNeg then none else (if x2 < 0 ∨ 3000 ≤ (x2).toNatClampNeg then none else (if (x4).toInt32 < 0 ∨ 3000 ≤ ((x4).toInt32).toNatClampNeg then none else (if (x3 + ((σ.1 118) (x2).toNatClampNeg)) < 0 ∨ 30000 ≤ ((x3 + ((σ.1 118) (x2).toNatClampNeg))).toNatClampNeg then none else (p_r_workChoice_153 x2 x3 y0 (jx_l (jx_l σ 150 ((x3 + ((σ.1 117) (x2).toNatClampNeg))).toNatClampNeg ((σ.2 155) ((x4).toInt32).toNatClampNeg)) 150 ((x3 + ((σ.1 118) (x2).toNatClampNeg))).toNatClampNeg ((σ.2 156) ((x4).toInt32).toNatClampNeg))))))))))))
theorem x_r_workChoice_93 (d : Nat) (hd : 1 ≤ d) (x2 : Int32) (x3 : Int32) (x4 : Int64) (y0 : Int32) (σ : jx_S) (t : jx_S) (res : Option Value × jx_S) (h : p_r_workChoice_93 x2 x3 x4 y0 σ = some t) (hK : kkV t res) : jE d 223 93 [(0, .ref 106), (2, .int x2), (3, .int x3), (4, .long x4)] [.int y0] σ res := by
  unfold p_r_workChoice_93 at h
  refine jE_blk (bs := [(.istore 6, 7, 0), (.aload_n 0, 0, 0), (.getfield 29, 12, 11), (.iload_n 2, 0, 0)]) (i := .iaload) (a1 := 0) (a2 := 0) (pc1 := 100) (l1 := [(6, .int y0), (0, .ref 106), (2, .int x2), (3, .int x3), (4, .long x4)]) (st1 := [.int x2, .ref 112]) (σ1 := σ) (by decide +kernel) rfl (fun hC => ?_)
  obtain ⟨hi, h⟩ := jx_ite0_inv h
  refine jE_iald (n := 3000) hC (by decide) rfl hi ?_
  refine jE_blk (bs := [(.bipush (10), 10, 0)]) (i := .if_icmp .ne (50)) (a1 := 0) (a2 := 0) (pc1 := 103) (l1 := [(6, .int y0), (0, .ref 106), (2, .int x2), (3, .int x3), (4, .long x4)]) (st1 := [.int (10 : Int32), .int ((σ.1 112) (x2).toNatClampNeg)]) (σ1 := σ) (by decide +kernel) rfl (fun hC => ?_)
  rcases Classical.em (¬ ((σ.1 112) (x2).toNatClampNeg) = (10 : Int32)) with hc | hc
  · rw [if_pos hc] at h
    refine jE_icT 153 hC (by decide) hc ?_
    exact jE_loc (l := [(0, .ref 106), (2, .int x2), (3, .int x3), (6, .int y0)]) (ks := [0, 2, 3, 6]) rfl (by decide) ⟨rfl, rfl, rfl, rfl, trivial⟩ (x_r_workChoice_153 d hd x2 x3 y0 σ _ res h hK)
  · rw [if_neg hc] at h
    refine jE_icF 153 hC (by decide) hc ?_
    refine jE_blk (bs := [(.iload 6, 0, 0)]) (i := .ifCond .ne (45)) (a1 := 0) (a2 := 0) (pc1 := 108) (l1 := [(6, .int y0), (0, .ref 106), (2, .int x2), (3, .int x3), (4, .long x4)]) (st1 := [.int y0]) (σ1 := σ) (by decide +kernel) rfl (fun hC => ?_)
    rcases Classical.em (¬ y0 = 0) with hc | hc
    · rw [if_pos hc] at h
      refine jE_ifT 153 hC (by decide) hc ?_
      exact jE_loc (l := [(0, .ref 106), (2, .int x2), (3, .int x3), (6, .int y0)]) (ks := [0, 2, 3, 6]) rfl (by decide) ⟨rfl, rfl, rfl, rfl, trivial⟩ (x_r_workChoice_153 d hd x2 x3 y0 σ _ res h hK)
    · rw [if_neg hc] at h
      refine jE_ifF 153 hC (by decide) hc ?_
      refine jE_blk (bs := [(.aload_n 0, 0, 0), (.getfield 145, 12, 61), (.iload_n 3, 0, 0), (.aload_n 0, 0, 0), (.getfield 44, 12, 16), (.iload_n 2, 0, 0)]) (i := .iaload) (a1 := 0) (a2 := 0) (pc1 := 121) (l1 := [(6, .int y0), (0, .ref 106), (2, .int x2), (3, .int x3), (4, .long x4)]) (st1 := [.int x2, .ref 117, .int x3, .ref 150]) (σ1 := σ) (by decide +kernel) rfl (fun hC => ?_)
      obtain ⟨hi, h⟩ := jx_ite0_inv h
      refine jE_iald (n := 3000) hC (by decide) rfl hi ?_
      refine jE_blk (bs := [(.iadd, 0, 0), (.aload_n 0, 0, 0), (.getfield 161, 12, 68), (.lload 4, 0, 0), (.l2i, 0, 0)]) (i := .laload) (a1 := 0) (a2 := 0) (pc1 := 130) (l1 := [(6, .int y0), (0, .ref 106), (2, .int x2), (3, .int x3), (4, .long x4)]) (st1 := [.int (x4).toInt32, .ref 155, .int (x3 + ((σ.1 117) (x2).toNatClampNeg)), .ref 150]) (σ1 := σ) (by decide +kernel) rfl (fun hC => ?_)
      obtain ⟨hi, h⟩ := jx_ite0_inv h
      refine jE_lald (n := 3000) hC (by decide) rfl hi ?_
      refine jE_blk (bs := []) (i := .lastore) (a1 := 0) (a2 := 0) (pc1 := 131) (l1 := [(6, .int y0), (0, .ref 106), (2, .int x2), (3, .int x3), (4, .long x4)]) (st1 := [.long ((σ.2 155) ((x4).toInt32).toNatClampNeg), .int (x3 + ((σ.1 117) (x2).toNatClampNeg)), .ref 150]) (σ1 := σ) (by decide +kernel) rfl (fun hC => ?_)
      obtain ⟨hi, h⟩ := jx_ite0_inv h
      refine jE_last (n := 30000) hC (by decide) rfl hi ?_
      refine jE_blk (bs := [(.aload_n 0, 0, 0), (.getfield 145, 12, 61), (.iload_n 3, 0, 0), (.aload_n 0, 0, 0), (.getfield 47, 12, 17), (.iload_n 2, 0, 0)]) (i := .iaload) (a1 := 0) (a2 := 0) (pc1 := 142) (l1 := [(6, .int y0), (0, .ref 106), (2, .int x2), (3, .int x3), (4, .long x4)]) (st1 := [.int x2, .ref 118, .int x3, .ref 150]) (σ1 := (jx_l σ 150 ((x3 + ((σ.1 117) (x2).toNatClampNeg))).toNatClampNeg ((σ.2 155) ((x4).toInt32).toNatClampNeg))) (by decide +kernel) rfl (fun hC => ?_)
      obtain ⟨hi, h⟩ := jx_ite0_inv h
      refine jE_iald (n := 3000) hC (by decide) rfl hi ?_
      refine jE_blk (bs := [(.iadd, 0, 0), (.aload_n 0, 0, 0), (.getfield 164, 12, 69), (.lload 4, 0, 0), (.l2i, 0, 0)]) (i := .laload) (a1 := 0) (a2 := 0) (pc1 := 151) (l1 := [(6, .int y0), (0, .ref 106), (2, .int x2), (3, .int x3), (4, .long x4)]) (st1 := [.int (x4).toInt32, .ref 156, .int (x3 + ((σ.1 118) (x2).toNatClampNeg)), .ref 150]) (σ1 := (jx_l σ 150 ((x3 + ((σ.1 117) (x2).toNatClampNeg))).toNatClampNeg ((σ.2 155) ((x4).toInt32).toNatClampNeg))) (by decide +kernel) rfl (fun hC => ?_)
      obtain ⟨hi, h⟩ := jx_ite0_inv h
      refine jE_lald (n := 3000) hC (by decide) rfl hi ?_
      refine jE_blk (bs := []) (i := .lastore) (a1 := 0) (a2 := 0) (pc1 := 152) (l1 := [(6, .int y0), (0, .ref 106), (2, .int x2), (3, .int x3), (4, .long x4)]) (st1 := [.long ((σ.2 156) ((x4).toInt32).toNatClampNeg), .int (x3 + ((σ.1 118) (x2).toNatClampNeg)), .ref 150]) (σ1 := (jx_l σ 150 ((x3 + ((σ.1 117) (x2).toNatClampNeg))).toNatClampNeg ((σ.2 155) ((x4).toInt32).toNatClampNeg))) (by decide +kernel) rfl (fun hC => ?_)
      obtain ⟨hi, h⟩ := jx_ite0_inv h
      refine jE_last (n := 30000) hC (by decide) rfl hi ?_
      exact jE_loc (l := [(0, .ref 106), (2, .int x2), (3, .int x3), (6, .int y0)]) (ks := [0, 2, 3, 6]) rfl (by decide) ⟨rfl, rfl, rfl, rfl, trivial⟩ (x_r_workChoice_153 d hd x2 x3 y0 (jx_l (jx_l σ 150 ((x3 + ((σ.1 117) (x2).toNatClampNeg))).toNatClampNeg ((σ.2 155) ((x4).toInt32).toNatClampNeg)) 150 ((x3 + ((σ.1 118) (x2).toNatClampNeg))).toNatClampNeg ((σ.2 156) ((x4).toInt32).toNatClampNeg)) _ res h hK)
def p_r_workChoice (x1 : Int32) (x2 : Int32) (x3 : Int32) (σ : jx_S) : Option jx_S := (if x1 < 0 ∨ 251 ≤ (x1).toNatClampNeg then none else (if ¬ ((σ.1 163) (x1).toNatClampNeg) = 0 then (if x1 < 0 ∨ 251 ≤ (x1).toNatClampNeg then none else (if ¬ ((σ.1 163) (x1).toNatClampNeg) = (1 : Int32) then ((p_r_finish (σ.2 106 90) σ).bind fun q1 => (some (q1))) else (if x1 < 0 ∨ 251 ≤ (x1).toNatClampNeg then none else (if x2 < 0 ∨ 3000 ≤ (x2).toNatClampNeg then none else (if ¬ ((σ.1 112) (x2).toNatClampNeg) = (7 : Int32) then (if ¬ (v_r_tagOf (σ.2 106 90) (jx_i σ 163 (x1).toNatClampNeg (2 : Int32))) = (1 : Int32) then (p_r_workChoice_93 x2 x3 (σ.2 106 90) (0 : Int32) (jx_i σ 163 (x1).toNatClampNeg (2 : Int32))) else (p_r_workChoice_93 x2 x3 (σ.2 106 90) (1 : Int32) (jx_i σ 163 (x1).toNatClampNeg (2 : Int32)))) else (if ((σ.2 106 90)).toInt32 = 0 then (p_r_workChoice_93 x2 x3 (σ.2 106 90) (0 : Int32) (jx_i σ 163 (x1).toNatClampNeg (2 : Int32))) else (p_r_workChoice_93 x2 x3 (σ.2 106 90) (1 : Int32) (jx_i σ 163 (x1).toNatClampNeg (2 : Int32))))))))) else (if x1 < 0 ∨ 251 ≤ (x1).toNatClampNeg then none else (if x2 < 0 ∨ 3000 ≤ (x2).toNatClampNeg then none else ((p_r_begin ((σ.1 114) (x2).toNatClampNeg) x3 (-1 : Int32) (jx_i σ 163 (x1).toNatClampNeg (1 : Int32))).bind fun q3 => (some (q3)))))))
theorem x_r_workChoice (d : Nat) (hd : 1 ≤ d) (x1 : Int32) (x2 : Int32) (x3 : Int32) (σ : jx_S) (t : jx_S) (res : Option Value × jx_S) (h : p_r_workChoice x1 x2 x3 σ = some t) (hK : kkV t res) : jE d 223 0 [(0, .ref 106), (1, .int x1), (2, .int x2), (3, .int x3)] [] σ res := by
  unfold p_r_workChoice at h
  refine jE_blk (bs := [(.aload_n 0, 0, 0), (.getfield 185, 12, 79), (.iload_n 1, 0, 0)]) (i := .iaload) (a1 := 0) (a2 := 0) (pc1 := 5) (l1 := [(0, .ref 106), (1, .int x1), (2, .int x2), (3, .int x3)]) (st1 := [.int x1, .ref 163]) (σ1 := σ) (by decide +kernel) rfl (fun hC => ?_)
  obtain ⟨hi, h⟩ := jx_ite0_inv h
  refine jE_iald (n := 251) hC (by decide) rfl hi ?_
  refine jE_blk (bs := []) (i := .ifCond .ne (25)) (a1 := 0) (a2 := 0) (pc1 := 6) (l1 := [(0, .ref 106), (1, .int x1), (2, .int x2), (3, .int x3)]) (st1 := [.int ((σ.1 163) (x1).toNatClampNeg)]) (σ1 := σ) (by decide +kernel) rfl (fun hC => ?_)
  rcases Classical.em (¬ ((σ.1 163) (x1).toNatClampNeg) = 0) with hc | hc
  · rw [if_pos hc] at h
    refine jE_ifT 31 hC (by decide) hc ?_
    refine jE_blk (bs := [(.aload_n 0, 0, 0), (.getfield 185, 12, 79), (.iload_n 1, 0, 0)]) (i := .iaload) (a1 := 0) (a2 := 0) (pc1 := 36) (l1 := [(0, .ref 106), (1, .int x1), (2, .int x2), (3, .int x3)]) (st1 := [.int x1, .ref 163]) (σ1 := σ) (by decide +kernel) rfl (fun hC => ?_)
    obtain ⟨hi, h⟩ := jx_ite0_inv h
    refine jE_iald (n := 251) hC (by decide) rfl hi ?_
    refine jE_blk (bs := [(.iconst (1), 1, 0)]) (i := .if_icmp .ne (144)) (a1 := 0) (a2 := 0) (pc1 := 38) (l1 := [(0, .ref 106), (1, .int x1), (2, .int x2), (3, .int x3)]) (st1 := [.int (1 : Int32), .int ((σ.1 163) (x1).toNatClampNeg)]) (σ1 := σ) (by decide +kernel) rfl (fun hC => ?_)
    rcases Classical.em (¬ ((σ.1 163) (x1).toNatClampNeg) = (1 : Int32)) with hc | hc
    · rw [if_pos hc] at h
      refine jE_icT 182 hC (by decide) hc ?_
      refine jE_blk (bs := [(.aload_n 0, 0, 0), (.aload_n 0, 0, 0), (.getfield 529, 12, 90)]) (i := .invokevirtual 564) (a1 := 212) (a2 := 0) (pc1 := 187) (l1 := [(0, .ref 106), (1, .int x1), (2, .int x2), (3, .int x3)]) (st1 := [.long (σ.2 106 90), .ref 106]) (σ1 := σ) (by decide +kernel) rfl (fun hC => ?_)
      obtain ⟨q1, hq, h⟩ := Option.bind_eq_some_iff.mp h
      refine jE_call (as := [.ref 106, .long (σ.2 106 90)]) (pc1 := 190) (st1 := []) hC rfl (by decide) (by omega) (x_r_finish (d - 1) (by omega) (σ.2 106 90) σ q1 (none, q1) hq rfl) ?_
      refine jE_blk (bs := []) (i := .return_) (a1 := 0) (a2 := 0) (pc1 := 190) (l1 := [(0, .ref 106), (1, .int x1), (2, .int x2), (3, .int x3)]) (st1 := []) (σ1 := q1) (by decide +kernel) rfl (fun hC => ?_)
      have h9 := Option.some.inj h
      subst h9
      have e9 : ((none, q1) : Option Value × jx_S) = res := hK
      subst e9
      exact jE_ret hC rfl
    · rw [if_neg hc] at h
      refine jE_icF 182 hC (by decide) hc ?_
      refine jE_blk (bs := [(.aload_n 0, 0, 0), (.getfield 185, 12, 79), (.iload_n 1, 0, 0), (.iconst (2), 2, 0)]) (i := .iastore) (a1 := 0) (a2 := 0) (pc1 := 47) (l1 := [(0, .ref 106), (1, .int x1), (2, .int x2), (3, .int x3)]) (st1 := [.int (2 : Int32), .int x1, .ref 163]) (σ1 := σ) (by decide +kernel) rfl (fun hC => ?_)
      obtain ⟨hi, h⟩ := jx_ite0_inv h
      refine jE_iast (n := 251) hC (by decide) rfl hi ?_
      refine jE_blk (bs := [(.aload_n 0, 0, 0), (.getfield 529, 12, 90), (.lstore 4, 7, 0), (.aload_n 0, 0, 0), (.getfield 29, 12, 11), (.iload_n 2, 0, 0)]) (i := .iaload) (a1 := 0) (a2 := 0) (pc1 := 59) (l1 := [(4, .long (σ.2 106 90)), (0, .ref 106), (1, .int x1), (2, .int x2), (3, .int x3)]) (st1 := [.int x2, .ref 112]) (σ1 := (jx_i σ 163 (x1).toNatClampNeg (2 : Int32))) (by decide +kernel) rfl (fun hC => ?_)
      obtain ⟨hi, h⟩ := jx_ite0_inv h
      refine jE_iald (n := 3000) hC (by decide) rfl hi ?_
      refine jE_blk (bs := [(.bipush (7), 7, 0)]) (i := .if_icmp .ne (17)) (a1 := 0) (a2 := 0) (pc1 := 62) (l1 := [(4, .long (σ.2 106 90)), (0, .ref 106), (1, .int x1), (2, .int x2), (3, .int x3)]) (st1 := [.int (7 : Int32), .int ((σ.1 112) (x2).toNatClampNeg)]) (σ1 := (jx_i σ 163 (x1).toNatClampNeg (2 : Int32))) (by decide +kernel) rfl (fun hC => ?_)
      rcases Classical.em (¬ ((σ.1 112) (x2).toNatClampNeg) = (7 : Int32)) with hc | hc
      · rw [if_pos hc] at h
        refine jE_icT 79 hC (by decide) hc ?_
        refine jE_blk (bs := [(.lload 4, 0, 0)]) (i := .invokestatic 553) (a1 := 210) (a2 := 0) (pc1 := 81) (l1 := [(4, .long (σ.2 106 90)), (0, .ref 106), (1, .int x1), (2, .int x2), (3, .int x3)]) (st1 := [.long (σ.2 106 90)]) (σ1 := (jx_i σ 163 (x1).toNatClampNeg (2 : Int32))) (by decide +kernel) rfl (fun hC => ?_)
        refine jE_call (as := [.long (σ.2 106 90)]) (pc1 := 84) (st1 := []) hC rfl (by decide) (by omega) (xv_r_tagOf (d - 1) (by omega) (σ.2 106 90) (jx_i σ 163 (x1).toNatClampNeg (2 : Int32))) ?_
        refine jE_blk (bs := [(.iconst (1), 1, 0)]) (i := .if_icmp .ne (7)) (a1 := 0) (a2 := 0) (pc1 := 85) (l1 := [(4, .long (σ.2 106 90)), (0, .ref 106), (1, .int x1), (2, .int x2), (3, .int x3)]) (st1 := [.int (1 : Int32), .int (v_r_tagOf (σ.2 106 90) (jx_i σ 163 (x1).toNatClampNeg (2 : Int32)))]) (σ1 := (jx_i σ 163 (x1).toNatClampNeg (2 : Int32))) (by decide +kernel) rfl (fun hC => ?_)
        rcases Classical.em (¬ (v_r_tagOf (σ.2 106 90) (jx_i σ 163 (x1).toNatClampNeg (2 : Int32))) = (1 : Int32)) with hc | hc
        · rw [if_pos hc] at h
          refine jE_icT 92 hC (by decide) hc ?_
          refine jE_blk (bs := [(.iconst (0), 0, 0)]) (i := .istore 6) (a1 := 7) (a2 := 0) (pc1 := 93) (l1 := [(4, .long (σ.2 106 90)), (0, .ref 106), (1, .int x1), (2, .int x2), (3, .int x3)]) (st1 := [.int (0 : Int32)]) (σ1 := (jx_i σ 163 (x1).toNatClampNeg (2 : Int32))) (by decide +kernel) rfl (fun hC => ?_)
          exact jE_loc (l := [(0, .ref 106), (2, .int x2), (3, .int x3), (4, .long (σ.2 106 90))]) (ks := [0, 2, 3, 4]) rfl (by decide) ⟨rfl, rfl, rfl, rfl, trivial⟩ (x_r_workChoice_93 d hd x2 x3 (σ.2 106 90) (0 : Int32) (jx_i σ 163 (x1).toNatClampNeg (2 : Int32)) _ res h hK)
        · rw [if_neg hc] at h
          refine jE_icF 92 hC (by decide) hc ?_
          refine jE_blk (bs := [(.iconst (1), 1, 0), (.goto (4), 0, 0)]) (i := .istore 6) (a1 := 7) (a2 := 0) (pc1 := 93) (l1 := [(4, .long (σ.2 106 90)), (0, .ref 106), (1, .int x1), (2, .int x2), (3, .int x3)]) (st1 := [.int (1 : Int32)]) (σ1 := (jx_i σ 163 (x1).toNatClampNeg (2 : Int32))) (by decide +kernel) rfl (fun hC => ?_)
          exact jE_loc (l := [(0, .ref 106), (2, .int x2), (3, .int x3), (4, .long (σ.2 106 90))]) (ks := [0, 2, 3, 4]) rfl (by decide) ⟨rfl, rfl, rfl, rfl, trivial⟩ (x_r_workChoice_93 d hd x2 x3 (σ.2 106 90) (1 : Int32) (jx_i σ 163 (x1).toNatClampNeg (2 : Int32)) _ res h hK)
      · rw [if_neg hc] at h
        refine jE_icF 79 hC (by decide) hc ?_
        refine jE_blk (bs := [(.lload 4, 0, 0), (.l2i, 0, 0)]) (i := .ifCond .eq (7)) (a1 := 0) (a2 := 0) (pc1 := 68) (l1 := [(4, .long (σ.2 106 90)), (0, .ref 106), (1, .int x1), (2, .int x2), (3, .int x3)]) (st1 := [.int ((σ.2 106 90)).toInt32]) (σ1 := (jx_i σ 163 (x1).toNatClampNeg (2 : Int32))) (by decide +kernel) rfl (fun hC => ?_)
        rcases Classical.em (((σ.2 106 90)).toInt32 = 0) with hc | hc
        · rw [if_pos hc] at h
          refine jE_ifT 75 hC (by decide) hc ?_
          refine jE_blk (bs := [(.iconst (0), 0, 0), (.goto (17), 0, 0)]) (i := .istore 6) (a1 := 7) (a2 := 0) (pc1 := 93) (l1 := [(4, .long (σ.2 106 90)), (0, .ref 106), (1, .int x1), (2, .int x2), (3, .int x3)]) (st1 := [.int (0 : Int32)]) (σ1 := (jx_i σ 163 (x1).toNatClampNeg (2 : Int32))) (by decide +kernel) rfl (fun hC => ?_)
          exact jE_loc (l := [(0, .ref 106), (2, .int x2), (3, .int x3), (4, .long (σ.2 106 90))]) (ks := [0, 2, 3, 4]) rfl (by decide) ⟨rfl, rfl, rfl, rfl, trivial⟩ (x_r_workChoice_93 d hd x2 x3 (σ.2 106 90) (0 : Int32) (jx_i σ 163 (x1).toNatClampNeg (2 : Int32)) _ res h hK)
        · rw [if_neg hc] at h
          refine jE_ifF 75 hC (by decide) hc ?_
          refine jE_blk (bs := [(.iconst (1), 1, 0), (.goto (21), 0, 0)]) (i := .istore 6) (a1 := 7) (a2 := 0) (pc1 := 93) (l1 := [(4, .long (σ.2 106 90)), (0, .ref 106), (1, .int x1), (2, .int x2), (3, .int x3)]) (st1 := [.int (1 : Int32)]) (σ1 := (jx_i σ 163 (x1).toNatClampNeg (2 : Int32))) (by decide +kernel) rfl (fun hC => ?_)
          exact jE_loc (l := [(0, .ref 106), (2, .int x2), (3, .int x3), (4, .long (σ.2 106 90))]) (ks := [0, 2, 3, 4]) rfl (by decide) ⟨rfl, rfl, rfl, rfl, trivial⟩ (x_r_workChoice_93 d hd x2 x3 (σ.2 106 90) (1 : Int32) (jx_i σ 163 (x1).toNatClampNeg (2 : Int32)) _ res h hK)
  · rw [if_neg hc] at h
    refine jE_ifF 31 hC (by decide) hc ?_
    refine jE_blk (bs := [(.aload_n 0, 0, 0), (.getfield 185, 12, 79), (.iload_n 1, 0, 0), (.iconst (1), 1, 0)]) (i := .iastore) (a1 := 0) (a2 := 0) (pc1 := 15) (l1 := [(0, .ref 106), (1, .int x1), (2, .int x2), (3, .int x3)]) (st1 := [.int (1 : Int32), .int x1, .ref 163]) (σ1 := σ) (by decide +kernel) rfl (fun hC => ?_)
    obtain ⟨hi, h⟩ := jx_ite0_inv h
    refine jE_iast (n := 251) hC (by decide) rfl hi ?_
    refine jE_blk (bs := [(.aload_n 0, 0, 0), (.aload_n 0, 0, 0), (.getfield 35, 12, 13), (.iload_n 2, 0, 0)]) (i := .iaload) (a1 := 0) (a2 := 0) (pc1 := 22) (l1 := [(0, .ref 106), (1, .int x1), (2, .int x2), (3, .int x3)]) (st1 := [.int x2, .ref 114, .ref 106]) (σ1 := (jx_i σ 163 (x1).toNatClampNeg (1 : Int32))) (by decide +kernel) rfl (fun hC => ?_)
    obtain ⟨hi, h⟩ := jx_ite0_inv h
    refine jE_iald (n := 3000) hC (by decide) rfl hi ?_
    refine jE_blk (bs := [(.iload_n 3, 0, 0), (.iconst (-1), 1, 1)]) (i := .invokevirtual 571) (a1 := 211) (a2 := 0) (pc1 := 25) (l1 := [(0, .ref 106), (1, .int x1), (2, .int x2), (3, .int x3)]) (st1 := [.int (-1 : Int32), .int x3, .int ((σ.1 114) (x2).toNatClampNeg), .ref 106]) (σ1 := (jx_i σ 163 (x1).toNatClampNeg (1 : Int32))) (by decide +kernel) rfl (fun hC => ?_)
    obtain ⟨q3, hq, h⟩ := Option.bind_eq_some_iff.mp h
    refine jE_call (as := [.ref 106, .int ((σ.1 114) (x2).toNatClampNeg), .int x3, .int (-1 : Int32)]) (pc1 := 28) (st1 := []) hC rfl (by decide) (by omega) (x_r_begin (d - 1) (by omega) ((σ.1 114) (x2).toNatClampNeg) x3 (-1 : Int32) (jx_i σ 163 (x1).toNatClampNeg (1 : Int32)) q3 (none, q3) hq rfl) ?_
    refine jE_blk (bs := [(.goto (162), 0, 0)]) (i := .return_) (a1 := 0) (a2 := 0) (pc1 := 190) (l1 := [(0, .ref 106), (1, .int x1), (2, .int x2), (3, .int x3)]) (st1 := []) (σ1 := q3) (by decide +kernel) rfl (fun hC => ?_)
    have h9 := Option.some.inj h
    subst h9
    have e9 : ((none, q3) : Option Value × jx_S) = res := hK
    subst e9
    exact jE_ret hC rfl
def p_r_workLet_95 (x1 : Int32) (x2 : Int32) (x3 : Int32) (y0 : Int64) (σ : jx_S) : Option jx_S := (if ¬ (σ.1 106 87) = 0 then (some (σ)) else (if x2 < 0 ∨ 3000 ≤ (x2).toNatClampNeg then none else (if (x3 + ((σ.1 117) (x2).toNatClampNeg)) < 0 ∨ 30000 ≤ ((x3 + ((σ.1 117) (x2).toNatClampNeg))).toNatClampNeg then none else (if x1 < 0 ∨ 251 ≤ (x1).toNatClampNeg then none else (if x2 < 0 ∨ 3000 ≤ (x2).toNatClampNeg then none else ((p_r_begin ((σ.1 115) (x2).toNatClampNeg) x3 (-1 : Int32) (jx_i (jx_l σ 150 ((x3 + ((σ.1 117) (x2).toNatClampNeg))).toNatClampNeg y0) 163 (x1).toNatClampNeg (2 : Int32))).bind fun q3 => (some (q3))))))))
theorem x_r_workLet_95 (d : Nat) (hd : 4 ≤ d) (x1 : Int32) (x2 : Int32) (x3 : Int32) (y0 : Int64) (σ : jx_S) (t : jx_S) (res : Option Value × jx_S) (h : p_r_workLet_95 x1 x2 x3 y0 σ = some t) (hK : kkV t res) : jE d 224 95 [(0, .ref 106), (1, .int x1), (2, .int x2), (3, .int x3)] [.long y0] σ res := by
  unfold p_r_workLet_95 at h
  refine jE_blk (bs := [(.lstore 4, 6, 0), (.aload_n 0, 0, 0), (.getfield 521, 12, 87)]) (i := .ifCond .ne (37)) (a1 := 0) (a2 := 0) (pc1 := 101) (l1 := [(4, .long y0), (0, .ref 106), (1, .int x1), (2, .int x2), (3, .int x3)]) (st1 := [.int (σ.1 106 87)]) (σ1 := σ) (by decide +kernel) rfl (fun hC => ?_)
  rcases Classical.em (¬ (σ.1 106 87) = 0) with hc | hc
  · rw [if_pos hc] at h
    refine jE_ifT 138 hC (by decide) hc ?_
    refine jE_blk (bs := [(.goto (11), 0, 0)]) (i := .return_) (a1 := 0) (a2 := 0) (pc1 := 149) (l1 := [(4, .long y0), (0, .ref 106), (1, .int x1), (2, .int x2), (3, .int x3)]) (st1 := []) (σ1 := σ) (by decide +kernel) rfl (fun hC => ?_)
    have h9 := Option.some.inj h
    subst h9
    have e9 : ((none, σ) : Option Value × jx_S) = res := hK
    subst e9
    exact jE_ret hC rfl
  · rw [if_neg hc] at h
    refine jE_ifF 138 hC (by decide) hc ?_
    refine jE_blk (bs := [(.aload_n 0, 0, 0), (.getfield 145, 12, 61), (.iload_n 3, 0, 0), (.aload_n 0, 0, 0), (.getfield 44, 12, 16), (.iload_n 2, 0, 0)]) (i := .iaload) (a1 := 0) (a2 := 0) (pc1 := 114) (l1 := [(4, .long y0), (0, .ref 106), (1, .int x1), (2, .int x2), (3, .int x3)]) (st1 := [.int x2, .ref 117, .int x3, .ref 150]) (σ1 := σ) (by decide +kernel) rfl (fun hC => ?_)
    obtain ⟨hi, h⟩ := jx_ite0_inv h
    refine jE_iald (n := 3000) hC (by decide) rfl hi ?_
    refine jE_blk (bs := [(.iadd, 0, 0), (.lload 4, 0, 0)]) (i := .lastore) (a1 := 0) (a2 := 0) (pc1 := 118) (l1 := [(4, .long y0), (0, .ref 106), (1, .int x1), (2, .int x2), (3, .int x3)]) (st1 := [.long y0, .int (x3 + ((σ.1 117) (x2).toNatClampNeg)), .ref 150]) (σ1 := σ) (by decide +kernel) rfl (fun hC => ?_)
    obtain ⟨hi, h⟩ := jx_ite0_inv h
    refine jE_last (n := 30000) hC (by decide) rfl hi ?_
    refine jE_blk (bs := [(.aload_n 0, 0, 0), (.getfield 185, 12, 79), (.iload_n 1, 0, 0), (.iconst (2), 2, 0)]) (i := .iastore) (a1 := 0) (a2 := 0) (pc1 := 125) (l1 := [(4, .long y0), (0, .ref 106), (1, .int x1), (2, .int x2), (3, .int x3)]) (st1 := [.int (2 : Int32), .int x1, .ref 163]) (σ1 := (jx_l σ 150 ((x3 + ((σ.1 117) (x2).toNatClampNeg))).toNatClampNeg y0)) (by decide +kernel) rfl (fun hC => ?_)
    obtain ⟨hi, h⟩ := jx_ite0_inv h
    refine jE_iast (n := 251) hC (by decide) rfl hi ?_
    refine jE_blk (bs := [(.aload_n 0, 0, 0), (.aload_n 0, 0, 0), (.getfield 38, 12, 14), (.iload_n 2, 0, 0)]) (i := .iaload) (a1 := 0) (a2 := 0) (pc1 := 132) (l1 := [(4, .long y0), (0, .ref 106), (1, .int x1), (2, .int x2), (3, .int x3)]) (st1 := [.int x2, .ref 115, .ref 106]) (σ1 := (jx_i (jx_l σ 150 ((x3 + ((σ.1 117) (x2).toNatClampNeg))).toNatClampNeg y0) 163 (x1).toNatClampNeg (2 : Int32))) (by decide +kernel) rfl (fun hC => ?_)
    obtain ⟨hi, h⟩ := jx_ite0_inv h
    refine jE_iald (n := 3000) hC (by decide) rfl hi ?_
    refine jE_blk (bs := [(.iload_n 3, 0, 0), (.iconst (-1), 1, 1)]) (i := .invokevirtual 571) (a1 := 211) (a2 := 0) (pc1 := 135) (l1 := [(4, .long y0), (0, .ref 106), (1, .int x1), (2, .int x2), (3, .int x3)]) (st1 := [.int (-1 : Int32), .int x3, .int ((σ.1 115) (x2).toNatClampNeg), .ref 106]) (σ1 := (jx_i (jx_l σ 150 ((x3 + ((σ.1 117) (x2).toNatClampNeg))).toNatClampNeg y0) 163 (x1).toNatClampNeg (2 : Int32))) (by decide +kernel) rfl (fun hC => ?_)
    obtain ⟨q3, hq, h⟩ := Option.bind_eq_some_iff.mp h
    refine jE_call (as := [.ref 106, .int ((σ.1 115) (x2).toNatClampNeg), .int x3, .int (-1 : Int32)]) (pc1 := 138) (st1 := []) hC rfl (by decide) (by omega) (x_r_begin (d - 1) (by omega) ((σ.1 115) (x2).toNatClampNeg) x3 (-1 : Int32) (jx_i (jx_l σ 150 ((x3 + ((σ.1 117) (x2).toNatClampNeg))).toNatClampNeg y0) 163 (x1).toNatClampNeg (2 : Int32)) q3 (none, q3) hq rfl) ?_
    refine jE_blk (bs := [(.goto (11), 0, 0)]) (i := .return_) (a1 := 0) (a2 := 0) (pc1 := 149) (l1 := [(4, .long y0), (0, .ref 106), (1, .int x1), (2, .int x2), (3, .int x3)]) (st1 := []) (σ1 := q3) (by decide +kernel) rfl (fun hC => ?_)
    have h9 := Option.some.inj h
    subst h9
    have e9 : ((none, q3) : Option Value × jx_S) = res := hK
    subst e9
    exact jE_ret hC rfl
def p_r_workLet_57 (x1 : Int32) (x2 : Int32) (x3 : Int32) (σ : jx_S) : Option jx_S := (if x1 < 0 ∨ 251 ≤ (x1).toNatClampNeg then none else (if (2 : Int32) ≤ ((σ.1 163) (x1).toNatClampNeg) then ((p_r_finish (σ.2 106 90) σ).bind fun q1 => (some (q1))) else (if x1 < 0 ∨ 251 ≤ (x1).toNatClampNeg then none else (if ¬ ((σ.1 163) (x1).toNatClampNeg) = (1 : Int32) then (if x2 < 0 ∨ 3000 ≤ (x2).toNatClampNeg then none else ((p_r_putOff ((σ.1 114) (x2).toNatClampNeg) x3 σ).bind fun q2 => (p_r_workLet_95 x1 x2 x3 q2.1 q2.2))) else (p_r_workLet_95 x1 x2 x3 (σ.2 106 90) σ)))))
theorem x_r_workLet_57 (d : Nat) (hd : 4 ≤ d) (x1 : Int32) (x2 : Int32) (x3 : Int32) (σ : jx_S) (t : jx_S) (res : Option Value × jx_S) (h : p_r_workLet_57 x1 x2 x3 σ = some t) (hK : kkV t res) : jE d 224 57 [(0, .ref 106), (1, .int x1), (2, .int x2), (3, .int x3)] [] σ res := by
  unfold p_r_workLet_57 at h
  refine jE_blk (bs := [(.aload_n 0, 0, 0), (.getfield 185, 12, 79), (.iload_n 1, 0, 0)]) (i := .iaload) (a1 := 0) (a2 := 0) (pc1 := 62) (l1 := [(0, .ref 106), (1, .int x1), (2, .int x2), (3, .int x3)]) (st1 := [.int x1, .ref 163]) (σ1 := σ) (by decide +kernel) rfl (fun hC => ?_)
  obtain ⟨hi, h⟩ := jx_ite0_inv h
  refine jE_iald (n := 251) hC (by decide) rfl hi ?_
  refine jE_blk (bs := [(.iconst (2), 2, 0)]) (i := .if_icmp .ge (77)) (a1 := 0) (a2 := 0) (pc1 := 64) (l1 := [(0, .ref 106), (1, .int x1), (2, .int x2), (3, .int x3)]) (st1 := [.int (2 : Int32), .int ((σ.1 163) (x1).toNatClampNeg)]) (σ1 := σ) (by decide +kernel) rfl (fun hC => ?_)
  rcases Classical.em ((2 : Int32) ≤ ((σ.1 163) (x1).toNatClampNeg)) with hc | hc
  · rw [if_pos hc] at h
    refine jE_icT 141 hC (by decide) hc ?_
    refine jE_blk (bs := [(.aload_n 0, 0, 0), (.aload_n 0, 0, 0), (.getfield 529, 12, 90)]) (i := .invokevirtual 564) (a1 := 212) (a2 := 0) (pc1 := 146) (l1 := [(0, .ref 106), (1, .int x1), (2, .int x2), (3, .int x3)]) (st1 := [.long (σ.2 106 90), .ref 106]) (σ1 := σ) (by decide +kernel) rfl (fun hC => ?_)
    obtain ⟨q1, hq, h⟩ := Option.bind_eq_some_iff.mp h
    refine jE_call (as := [.ref 106, .long (σ.2 106 90)]) (pc1 := 149) (st1 := []) hC rfl (by decide) (by omega) (x_r_finish (d - 1) (by omega) (σ.2 106 90) σ q1 (none, q1) hq rfl) ?_
    refine jE_blk (bs := []) (i := .return_) (a1 := 0) (a2 := 0) (pc1 := 149) (l1 := [(0, .ref 106), (1, .int x1), (2, .int x2), (3, .int x3)]) (st1 := []) (σ1 := q1) (by decide +kernel) rfl (fun hC => ?_)
    have h9 := Option.some.inj h
    subst h9
    have e9 : ((none, q1) : Option Value × jx_S) = res := hK
    subst e9
    exact jE_ret hC rfl
  · rw [if_neg hc] at h
    refine jE_icF 141 hC (by decide) hc ?_
    refine jE_blk (bs := [(.aload_n 0, 0, 0), (.getfield 185, 12, 79), (.iload_n 1, 0, 0)]) (i := .iaload) (a1 := 0) (a2 := 0) (pc1 := 72) (l1 := [(0, .ref 106), (1, .int x1), (2, .int x2), (3, .int x3)]) (st1 := [.int x1, .ref 163]) (σ1 := σ) (by decide +kernel) rfl (fun hC => ?_)
    obtain ⟨hi, h⟩ := jx_ite0_inv h
    refine jE_iald (n := 251) hC (by decide) rfl hi ?_
    refine jE_blk (bs := [(.iconst (1), 1, 0)]) (i := .if_icmp .ne (10)) (a1 := 0) (a2 := 0) (pc1 := 74) (l1 := [(0, .ref 106), (1, .int x1), (2, .int x2), (3, .int x3)]) (st1 := [.int (1 : Int32), .int ((σ.1 163) (x1).toNatClampNeg)]) (σ1 := σ) (by decide +kernel) rfl (fun hC => ?_)
    rcases Classical.em (¬ ((σ.1 163) (x1).toNatClampNeg) = (1 : Int32)) with hc | hc
    · rw [if_pos hc] at h
      refine jE_icT 84 hC (by decide) hc ?_
      refine jE_blk (bs := [(.aload_n 0, 0, 0), (.aload_n 0, 0, 0), (.getfield 35, 12, 13), (.iload_n 2, 0, 0)]) (i := .iaload) (a1 := 0) (a2 := 0) (pc1 := 90) (l1 := [(0, .ref 106), (1, .int x1), (2, .int x2), (3, .int x3)]) (st1 := [.int x2, .ref 114, .ref 106]) (σ1 := σ) (by decide +kernel) rfl (fun hC => ?_)
      obtain ⟨hi, h⟩ := jx_ite0_inv h
      refine jE_iald (n := 3000) hC (by decide) rfl hi ?_
      refine jE_blk (bs := [(.iload_n 3, 0, 0)]) (i := .invokevirtual 574) (a1 := 215) (a2 := 0) (pc1 := 92) (l1 := [(0, .ref 106), (1, .int x1), (2, .int x2), (3, .int x3)]) (st1 := [.int x3, .int ((σ.1 114) (x2).toNatClampNeg), .ref 106]) (σ1 := σ) (by decide +kernel) rfl (fun hC => ?_)
      obtain ⟨q2, hq, h⟩ := Option.bind_eq_some_iff.mp h
      refine jE_call (as := [.ref 106, .int ((σ.1 114) (x2).toNatClampNeg), .int x3]) (pc1 := 95) (st1 := []) hC rfl (by decide) (by omega) (x_r_putOff (d - 1) (by omega) ((σ.1 114) (x2).toNatClampNeg) x3 σ q2 (some (.long q2.1), q2.2) hq rfl) ?_
      exact jE_loc (l := [(0, .ref 106), (1, .int x1), (2, .int x2), (3, .int x3)]) (ks := [0, 1, 2, 3]) rfl (by decide) ⟨rfl, rfl, rfl, rfl, trivial⟩ (x_r_workLet_95 d hd x1 x2 x3 q2.1 q2.2 _ res h hK)
    · rw [if_neg hc] at h
      refine jE_icF 84 hC (by decide) hc ?_
      refine jE_blk (bs := [(.aload_n 0, 0, 0), (.getfield 529, 12, 90), (.goto (14), 0, 0)]) (i := .lstore 4) (a1 := 6) (a2 := 0) (pc1 := 95) (l1 := [(0, .ref 106), (1, .int x1), (2, .int x2), (3, .int x3)]) (st1 := [.long (σ.2 106 90)]) (σ1 := σ) (by decide +kernel) rfl (fun hC => ?_)
      exact jE_loc (l := [(0, .ref 106), (1, .int x1), (2, .int x2), (3, .int x3)]) (ks := [0, 1, 2, 3]) rfl (by decide) ⟨rfl, rfl, rfl, rfl, trivial⟩ (x_r_workLet_95 d hd x1 x2 x3 (σ.2 106 90) σ _ res h hK)
def p_r_workLet (x1 : Int32) (x2 : Int32) (x3 : Int32) (σ : jx_S) : Option jx_S := (if x1 < 0 ∨ 251 ≤ (x1).toNatClampNeg then none else (if ¬ ((σ.1 163) (x1).toNatClampNeg) = 0 then (p_r_workLet_57 x1 x2 x3 σ) else (if (σ.1 106 86) = 0 then (p_r_workLet_57 x1 x2 x3 σ) else (if x2 < 0 ∨ 3000 ≤ (x2).toNatClampNeg then none else (if ((σ.1 125) (x2).toNatClampNeg) = 0 then (p_r_workLet_57 x1 x2 x3 σ) else (if x1 < 0 ∨ 251 ≤ (x1).toNatClampNeg then none else (if x2 < 0 ∨ 3000 ≤ (x2).toNatClampNeg then none else ((p_r_begin ((σ.1 114) (x2).toNatClampNeg) x3 (-1 : Int32) (jx_i (jx_i σ 106 92 ((σ.1 106 92) + (1 : Int32))) 163 (x1).toNatClampNeg (1 : Int32))).bind fun q4 => (some (q4))))))))))
theorem x_r_workLet (d : Nat) (hd : 4 ≤ d) (x1 : Int32) (x2 : Int32) (x3 : Int32) (σ : jx_S) (t : jx_S) (res : Option Value × jx_S) (h : p_r_workLet x1 x2 x3 σ = some t) (hK : kkV t res) : jE d 224 0 [(0, .ref 106), (1, .int x1), (2, .int x2), (3, .int x3)] [] σ res := by
  unfold p_r_workLet at h
  refine jE_blk (bs := [(.aload_n 0, 0, 0), (.getfield 185, 12, 79), (.iload_n 1, 0, 0)]) (i := .iaload) (a1 := 0) (a2 := 0) (pc1 := 5) (l1 := [(0, .ref 106), (1, .int x1), (2, .int x2), (3, .int x3)]) (st1 := [.int x1, .ref 163]) (σ1 := σ) (by decide +kernel) rfl (fun hC => ?_)
  obtain ⟨hi, h⟩ := jx_ite0_inv h
  refine jE_iald (n := 251) hC (by decide) rfl hi ?_
  refine jE_blk (bs := []) (i := .ifCond .ne (51)) (a1 := 0) (a2 := 0) (pc1 := 6) (l1 := [(0, .ref 106), (1, .int x1), (2, .int x2), (3, .int x3)]) (st1 := [.int ((σ.1 163) (x1).toNatClampNeg)]) (σ1 := σ) (by decide +kernel) rfl (fun hC => ?_)
  rcases Classical.em (¬ ((σ.1 163) (x1).toNatClampNeg) = 0) with hc | hc
  · rw [if_pos hc] at h
    refine jE_ifT 57 hC (by decide) hc ?_
    exact jE_loc (l := [(0, .ref 106), (1, .int x1), (2, .int x2), (3, .int x3)]) (ks := [0, 1, 2, 3]) rfl (by decide) ⟨rfl, rfl, rfl, rfl, trivial⟩ (x_r_workLet_57 d hd x1 x2 x3 σ _ res h hK)
  · rw [if_neg hc] at h
    refine jE_ifF 57 hC (by decide) hc ?_
    refine jE_blk (bs := [(.aload_n 0, 0, 0), (.getfield 568, 12, 86)]) (i := .ifCond .eq (44)) (a1 := 0) (a2 := 0) (pc1 := 13) (l1 := [(0, .ref 106), (1, .int x1), (2, .int x2), (3, .int x3)]) (st1 := [.int (σ.1 106 86)]) (σ1 := σ) (by decide +kernel) rfl (fun hC => ?_)
    rcases Classical.em ((σ.1 106 86) = 0) with hc | hc
    · rw [if_pos hc] at h
      refine jE_ifT 57 hC (by decide) hc ?_
      exact jE_loc (l := [(0, .ref 106), (1, .int x1), (2, .int x2), (3, .int x3)]) (ks := [0, 1, 2, 3]) rfl (by decide) ⟨rfl, rfl, rfl, rfl, trivial⟩ (x_r_workLet_57 d hd x1 x2 x3 σ _ res h hK)
    · rw [if_neg hc] at h
      refine jE_ifF 57 hC (by decide) hc ?_
      refine jE_blk (bs := [(.aload_n 0, 0, 0), (.getfield 68, 12, 24), (.iload_n 2, 0, 0)]) (i := .baload) (a1 := 0) (a2 := 0) (pc1 := 21) (l1 := [(0, .ref 106), (1, .int x1), (2, .int x2), (3, .int x3)]) (st1 := [.int x2, .ref 125]) (σ1 := σ) (by decide +kernel) rfl (fun hC => ?_)
      obtain ⟨hi, h⟩ := jx_ite0_inv h
      refine jE_bald (n := 3000) hC (by decide) rfl hi ?_
      refine jE_blk (bs := []) (i := .ifCond .eq (35)) (a1 := 0) (a2 := 0) (pc1 := 22) (l1 := [(0, .ref 106), (1, .int x1), (2, .int x2), (3, .int x3)]) (st1 := [.int ((σ.1 125) (x2).toNatClampNeg)]) (σ1 := σ) (by decide +kernel) rfl (fun hC => ?_)
      rcases Classical.em (((σ.1 125) (x2).toNatClampNeg) = 0) with hc | hc
      · rw [if_pos hc] at h
        refine jE_ifT 57 hC (by decide) hc ?_
        exact jE_loc (l := [(0, .ref 106), (1, .int x1), (2, .int x2), (3, .int x3)]) (ks := [0, 1, 2, 3]) rfl (by decide) ⟨rfl, rfl, rfl, rfl, trivial⟩ (x_r_workLet_57 d hd x1 x2 x3 σ _ res h hK)
      · rw [if_neg hc] at h
        refine jE_ifF 57 hC (by decide) hc ?_
        refine jE_blk (bs := [(.aload_n 0, 0, 0), (.dup, 0, 0), (.getfield 509, 12, 92), (.iconst (1), 1, 0), (.iadd, 0, 0), (.putfield 509, 12, 92), (.aload_n 0, 0, 0), (.getfield 185, 12, 79), (.iload_n 1, 0, 0), (.iconst (1), 1, 0)]) (i := .iastore) (a1 := 0) (a2 := 0) (pc1 := 41) (l1 := [(0, .ref 106), (1, .int x1), (2, .int x2), (3, .int x3)]) (st1 := [.int (1 : Int32), .int x1, .ref 163]) (σ1 := (jx_i σ 106 92 ((σ.1 106 92) + (1 : Int32)))) (by decide +kernel) rfl (fun hC => ?_)
        obtain ⟨hi, h⟩ := jx_ite0_inv h
        refine jE_iast (n := 251) hC (by decide) rfl hi ?_
        refine jE_blk (bs := [(.aload_n 0, 0, 0), (.aload_n 0, 0, 0), (.getfield 35, 12, 13), (.iload_n 2, 0, 0)]) (i := .iaload) (a1 := 0) (a2 := 0) (pc1 := 48) (l1 := [(0, .ref 106), (1, .int x1), (2, .int x2), (3, .int x3)]) (st1 := [.int x2, .ref 114, .ref 106]) (σ1 := (jx_i (jx_i σ 106 92 ((σ.1 106 92) + (1 : Int32))) 163 (x1).toNatClampNeg (1 : Int32))) (by decide +kernel) rfl (fun hC => ?_)
        obtain ⟨hi, h⟩ := jx_ite0_inv h
        refine jE_iald (n := 3000) hC (by decide) rfl hi ?_
        refine jE_blk (bs := [(.iload_n 3, 0, 0), (.iconst (-1), 1, 1)]) (i := .invokevirtual 571) (a1 := 211) (a2 := 0) (pc1 := 51) (l1 := [(0, .ref 106), (1, .int x1), (2, .int x2), (3, .int x3)]) (st1 := [.int (-1 : Int32), .int x3, .int ((σ.1 114) (x2).toNatClampNeg), .ref 106]) (σ1 := (jx_i (jx_i σ 106 92 ((σ.1 106 92) + (1 : Int32))) 163 (x1).toNatClampNeg (1 : Int32))) (by decide +kernel) rfl (fun hC => ?_)
        obtain ⟨q4, hq, h⟩ := Option.bind_eq_some_iff.mp h
        refine jE_call (as := [.ref 106, .int ((σ.1 114) (x2).toNatClampNeg), .int x3, .int (-1 : Int32)]) (pc1 := 54) (st1 := []) hC rfl (by decide) (by omega) (x_r_begin (d - 1) (by omega) ((σ.1 114) (x2).toNatClampNeg) x3 (-1 : Int32) (jx_i (jx_i σ 106 92 ((σ.1 106 92) + (1 : Int32))) 163 (x1).toNatClampNeg (1 : Int32)) q4 (none, q4) hq rfl) ?_
        refine jE_blk (bs := [(.goto (95), 0, 0)]) (i := .return_) (a1 := 0) (a2 := 0) (pc1 := 149) (l1 := [(0, .ref 106), (1, .int x1), (2, .int x2), (3, .int x3)]) (st1 := []) (σ1 := q4) (by decide +kernel) rfl (fun hC => ?_)
        have h9 := Option.some.inj h
        subst h9
        have e9 : ((none, q4) : Option Value × jx_S) = res := hK
        subst e9
        exact jE_ret hC rfl
def p_r_workCons_72 (x3 : Int32) (σ : jx_S) : Option jx_S := (if ¬ (σ.1 106 87) = 0 then (some (σ)) else ((p_r_finish (v_r_tagged (2 : Int64) x3 σ) σ).bind fun q2 => (some (q2))))
theorem x_r_workCons_72 (d : Nat) (hd : 4 ≤ d) (x3 : Int32) (σ : jx_S) (t : jx_S) (res : Option Value × jx_S) (h : p_r_workCons_72 x3 σ = some t) (hK : kkV t res) : jE d 225 72 [(0, .ref 106), (3, .int x3)] [] σ res := by
  unfold p_r_workCons_72 at h
  refine jE_blk (bs := [(.aload_n 0, 0, 0), (.getfield 521, 12, 87)]) (i := .ifCond .ne (14)) (a1 := 0) (a2 := 0) (pc1 := 76) (l1 := [(0, .ref 106), (3, .int x3)]) (st1 := [.int (σ.1 106 87)]) (σ1 := σ) (by decide +kernel) rfl (fun hC => ?_)
  rcases Classical.em (¬ (σ.1 106 87) = 0) with hc | hc
  · rw [if_pos hc] at h
    refine jE_ifT 90 hC (by decide) hc ?_
    refine jE_blk (bs := []) (i := .return_) (a1 := 0) (a2 := 0) (pc1 := 90) (l1 := [(0, .ref 106), (3, .int x3)]) (st1 := []) (σ1 := σ) (by decide +kernel) rfl (fun hC => ?_)
    have h9 := Option.some.inj h
    subst h9
    have e9 : ((none, σ) : Option Value × jx_S) = res := hK
    subst e9
    exact jE_ret hC rfl
  · rw [if_neg hc] at h
    refine jE_ifF 90 hC (by decide) hc ?_
    refine jE_blk (bs := [(.aload_n 0, 0, 0), (.ldc2_w 587, 2, 0), (.iload_n 3, 0, 0)]) (i := .invokestatic 533) (a1 := 209) (a2 := 0) (pc1 := 84) (l1 := [(0, .ref 106), (3, .int x3)]) (st1 := [.int x3, .long (2 : Int64), .ref 106]) (σ1 := σ) (by decide +kernel) rfl (fun hC => ?_)
    refine jE_call (as := [.long (2 : Int64), .int x3]) (pc1 := 87) (st1 := [.ref 106]) hC rfl (by decide) (by omega) (xv_r_tagged (d - 1) (by omega) (2 : Int64) x3 σ) ?_
    refine jE_blk (bs := []) (i := .invokevirtual 564) (a1 := 212) (a2 := 0) (pc1 := 87) (l1 := [(0, .ref 106), (3, .int x3)]) (st1 := [.long (v_r_tagged (2 : Int64) x3 σ), .ref 106]) (σ1 := σ) (by decide +kernel) rfl (fun hC => ?_)
    obtain ⟨q2, hq, h⟩ := Option.bind_eq_some_iff.mp h
    refine jE_call (as := [.ref 106, .long (v_r_tagged (2 : Int64) x3 σ)]) (pc1 := 90) (st1 := []) hC rfl (by decide) (by omega) (x_r_finish (d - 1) (by omega) (v_r_tagged (2 : Int64) x3 σ) σ q2 (none, q2) hq rfl) ?_
    refine jE_blk (bs := []) (i := .return_) (a1 := 0) (a2 := 0) (pc1 := 90) (l1 := [(0, .ref 106), (3, .int x3)]) (st1 := []) (σ1 := q2) (by decide +kernel) rfl (fun hC => ?_)
    have h9 := Option.some.inj h
    subst h9
    have e9 : ((none, q2) : Option Value × jx_S) = res := hK
    subst e9
    exact jE_ret hC rfl
def p_r_workCons (x1 : Int32) (x2 : Int32) (σ : jx_S) : Option jx_S := (if ¬ (σ.1 106 70) = (3000 : Int32) then (if x1 < 0 ∨ 3000 ≤ (x1).toNatClampNeg then none else ((p_r_putOff ((σ.1 114) (x1).toNatClampNeg) x2 (jx_i σ 106 70 ((σ.1 106 70) + (1 : Int32)))).bind fun q1 => (if (σ.1 106 70) < 0 ∨ 3000 ≤ ((σ.1 106 70)).toNatClampNeg then none else (if ¬ (q1.2.1 106 87) = 0 then (p_r_workCons_72 (σ.1 106 70) (jx_l q1.2 155 ((σ.1 106 70)).toNatClampNeg q1.1)) else (if x1 < 0 ∨ 3000 ≤ (x1).toNatClampNeg then none else ((p_r_putOff ((q1.2.1 115) (x1).toNatClampNeg) x2 (jx_l q1.2 155 ((σ.1 106 70)).toNatClampNeg q1.1)).bind fun q3 => (if (σ.1 106 70) < 0 ∨ 3000 ≤ ((σ.1 106 70)).toNatClampNeg then none else (p_r_workCons_72 (σ.1 106 70) (jx_l q3.2 156 ((σ.1 106 70)).toNatClampNeg q3.1))))))))) else (some ((jx_i σ 106 87 (5 : Int32)))))
theorem x_r_workCons (d : Nat) (hd : 4 ≤ d) (x1 : Int32) (x2 : Int32) (σ : jx_S) (t : jx_S) (res : Option Value × jx_S) (h : p_r_workCons x1 x2 σ = some t) (hK : kkV t res) : jE d 225 0 [(0, .ref 106), (1, .int x1), (2, .int x2)] [] σ res := by
  unfold p_r_workCons at h
  refine jE_blk (bs := [(.aload_n 0, 0, 0), (.getfield 485, 12, 70), (.sipush (3000), 3000, 0)]) (i := .if_icmp .ne (9)) (a1 := 0) (a2 := 0) (pc1 := 7) (l1 := [(0, .ref 106), (1, .int x1), (2, .int x2)]) (st1 := [.int (3000 : Int32), .int (σ.1 106 70)]) (σ1 := σ) (by decide +kernel) rfl (fun hC => ?_)
  rcases Classical.em (¬ (σ.1 106 70) = (3000 : Int32)) with hc | hc
  · rw [if_pos hc] at h
    refine jE_icT 16 hC (by decide) hc ?_
    refine jE_blk (bs := [(.aload_n 0, 0, 0), (.getfield 485, 12, 70), (.istore_n 3, 4, 0), (.aload_n 0, 0, 0), (.dup, 0, 0), (.getfield 485, 12, 70), (.iconst (1), 1, 0), (.iadd, 0, 0), (.putfield 485, 12, 70), (.aload_n 0, 0, 0), (.getfield 161, 12, 68), (.iload_n 3, 0, 0), (.aload_n 0, 0, 0), (.aload_n 0, 0, 0), (.getfield 35, 12, 13), (.iload_n 1, 0, 0)]) (i := .iaload) (a1 := 0) (a2 := 0) (pc1 := 42) (l1 := [(3, .int (σ.1 106 70)), (0, .ref 106), (1, .int x1), (2, .int x2)]) (st1 := [.int x1, .ref 114, .ref 106, .int (σ.1 106 70), .ref 155]) (σ1 := (jx_i σ 106 70 ((σ.1 106 70) + (1 : Int32)))) (by decide +kernel) rfl (fun hC => ?_)
    obtain ⟨hi, h⟩ := jx_ite0_inv h
    refine jE_iald (n := 3000) hC (by decide) rfl hi ?_
    refine jE_blk (bs := [(.iload_n 2, 0, 0)]) (i := .invokevirtual 574) (a1 := 215) (a2 := 0) (pc1 := 44) (l1 := [(3, .int (σ.1 106 70)), (0, .ref 106), (1, .int x1), (2, .int x2)]) (st1 := [.int x2, .int ((σ.1 114) (x1).toNatClampNeg), .ref 106, .int (σ.1 106 70), .ref 155]) (σ1 := (jx_i σ 106 70 ((σ.1 106 70) + (1 : Int32)))) (by decide +kernel) rfl (fun hC => ?_)
    obtain ⟨q1, hq, h⟩ := Option.bind_eq_some_iff.mp h
    refine jE_call (as := [.ref 106, .int ((σ.1 114) (x1).toNatClampNeg), .int x2]) (pc1 := 47) (st1 := [.int (σ.1 106 70), .ref 155]) hC rfl (by decide) (by omega) (x_r_putOff (d - 1) (by omega) ((σ.1 114) (x1).toNatClampNeg) x2 (jx_i σ 106 70 ((σ.1 106 70) + (1 : Int32))) q1 (some (.long q1.1), q1.2) hq rfl) ?_
    refine jE_blk (bs := []) (i := .lastore) (a1 := 0) (a2 := 0) (pc1 := 47) (l1 := [(3, .int (σ.1 106 70)), (0, .ref 106), (1, .int x1), (2, .int x2)]) (st1 := [.long q1.1, .int (σ.1 106 70), .ref 155]) (σ1 := q1.2) (by decide +kernel) rfl (fun hC => ?_)
    obtain ⟨hi, h⟩ := jx_ite0_inv h
    refine jE_last (n := 3000) hC (by decide) rfl hi ?_
    refine jE_blk (bs := [(.aload_n 0, 0, 0), (.getfield 521, 12, 87)]) (i := .ifCond .ne (20)) (a1 := 0) (a2 := 0) (pc1 := 52) (l1 := [(3, .int (σ.1 106 70)), (0, .ref 106), (1, .int x1), (2, .int x2)]) (st1 := [.int (q1.2.1 106 87)]) (σ1 := (jx_l q1.2 155 ((σ.1 106 70)).toNatClampNeg q1.1)) (by decide +kernel) rfl (fun hC => ?_)
    rcases Classical.em (¬ (q1.2.1 106 87) = 0) with hc | hc
    · rw [if_pos hc] at h
      refine jE_ifT 72 hC (by decide) hc ?_
      exact jE_loc (l := [(0, .ref 106), (3, .int (σ.1 106 70))]) (ks := [0, 3]) rfl (by decide) ⟨rfl, rfl, trivial⟩ (x_r_workCons_72 d hd (σ.1 106 70) (jx_l q1.2 155 ((σ.1 106 70)).toNatClampNeg q1.1) _ res h hK)
    · rw [if_neg hc] at h
      refine jE_ifF 72 hC (by decide) hc ?_
      refine jE_blk (bs := [(.aload_n 0, 0, 0), (.getfield 164, 12, 69), (.iload_n 3, 0, 0), (.aload_n 0, 0, 0), (.aload_n 0, 0, 0), (.getfield 38, 12, 14), (.iload_n 1, 0, 0)]) (i := .iaload) (a1 := 0) (a2 := 0) (pc1 := 66) (l1 := [(3, .int (σ.1 106 70)), (0, .ref 106), (1, .int x1), (2, .int x2)]) (st1 := [.int x1, .ref 115, .ref 106, .int (σ.1 106 70), .ref 156]) (σ1 := (jx_l q1.2 155 ((σ.1 106 70)).toNatClampNeg q1.1)) (by decide +kernel) rfl (fun hC => ?_)
      obtain ⟨hi, h⟩ := jx_ite0_inv h
      refine jE_iald (n := 3000) hC (by decide) rfl hi ?_
      refine jE_blk (bs := [(.iload_n 2, 0, 0)]) (i := .invokevirtual 574) (a1 := 215) (a2 := 0) (pc1 := 68) (l1 := [(3, .int (σ.1 106 70)), (0, .ref 106), (1, .int x1), (2, .int x2)]) (st1 := [.int x2, .int ((q1.2.1 115) (x1).toNatClampNeg), .ref 106, .int (σ.1 106 70), .ref 156]) (σ1 := (jx_l q1.2 155 ((σ.1 106 70)).toNatClampNeg q1.1)) (by decide +kernel) rfl (fun hC => ?_)
      obtain ⟨q3, hq, h⟩ := Option.bind_eq_some_iff.mp h
      refine jE_call (as := [.ref 106, .int ((q1.2.1 115) (x1).toNatClampNeg), .int x2]) (pc1 := 71) (st1 := [.int (σ.1 106 70), .ref 156]) hC rfl (by decide) (by omega) (x_r_putOff (d - 1) (by omega) ((q1.2.1 115) (x1).toNatClampNeg) x2 (jx_l q1.2 155 ((σ.1 106 70)).toNatClampNeg q1.1) q3 (some (.long q3.1), q3.2) hq rfl) ?_
      refine jE_blk (bs := []) (i := .lastore) (a1 := 0) (a2 := 0) (pc1 := 71) (l1 := [(3, .int (σ.1 106 70)), (0, .ref 106), (1, .int x1), (2, .int x2)]) (st1 := [.long q3.1, .int (σ.1 106 70), .ref 156]) (σ1 := q3.2) (by decide +kernel) rfl (fun hC => ?_)
      obtain ⟨hi, h⟩ := jx_ite0_inv h
      refine jE_last (n := 3000) hC (by decide) rfl hi ?_
      exact jE_loc (l := [(0, .ref 106), (3, .int (σ.1 106 70))]) (ks := [0, 3]) rfl (by decide) ⟨rfl, rfl, trivial⟩ (x_r_workCons_72 d hd (σ.1 106 70) (jx_l q3.2 156 ((σ.1 106 70)).toNatClampNeg q3.1) _ res h hK)
  · rw [if_neg hc] at h
    refine jE_icF 16 hC (by decide) hc ?_
    refine jE_blk (bs := [(.aload_n 0, 0, 0), (.iconst (5), 5, 0), (.putfield 521, 12, 87)]) (i := .return_) (a1 := 0) (a2 := 0) (pc1 := 15) (l1 := [(0, .ref 106), (1, .int x1), (2, .int x2)]) (st1 := []) (σ1 := (jx_i σ 106 87 (5 : Int32))) (by decide +kernel) rfl (fun hC => ?_)
    have h9 := Option.some.inj h
    subst h9
    have e9 : ((none, (jx_i σ 106 87 (5 : Int32))) : Option Value × jx_S) = res := hK
    subst e9
    exact jE_ret hC rfl
