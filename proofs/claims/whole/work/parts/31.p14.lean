def kk_r_analyse_2 (d : Nat) (t : ((Int32 × jx_S) ⊕ jx_S)) (res : Option Value × jx_S) : Prop := match t with
  | .inl s => jE d 198 2 [(0, .ref 106), (1, .int s.1)] [] s.2 res
  | .inr t => kkV t res
def kk_r_analyse_35 (d : Nat) (t : ((Int32 × jx_S) ⊕ jx_S)) (res : Option Value × jx_S) : Prop := match t with
  | .inl s => jE d 198 35 [(0, .ref 106), (1, .int s.1)] [] s.2 res
  | .inr t => kkV t res
def kk_r_analyse_49 (d : Nat) (t : ((Int32 × jx_S) ⊕ jx_S)) (res : Option Value × jx_S) : Prop := match t with
  | .inl s => jE d 198 49 [(0, .ref 106), (2, .int s.1)] [] s.2 res
  | .inr t => kkV t res
def kk_r_analyse_59 (d : Nat) (t : ((Int32 × Int32 × jx_S) ⊕ ((Int32 × jx_S) ⊕ jx_S))) (res : Option Value × jx_S) : Prop := match t with
  | .inl s => jE d 198 59 [(0, .ref 106), (2, .int s.1), (3, .int s.2.1)] [] s.2.2 res
  | .inr t => kk_r_analyse_49 d t res
def kk_r_analyse_218 (d : Nat) (t : ((Int32 × Int32 × Int32 × jx_S) ⊕ ((Int32 × jx_S) ⊕ jx_S))) (res : Option Value × jx_S) : Prop := match t with
  | .inl s => jE d 198 218 [(0, .ref 106), (2, .int s.1), (3, .int s.2.1), (4, .int s.2.2.1)] [] s.2.2.2 res
  | .inr t => kk_r_analyse_49 d t res
def p_r_analyse_291 (x2 : Int32) (x3 : Int32) (x4 : Int32) (σ : jx_S) : Option ((Int32 × Int32 × Int32 × jx_S) ⊕ ((Int32 × jx_S) ⊕ jx_S)) := (some (.inl (x2, x3, (x4 + 1), σ)))
theorem x_r_analyse_291 (d : Nat) (hd : 6 ≤ d) (x2 : Int32) (x3 : Int32) (x4 : Int32) (σ : jx_S) (t : ((Int32 × Int32 × Int32 × jx_S) ⊕ ((Int32 × jx_S) ⊕ jx_S))) (res : Option Value × jx_S) (h : p_r_analyse_291 x2 x3 x4 σ = some t) (hK : kk_r_analyse_218 d t res) : jE d 198 291 [(0, .ref 106), (2, .int x2), (3, .int x3), (4, .int x4)] [] σ res := by
  unfold p_r_analyse_291 at h
  refine jE_blk (bs := [(.iinc 4 (1), 7, 2), (.goto (-76), 0, 0)]) (i := .iload 4) (a1 := 0) (a2 := 0) (pc1 := 218) (l1 := [(4, .int (x4 + 1)), (0, .ref 106), (2, .int x2), (3, .int x3)]) (st1 := []) (σ1 := σ) (by decide +kernel) rfl (fun hC => ?_)
  have h9 := Option.some.inj h
  subst h9
  exact jE_loc (l := [(0, .ref 106), (2, .int x2), (3, .int x3), (4, .int (x4 + 1))]) (ks := [0, 2, 3, 4]) rfl (by decide) ⟨rfl, rfl, rfl, rfl, trivial⟩ hK
def p_r_analyse_290 (x2 : Int32) (x3 : Int32) (x4 : Int32) (y0 : Int32) (y1 : Int32) (σ : jx_S) : Option ((Int32 × Int32 × Int32 × jx_S) ⊕ ((Int32 × jx_S) ⊕ jx_S)) := (if y1 < 0 ∨ 3000 ≤ (y1).toNatClampNeg then none else (if y0 = 0 ∨ y0 = 1 then (p_r_analyse_291 x2 x3 x4 (jx_i σ 125 (y1).toNatClampNeg y0)) else none))
theorem x_r_analyse_290 (d : Nat) (hd : 6 ≤ d) (x2 : Int32) (x3 : Int32) (x4 : Int32) (y0 : Int32) (y1 : Int32) (σ : jx_S) (t : ((Int32 × Int32 × Int32 × jx_S) ⊕ ((Int32 × jx_S) ⊕ jx_S))) (res : Option Value × jx_S) (h : p_r_analyse_290 x2 x3 x4 y0 y1 σ = some t) (hK : kk_r_analyse_218 d t res) : jE d 198 290 [(0, .ref 106), (2, .int x2), (3, .int x3), (4, .int x4)] [.int y0, .int y1, .ref 125] σ res := by
  unfold p_r_analyse_290 at h
  refine jE_blk (bs := []) (i := .bastore) (a1 := 0) (a2 := 0) (pc1 := 290) (l1 := [(0, .ref 106), (2, .int x2), (3, .int x3), (4, .int x4)]) (st1 := [.int y0, .int y1, .ref 125]) (σ1 := σ) (by decide +kernel) rfl (fun hC => ?_)
  obtain ⟨hi, h⟩ := jx_ite0_inv h
  obtain ⟨hb, h⟩ := jx_ite_inv h
  refine jE_bast (n := 3000) hC (by decide) rfl hi hb ?_
  exact jE_loc (l := [(0, .ref 106), (2, .int x2), (3, .int x3), (4, .int x4)]) (ks := [0, 2, 3, 4]) rfl (by decide) ⟨rfl, rfl, rfl, rfl, trivial⟩ (x_r_analyse_291 d hd x2 x3 x4 (jx_i σ 125 (y1).toNatClampNeg y0) _ res h hK)
def p_r_analyse_218_s (x2 : Int32) (x3 : Int32) (x4 : Int32) (σ : jx_S) : Option ((Int32 × Int32 × Int32 × jx_S) ⊕ ((Int32 × jx_S) ⊕ jx_S)) := (if x3 ≤ x4 then (Option.map Sum.inr (some (.inl ((x2 + 1), σ)))) else (if x4 < 0 ∨ 3000 ≤ (x4).toNatClampNeg then none else (if ¬ ((σ.1 112) (x4).toNatClampNeg) = (5 : Int32) then (p_r_analyse_291 x2 x3 x4 σ) else ((p_r_greatest x2 σ).bind fun q3 => (if x4 < 0 ∨ 3000 ≤ (x4).toNatClampNeg then none else (if ((q3.1 117) (x4).toNatClampNeg) < 0 ∨ 32 ≤ (((q3.1 117) (x4).toNatClampNeg)).toNatClampNeg then none else (if x4 < 0 ∨ 3000 ≤ (x4).toNatClampNeg then none else (if ((q3.1 115) (x4).toNatClampNeg) < 0 ∨ 3000 ≤ (((q3.1 115) (x4).toNatClampNeg)).toNatClampNeg then none else (if x4 < 0 ∨ 3000 ≤ (x4).toNatClampNeg then none else ((p_r_work ((q3.1 121) (((q3.1 115) (x4).toNatClampNeg)).toNatClampNeg) ((q3.1 115) (x4).toNatClampNeg) (jx_i q3 149 (((q3.1 117) (x4).toNatClampNeg)).toNatClampNeg (0 : Int32))).bind fun q4 => (if ¬ q4.1 = 0 then (p_r_analyse_290 x2 x3 x4 (0 : Int32) x4 q4.2) else (p_r_analyse_290 x2 x3 x4 (1 : Int32) x4 q4.2))))))))))))
theorem x_r_analyse_218_s (d : Nat) (hd : 6 ≤ d) (x2 : Int32) (x3 : Int32) (x4 : Int32) (σ : jx_S) (t : ((Int32 × Int32 × Int32 × jx_S) ⊕ ((Int32 × jx_S) ⊕ jx_S))) (res : Option Value × jx_S) (h : p_r_analyse_218_s x2 x3 x4 σ = some t) (hK : kk_r_analyse_218 d t res) : jE d 198 218 [(0, .ref 106), (2, .int x2), (3, .int x3), (4, .int x4)] [] σ res := by
  unfold p_r_analyse_218_s at h
  refine jE_blk (bs := [(.iload 4, 0, 0), (.iload_n 3, 0, 0)]) (i := .if_icmp .ge (76)) (a1 := 0) (a2 := 0) (pc1 := 221) (l1 := [(0, .ref 106), (2, .int x2), (3, .int x3), (4, .int x4)]) (st1 := [.int x3, .int x4]) (σ1 := σ) (by decide +kernel) rfl (fun hC => ?_)
  rcases Classical.em (x3 ≤ x4) with hc | hc
  · rw [if_pos hc] at h
    refine jE_icT 297 hC (by decide) hc ?_
    obtain ⟨t9_2, h9_2, h8_2⟩ := Option.map_eq_some_iff.mp h
    clear h
    subst h8_2
    have h := h9_2
    clear h9_2
    refine jE_blk (bs := [(.iinc 2 (1), 7, 2), (.goto (-251), 0, 0)]) (i := .iload_n 2) (a1 := 0) (a2 := 0) (pc1 := 49) (l1 := [(2, .int (x2 + 1)), (0, .ref 106), (3, .int x3), (4, .int x4)]) (st1 := []) (σ1 := σ) (by decide +kernel) rfl (fun hC => ?_)
    have h9 := Option.some.inj h
    subst h9
    exact jE_loc (l := [(0, .ref 106), (2, .int (x2 + 1))]) (ks := [0, 2]) rfl (by decide) ⟨rfl, rfl, trivial⟩ hK
  · rw [if_neg hc] at h
    refine jE_icF 297 hC (by decide) hc ?_
    refine jE_blk (bs := [(.aload_n 0, 0, 0), (.getfield 29, 12, 11), (.iload 4, 0, 0)]) (i := .iaload) (a1 := 0) (a2 := 0) (pc1 := 230) (l1 := [(0, .ref 106), (2, .int x2), (3, .int x3), (4, .int x4)]) (st1 := [.int x4, .ref 112]) (σ1 := σ) (by decide +kernel) rfl (fun hC => ?_)
    obtain ⟨hi, h⟩ := jx_ite0_inv h
    refine jE_iald (n := 3000) hC (by decide) rfl hi ?_
    refine jE_blk (bs := [(.iconst (5), 5, 0)]) (i := .if_icmp .ne (59)) (a1 := 0) (a2 := 0) (pc1 := 232) (l1 := [(0, .ref 106), (2, .int x2), (3, .int x3), (4, .int x4)]) (st1 := [.int (5 : Int32), .int ((σ.1 112) (x4).toNatClampNeg)]) (σ1 := σ) (by decide +kernel) rfl (fun hC => ?_)
    rcases Classical.em (¬ ((σ.1 112) (x4).toNatClampNeg) = (5 : Int32)) with hc | hc
    · rw [if_pos hc] at h
      refine jE_icT 291 hC (by decide) hc ?_
      exact jE_loc (l := [(0, .ref 106), (2, .int x2), (3, .int x3), (4, .int x4)]) (ks := [0, 2, 3, 4]) rfl (by decide) ⟨rfl, rfl, rfl, rfl, trivial⟩ (x_r_analyse_291 d hd x2 x3 x4 σ _ res h hK)
    · rw [if_neg hc] at h
      refine jE_icF 291 hC (by decide) hc ?_
      refine jE_blk (bs := [(.aload_n 0, 0, 0), (.iload_n 2, 0, 0)]) (i := .invokevirtual 448) (a1 := 196) (a2 := 0) (pc1 := 237) (l1 := [(0, .ref 106), (2, .int x2), (3, .int x3), (4, .int x4)]) (st1 := [.int x2, .ref 106]) (σ1 := σ) (by decide +kernel) rfl (fun hC => ?_)
      obtain ⟨q3, hq, h⟩ := Option.bind_eq_some_iff.mp h
      refine jE_call (as := [.ref 106, .int x2]) (pc1 := 240) (st1 := []) hC rfl (by decide) (by omega) (x_r_greatest (d - 1) (by omega) x2 σ q3 (none, q3) hq rfl) ?_
      refine jE_blk (bs := [(.aload_n 0, 0, 0), (.getfield 142, 12, 60), (.aload_n 0, 0, 0), (.getfield 44, 12, 16), (.iload 4, 0, 0)]) (i := .iaload) (a1 := 0) (a2 := 0) (pc1 := 250) (l1 := [(0, .ref 106), (2, .int x2), (3, .int x3), (4, .int x4)]) (st1 := [.int x4, .ref 117, .ref 149]) (σ1 := q3) (by decide +kernel) rfl (fun hC => ?_)
      obtain ⟨hi, h⟩ := jx_ite0_inv h
      refine jE_iald (n := 3000) hC (by decide) rfl hi ?_
      refine jE_blk (bs := [(.iconst (0), 0, 0)]) (i := .iastore) (a1 := 0) (a2 := 0) (pc1 := 252) (l1 := [(0, .ref 106), (2, .int x2), (3, .int x3), (4, .int x4)]) (st1 := [.int (0 : Int32), .int ((q3.1 117) (x4).toNatClampNeg), .ref 149]) (σ1 := q3) (by decide +kernel) rfl (fun hC => ?_)
      obtain ⟨hi, h⟩ := jx_ite0_inv h
      refine jE_iast (n := 32) hC (by decide) rfl hi ?_
      refine jE_blk (bs := [(.aload_n 0, 0, 0), (.getfield 68, 12, 24), (.iload 4, 0, 0), (.aload_n 0, 0, 0), (.aload_n 0, 0, 0), (.getfield 56, 12, 20), (.aload_n 0, 0, 0), (.getfield 38, 12, 14), (.iload 4, 0, 0)]) (i := .iaload) (a1 := 0) (a2 := 0) (pc1 := 270) (l1 := [(0, .ref 106), (2, .int x2), (3, .int x3), (4, .int x4)]) (st1 := [.int x4, .ref 115, .ref 121, .ref 106, .int x4, .ref 125]) (σ1 := (jx_i q3 149 (((q3.1 117) (x4).toNatClampNeg)).toNatClampNeg (0 : Int32))) (by decide +kernel) rfl (fun hC => ?_)
      obtain ⟨hi, h⟩ := jx_ite0_inv h
      refine jE_iald (n := 3000) hC (by decide) rfl hi ?_
      refine jE_blk (bs := []) (i := .iaload) (a1 := 0) (a2 := 0) (pc1 := 271) (l1 := [(0, .ref 106), (2, .int x2), (3, .int x3), (4, .int x4)]) (st1 := [.int ((q3.1 115) (x4).toNatClampNeg), .ref 121, .ref 106, .int x4, .ref 125]) (σ1 := (jx_i q3 149 (((q3.1 117) (x4).toNatClampNeg)).toNatClampNeg (0 : Int32))) (by decide +kernel) rfl (fun hC => ?_)
      obtain ⟨hi, h⟩ := jx_ite0_inv h
      refine jE_iald (n := 3000) hC (by decide) rfl hi ?_
      refine jE_blk (bs := [(.aload_n 0, 0, 0), (.getfield 38, 12, 14), (.iload 4, 0, 0)]) (i := .iaload) (a1 := 0) (a2 := 0) (pc1 := 278) (l1 := [(0, .ref 106), (2, .int x2), (3, .int x3), (4, .int x4)]) (st1 := [.int x4, .ref 115, .int ((q3.1 121) (((q3.1 115) (x4).toNatClampNeg)).toNatClampNeg), .ref 106, .int x4, .ref 125]) (σ1 := (jx_i q3 149 (((q3.1 117) (x4).toNatClampNeg)).toNatClampNeg (0 : Int32))) (by decide +kernel) rfl (fun hC => ?_)
      obtain ⟨hi, h⟩ := jx_ite0_inv h
      refine jE_iald (n := 3000) hC (by decide) rfl hi ?_
      refine jE_blk (bs := []) (i := .invokevirtual 451) (a1 := 195) (a2 := 0) (pc1 := 279) (l1 := [(0, .ref 106), (2, .int x2), (3, .int x3), (4, .int x4)]) (st1 := [.int ((q3.1 115) (x4).toNatClampNeg), .int ((q3.1 121) (((q3.1 115) (x4).toNatClampNeg)).toNatClampNeg), .ref 106, .int x4, .ref 125]) (σ1 := (jx_i q3 149 (((q3.1 117) (x4).toNatClampNeg)).toNatClampNeg (0 : Int32))) (by decide +kernel) rfl (fun hC => ?_)
      obtain ⟨q4, hq, h⟩ := Option.bind_eq_some_iff.mp h
      refine jE_call (as := [.ref 106, .int ((q3.1 121) (((q3.1 115) (x4).toNatClampNeg)).toNatClampNeg), .int ((q3.1 115) (x4).toNatClampNeg)]) (pc1 := 282) (st1 := [.int x4, .ref 125]) hC rfl (by decide) (by omega) (x_r_work (d - 1) (by omega) ((q3.1 121) (((q3.1 115) (x4).toNatClampNeg)).toNatClampNeg) ((q3.1 115) (x4).toNatClampNeg) (jx_i q3 149 (((q3.1 117) (x4).toNatClampNeg)).toNatClampNeg (0 : Int32)) q4 (some (.int q4.1), q4.2) hq rfl) ?_
      refine jE_blk (bs := []) (i := .ifCond .ne (7)) (a1 := 0) (a2 := 0) (pc1 := 282) (l1 := [(0, .ref 106), (2, .int x2), (3, .int x3), (4, .int x4)]) (st1 := [.int q4.1, .int x4, .ref 125]) (σ1 := q4.2) (by decide +kernel) rfl (fun hC => ?_)
      rcases Classical.em (¬ q4.1 = 0) with hc | hc
      · rw [if_pos hc] at h
        refine jE_ifT 289 hC (by decide) hc ?_
        refine jE_blk (bs := [(.iconst (0), 0, 0)]) (i := .bastore) (a1 := 0) (a2 := 0) (pc1 := 290) (l1 := [(0, .ref 106), (2, .int x2), (3, .int x3), (4, .int x4)]) (st1 := [.int (0 : Int32), .int x4, .ref 125]) (σ1 := q4.2) (by decide +kernel) rfl (fun hC => ?_)
        exact jE_loc (l := [(0, .ref 106), (2, .int x2), (3, .int x3), (4, .int x4)]) (ks := [0, 2, 3, 4]) rfl (by decide) ⟨rfl, rfl, rfl, rfl, trivial⟩ (x_r_analyse_290 d hd x2 x3 x4 (0 : Int32) x4 q4.2 _ res h hK)
      · rw [if_neg hc] at h
        refine jE_ifF 289 hC (by decide) hc ?_
        refine jE_blk (bs := [(.iconst (1), 1, 0), (.goto (4), 0, 0)]) (i := .bastore) (a1 := 0) (a2 := 0) (pc1 := 290) (l1 := [(0, .ref 106), (2, .int x2), (3, .int x3), (4, .int x4)]) (st1 := [.int (1 : Int32), .int x4, .ref 125]) (σ1 := q4.2) (by decide +kernel) rfl (fun hC => ?_)
        exact jE_loc (l := [(0, .ref 106), (2, .int x2), (3, .int x3), (4, .int x4)]) (ks := [0, 2, 3, 4]) rfl (by decide) ⟨rfl, rfl, rfl, rfl, trivial⟩ (x_r_analyse_290 d hd x2 x3 x4 (1 : Int32) x4 q4.2 _ res h hK)
def p_r_analyse_218 (x2 : Int32) (x3 : Int32) (x4 : Int32) (σ : jx_S) : Option ((Int32 × jx_S) ⊕ jx_S) := jx_loop 100000000 (fun s => p_r_analyse_218_s s.1 s.2.1 s.2.2.1 (s.2.2.2)) (x2, x3, x4, σ)
theorem x_r_analyse_218 (d : Nat) (hd : 6 ≤ d) (x2 : Int32) (x3 : Int32) (x4 : Int32) (σ : jx_S) (t : ((Int32 × jx_S) ⊕ jx_S)) (res : Option Value × jx_S) (h : p_r_analyse_218 x2 x3 x4 σ = some t) (hK : kk_r_analyse_49 d t res) : jE d 198 218 [(0, .ref 106), (2, .int x2), (3, .int x3), (4, .int x4)] [] σ res := by
  refine jx_loop_ok (E := fun s t => ∀ res, kk_r_analyse_49 d t res → jE d 198 218 [(0, .ref 106), (2, .int s.1), (3, .int s.2.1), (4, .int s.2.2.1)] [] s.2.2.2 res) (fun s t hs => ?_) _ _ _ h res hK
  cases t with
  | inl s1 => exact fun b hb res hk => x_r_analyse_218_s d hd (s.1) (s.2.1) (s.2.2.1) (s.2.2.2) _ res hs (hb res hk)
  | inr b => exact fun res hk => x_r_analyse_218_s d hd (s.1) (s.2.1) (s.2.2.1) (s.2.2.2) _ res hs hk
def p_r_analyse_209 (x2 : Int32) (y0 : Int32) (σ : jx_S) : Option ((Int32 × jx_S) ⊕ jx_S) := (if x2 < 0 ∨ 40 ≤ (x2).toNatClampNeg then none else (p_r_analyse_218 x2 y0 ((σ.1 132) (x2).toNatClampNeg) σ))
theorem x_r_analyse_209 (d : Nat) (hd : 6 ≤ d) (x2 : Int32) (y0 : Int32) (σ : jx_S) (t : ((Int32 × jx_S) ⊕ jx_S)) (res : Option Value × jx_S) (h : p_r_analyse_209 x2 y0 σ = some t) (hK : kk_r_analyse_49 d t res) : jE d 198 209 [(0, .ref 106), (2, .int x2)] [.int y0] σ res := by
  unfold p_r_analyse_209 at h
  refine jE_blk (bs := [(.istore_n 3, 7, 0), (.aload_n 0, 0, 0), (.getfield 90, 12, 32), (.iload_n 2, 0, 0)]) (i := .iaload) (a1 := 0) (a2 := 0) (pc1 := 215) (l1 := [(3, .int y0), (0, .ref 106), (2, .int x2)]) (st1 := [.int x2, .ref 132]) (σ1 := σ) (by decide +kernel) rfl (fun hC => ?_)
  obtain ⟨hi, h⟩ := jx_ite0_inv h
  refine jE_iald (n := 40) hC (by decide) rfl hi ?_
  refine jE_blk (bs := [(.istore 4, 7, 0)]) (i := .iload 4) (a1 := 0) (a2 := 0) (pc1 := 218) (l1 := [(4, .int ((σ.1 132) (x2).toNatClampNeg)), (3, .int y0), (0, .ref 106), (2, .int x2)]) (st1 := []) (σ1 := σ) (by decide +kernel) rfl (fun hC => ?_)
  exact jE_loc (l := [(0, .ref 106), (2, .int x2), (3, .int y0), (4, .int ((σ.1 132) (x2).toNatClampNeg))]) (ks := [0, 2, 3, 4]) rfl (by decide) ⟨rfl, rfl, rfl, rfl, trivial⟩ (x_r_analyse_218 d hd x2 y0 ((σ.1 132) (x2).toNatClampNeg) σ _ res h hK)
def kk_r_analyse_75 (d : Nat) (t : ((Int32 × Int32 × Int32 × Int32 × jx_S) ⊕ ((Int32 × Int32 × jx_S) ⊕ ((Int32 × jx_S) ⊕ jx_S)))) (res : Option Value × jx_S) : Prop := match t with
  | .inl s => jE d 198 75 [(0, .ref 106), (2, .int s.1), (3, .int s.2.1), (4, .int s.2.2.1), (5, .int s.2.2.2.1)] [] s.2.2.2.2 res
  | .inr t => kk_r_analyse_59 d t res
def p_r_analyse_177 (x2 : Int32) (x3 : Int32) (y0 : Int32) (y1 : Int32) (σ : jx_S) : Option ((Int32 × Int32 × jx_S) ⊕ ((Int32 × jx_S) ⊕ jx_S)) := (if y1 < 0 ∨ 320 ≤ (y1).toNatClampNeg then none else (if y0 = 0 ∨ y0 = 1 then (some (.inl (x2, (x3 + 1), (jx_i σ 136 (y1).toNatClampNeg y0)))) else none))
theorem x_r_analyse_177 (d : Nat) (hd : 6 ≤ d) (x2 : Int32) (x3 : Int32) (y0 : Int32) (y1 : Int32) (σ : jx_S) (t : ((Int32 × Int32 × jx_S) ⊕ ((Int32 × jx_S) ⊕ jx_S))) (res : Option Value × jx_S) (h : p_r_analyse_177 x2 x3 y0 y1 σ = some t) (hK : kk_r_analyse_59 d t res) : jE d 198 177 [(0, .ref 106), (2, .int x2), (3, .int x3)] [.int y0, .int y1, .ref 136] σ res := by
  unfold p_r_analyse_177 at h
  refine jE_blk (bs := []) (i := .bastore) (a1 := 0) (a2 := 0) (pc1 := 177) (l1 := [(0, .ref 106), (2, .int x2), (3, .int x3)]) (st1 := [.int y0, .int y1, .ref 136]) (σ1 := σ) (by decide +kernel) rfl (fun hC => ?_)
  obtain ⟨hi, h⟩ := jx_ite0_inv h
  obtain ⟨hb, h⟩ := jx_ite_inv h
  refine jE_bast (n := 320) hC (by decide) rfl hi hb ?_
  refine jE_blk (bs := [(.iinc 3 (1), 7, 2), (.goto (-122), 0, 0)]) (i := .iload_n 3) (a1 := 0) (a2 := 0) (pc1 := 59) (l1 := [(3, .int (x3 + 1)), (0, .ref 106), (2, .int x2)]) (st1 := []) (σ1 := (jx_i σ 136 (y1).toNatClampNeg y0)) (by decide +kernel) rfl (fun hC => ?_)
  have h9 := Option.some.inj h
  subst h9
  exact jE_loc (l := [(0, .ref 106), (2, .int x2), (3, .int (x3 + 1))]) (ks := [0, 2, 3]) rfl (by decide) ⟨rfl, rfl, rfl, trivial⟩ hK
def p_r_analyse_176 (x2 : Int32) (x3 : Int32) (y0 : Int32) (σ : jx_S) : Option ((Int32 × Int32 × jx_S) ⊕ ((Int32 × jx_S) ⊕ jx_S)) := (p_r_analyse_177 x2 x3 (0 : Int32) y0 σ)
theorem x_r_analyse_176 (d : Nat) (hd : 6 ≤ d) (x2 : Int32) (x3 : Int32) (y0 : Int32) (σ : jx_S) (t : ((Int32 × Int32 × jx_S) ⊕ ((Int32 × jx_S) ⊕ jx_S))) (res : Option Value × jx_S) (h : p_r_analyse_176 x2 x3 y0 σ = some t) (hK : kk_r_analyse_59 d t res) : jE d 198 176 [(0, .ref 106), (2, .int x2), (3, .int x3)] [.int y0, .ref 136] σ res := by
  unfold p_r_analyse_176 at h
  refine jE_blk (bs := [(.iconst (0), 0, 0)]) (i := .bastore) (a1 := 0) (a2 := 0) (pc1 := 177) (l1 := [(0, .ref 106), (2, .int x2), (3, .int x3)]) (st1 := [.int (0 : Int32), .int y0, .ref 136]) (σ1 := σ) (by decide +kernel) rfl (fun hC => ?_)
  exact jE_loc (l := [(0, .ref 106), (2, .int x2), (3, .int x3)]) (ks := [0, 2, 3]) rfl (by decide) ⟨rfl, rfl, rfl, trivial⟩ (x_r_analyse_177 d hd x2 x3 (0 : Int32) y0 σ _ res h hK)
def p_r_analyse_122 (x2 : Int32) (x3 : Int32) (x5 : Int32) (y0 : Int32) (y1 : Int32) (σ : jx_S) : Option ((Int32 × Int32 × Int32 × Int32 × jx_S) ⊕ ((Int32 × Int32 × jx_S) ⊕ ((Int32 × jx_S) ⊕ jx_S))) := (some (.inl (x2, x3, (y1 + y0), (x5 + 1), σ)))
theorem x_r_analyse_122 (d : Nat) (hd : 6 ≤ d) (x2 : Int32) (x3 : Int32) (x5 : Int32) (y0 : Int32) (y1 : Int32) (σ : jx_S) (t : ((Int32 × Int32 × Int32 × Int32 × jx_S) ⊕ ((Int32 × Int32 × jx_S) ⊕ ((Int32 × jx_S) ⊕ jx_S)))) (res : Option Value × jx_S) (h : p_r_analyse_122 x2 x3 x5 y0 y1 σ = some t) (hK : kk_r_analyse_75 d t res) : jE d 198 122 [(0, .ref 106), (2, .int x2), (3, .int x3), (5, .int x5)] [.int y0, .int y1] σ res := by
  unfold p_r_analyse_122 at h
  refine jE_blk (bs := [(.iadd, 0, 0), (.istore 4, 7, 0), (.iinc 5 (1), 7, 2), (.goto (-53), 0, 0)]) (i := .iload 5) (a1 := 0) (a2 := 0) (pc1 := 75) (l1 := [(5, .int (x5 + 1)), (4, .int (y1 + y0)), (0, .ref 106), (2, .int x2), (3, .int x3)]) (st1 := []) (σ1 := σ) (by decide +kernel) rfl (fun hC => ?_)
  have h9 := Option.some.inj h
  subst h9
  exact jE_loc (l := [(0, .ref 106), (2, .int x2), (3, .int x3), (4, .int (y1 + y0)), (5, .int (x5 + 1))]) (ks := [0, 2, 3, 4, 5]) rfl (by decide) ⟨rfl, rfl, rfl, rfl, rfl, trivial⟩ hK
def p_r_analyse_75_s (x2 : Int32) (x3 : Int32) (x4 : Int32) (x5 : Int32) (σ : jx_S) : Option ((Int32 × Int32 × Int32 × Int32 × jx_S) ⊕ ((Int32 × Int32 × jx_S) ⊕ ((Int32 × jx_S) ⊕ jx_S))) := (if x2 < 0 ∨ 40 ≤ (x2).toNatClampNeg then none else (if ((σ.1 127) (x2).toNatClampNeg) ≤ x5 then (Option.map Sum.inr (if (((8 : Int32) * x2) + x3) < 0 ∨ 320 ≤ ((((8 : Int32) * x2) + x3)).toNatClampNeg then none else (if (2 : Int32) ≤ ((σ.1 135) ((((8 : Int32) * x2) + x3)).toNatClampNeg) then (p_r_analyse_176 x2 x3 (((8 : Int32) * x2) + x3) σ) else (if (((1000 : Int32) * x2) + x4) < 0 ∨ 40000 ≤ ((((1000 : Int32) * x2) + x4)).toNatClampNeg then none else (if ¬ ((σ.1 146) ((((1000 : Int32) * x2) + x4)).toNatClampNeg) = 0 then (p_r_analyse_176 x2 x3 (((8 : Int32) * x2) + x3) σ) else (p_r_analyse_177 x2 x3 (1 : Int32) (((8 : Int32) * x2) + x3) σ)))))) else (if (((8 : Int32) * x2) + x5) < 0 ∨ 320 ≤ ((((8 : Int32) * x2) + x5)).toNatClampNeg then none else (if ¬ x5 = x3 then (p_r_analyse_122 x2 x3 x5 ((v_r_points ((σ.1 135) ((((8 : Int32) * x2) + x5)).toNatClampNeg) σ) - (1 : Int32)) (x4 * (v_r_points ((σ.1 135) ((((8 : Int32) * x2) + x5)).toNatClampNeg) σ)) σ) else (p_r_analyse_122 x2 x3 x5 (0 : Int32) (x4 * (v_r_points ((σ.1 135) ((((8 : Int32) * x2) + x5)).toNatClampNeg) σ)) σ)))))
theorem x_r_analyse_75_s (d : Nat) (hd : 6 ≤ d) (x2 : Int32) (x3 : Int32) (x4 : Int32) (x5 : Int32) (σ : jx_S) (t : ((Int32 × Int32 × Int32 × Int32 × jx_S) ⊕ ((Int32 × Int32 × jx_S) ⊕ ((Int32 × jx_S) ⊕ jx_S)))) (res : Option Value × jx_S) (h : p_r_analyse_75_s x2 x3 x4 x5 σ = some t) (hK : kk_r_analyse_75 d t res) : jE d 198 75 [(0, .ref 106), (2, .int x2), (3, .int x3), (4, .int x4), (5, .int x5)] [] σ res := by
  unfold p_r_analyse_75_s at h
  refine jE_blk (bs := [(.iload 5, 0, 0), (.aload_n 0, 0, 0), (.getfield 75, 12, 27), (.iload_n 2, 0, 0)]) (i := .iaload) (a1 := 0) (a2 := 0) (pc1 := 82) (l1 := [(0, .ref 106), (2, .int x2), (3, .int x3), (4, .int x4), (5, .int x5)]) (st1 := [.int x2, .ref 127, .int x5]) (σ1 := σ) (by decide +kernel) rfl (fun hC => ?_)
  obtain ⟨hi, h⟩ := jx_ite0_inv h
  refine jE_iald (n := 40) hC (by decide) rfl hi ?_
  refine jE_blk (bs := []) (i := .if_icmp .ge (48)) (a1 := 0) (a2 := 0) (pc1 := 83) (l1 := [(0, .ref 106), (2, .int x2), (3, .int x3), (4, .int x4), (5, .int x5)]) (st1 := [.int ((σ.1 127) (x2).toNatClampNeg), .int x5]) (σ1 := σ) (by decide +kernel) rfl (fun hC => ?_)
  rcases Classical.em (((σ.1 127) (x2).toNatClampNeg) ≤ x5) with hc | hc
  · rw [if_pos hc] at h
    refine jE_icT 131 hC (by decide) hc ?_
    obtain ⟨t9_6, h9_6, h8_6⟩ := Option.map_eq_some_iff.mp h
    clear h
    subst h8_6
    have h := h9_6
    clear h9_6
    refine jE_blk (bs := [(.aload_n 0, 0, 0), (.getfield 102, 12, 36), (.bipush (8), 8, 0), (.iload_n 2, 0, 0), (.imul, 0, 0), (.iload_n 3, 0, 0), (.iadd, 0, 0), (.aload_n 0, 0, 0), (.getfield 99, 12, 35), (.bipush (8), 8, 0), (.iload_n 2, 0, 0), (.imul, 0, 0), (.iload_n 3, 0, 0), (.iadd, 0, 0)]) (i := .iaload) (a1 := 0) (a2 := 0) (pc1 := 151) (l1 := [(0, .ref 106), (2, .int x2), (3, .int x3), (4, .int x4), (5, .int x5)]) (st1 := [.int (((8 : Int32) * x2) + x3), .ref 135, .int (((8 : Int32) * x2) + x3), .ref 136]) (σ1 := σ) (by decide +kernel) rfl (fun hC => ?_)
    obtain ⟨hi, h⟩ := jx_ite0_inv h
    refine jE_iald (n := 320) hC (by decide) rfl hi ?_
    refine jE_blk (bs := [(.iconst (2), 2, 0)]) (i := .if_icmp .ge (23)) (a1 := 0) (a2 := 0) (pc1 := 153) (l1 := [(0, .ref 106), (2, .int x2), (3, .int x3), (4, .int x4), (5, .int x5)]) (st1 := [.int (2 : Int32), .int ((σ.1 135) ((((8 : Int32) * x2) + x3)).toNatClampNeg), .int (((8 : Int32) * x2) + x3), .ref 136]) (σ1 := σ) (by decide +kernel) rfl (fun hC => ?_)
    rcases Classical.em ((2 : Int32) ≤ ((σ.1 135) ((((8 : Int32) * x2) + x3)).toNatClampNeg)) with hc | hc
    · rw [if_pos hc] at h
      refine jE_icT 176 hC (by decide) hc ?_
      exact jE_loc (l := [(0, .ref 106), (2, .int x2), (3, .int x3)]) (ks := [0, 2, 3]) rfl (by decide) ⟨rfl, rfl, rfl, trivial⟩ (x_r_analyse_176 d hd x2 x3 (((8 : Int32) * x2) + x3) σ _ res h hK)
    · rw [if_neg hc] at h
      refine jE_icF 176 hC (by decide) hc ?_
      refine jE_blk (bs := [(.aload_n 0, 0, 0), (.getfield 133, 12, 57), (.sipush (1000), 1000, 0), (.iload_n 2, 0, 0), (.imul, 0, 0), (.iload 4, 0, 0), (.iadd, 0, 0)]) (i := .iaload) (a1 := 0) (a2 := 0) (pc1 := 168) (l1 := [(0, .ref 106), (2, .int x2), (3, .int x3), (4, .int x4), (5, .int x5)]) (st1 := [.int (((1000 : Int32) * x2) + x4), .ref 146, .int (((8 : Int32) * x2) + x3), .ref 136]) (σ1 := σ) (by decide +kernel) rfl (fun hC => ?_)
      obtain ⟨hi, h⟩ := jx_ite0_inv h
      refine jE_iald (n := 40000) hC (by decide) rfl hi ?_
      refine jE_blk (bs := []) (i := .ifCond .ne (7)) (a1 := 0) (a2 := 0) (pc1 := 169) (l1 := [(0, .ref 106), (2, .int x2), (3, .int x3), (4, .int x4), (5, .int x5)]) (st1 := [.int ((σ.1 146) ((((1000 : Int32) * x2) + x4)).toNatClampNeg), .int (((8 : Int32) * x2) + x3), .ref 136]) (σ1 := σ) (by decide +kernel) rfl (fun hC => ?_)
      rcases Classical.em (¬ ((σ.1 146) ((((1000 : Int32) * x2) + x4)).toNatClampNeg) = 0) with hc | hc
      · rw [if_pos hc] at h
        refine jE_ifT 176 hC (by decide) hc ?_
        exact jE_loc (l := [(0, .ref 106), (2, .int x2), (3, .int x3)]) (ks := [0, 2, 3]) rfl (by decide) ⟨rfl, rfl, rfl, trivial⟩ (x_r_analyse_176 d hd x2 x3 (((8 : Int32) * x2) + x3) σ _ res h hK)
      · rw [if_neg hc] at h
        refine jE_ifF 176 hC (by decide) hc ?_
        refine jE_blk (bs := [(.iconst (1), 1, 0), (.goto (4), 0, 0)]) (i := .bastore) (a1 := 0) (a2 := 0) (pc1 := 177) (l1 := [(0, .ref 106), (2, .int x2), (3, .int x3), (4, .int x4), (5, .int x5)]) (st1 := [.int (1 : Int32), .int (((8 : Int32) * x2) + x3), .ref 136]) (σ1 := σ) (by decide +kernel) rfl (fun hC => ?_)
        exact jE_loc (l := [(0, .ref 106), (2, .int x2), (3, .int x3)]) (ks := [0, 2, 3]) rfl (by decide) ⟨rfl, rfl, rfl, trivial⟩ (x_r_analyse_177 d hd x2 x3 (1 : Int32) (((8 : Int32) * x2) + x3) σ _ res h hK)
  · rw [if_neg hc] at h
    refine jE_icF 131 hC (by decide) hc ?_
    refine jE_blk (bs := [(.aload_n 0, 0, 0), (.getfield 99, 12, 35), (.bipush (8), 8, 0), (.iload_n 2, 0, 0), (.imul, 0, 0), (.iload 5, 0, 0), (.iadd, 0, 0)]) (i := .iaload) (a1 := 0) (a2 := 0) (pc1 := 97) (l1 := [(0, .ref 106), (2, .int x2), (3, .int x3), (4, .int x4), (5, .int x5)]) (st1 := [.int (((8 : Int32) * x2) + x5), .ref 135]) (σ1 := σ) (by decide +kernel) rfl (fun hC => ?_)
    obtain ⟨hi, h⟩ := jx_ite0_inv h
    refine jE_iald (n := 320) hC (by decide) rfl hi ?_
    refine jE_blk (bs := []) (i := .invokestatic 422) (a1 := 186) (a2 := 0) (pc1 := 98) (l1 := [(0, .ref 106), (2, .int x2), (3, .int x3), (4, .int x4), (5, .int x5)]) (st1 := [.int ((σ.1 135) ((((8 : Int32) * x2) + x5)).toNatClampNeg)]) (σ1 := σ) (by decide +kernel) rfl (fun hC => ?_)
    refine jE_call (as := [.int ((σ.1 135) ((((8 : Int32) * x2) + x5)).toNatClampNeg)]) (pc1 := 101) (st1 := []) hC rfl (by decide) (by omega) (xv_r_points (d - 1) (by omega) ((σ.1 135) ((((8 : Int32) * x2) + x5)).toNatClampNeg) σ) ?_
    refine jE_blk (bs := [(.istore 6, 7, 0), (.iload 4, 0, 0), (.iload 6, 0, 0), (.imul, 0, 0), (.iload 5, 0, 0), (.iload_n 3, 0, 0)]) (i := .if_icmp .ne (7)) (a1 := 0) (a2 := 0) (pc1 := 111) (l1 := [(6, .int (v_r_points ((σ.1 135) ((((8 : Int32) * x2) + x5)).toNatClampNeg) σ)), (0, .ref 106), (2, .int x2), (3, .int x3), (4, .int x4), (5, .int x5)]) (st1 := [.int x3, .int x5, .int (x4 * (v_r_points ((σ.1 135) ((((8 : Int32) * x2) + x5)).toNatClampNeg) σ))]) (σ1 := σ) (by decide +kernel) rfl (fun hC => ?_)
    rcases Classical.em (¬ x5 = x3) with hc | hc
    · rw [if_pos hc] at h
      refine jE_icT 118 hC (by decide) hc ?_
      refine jE_blk (bs := [(.iload 6, 0, 0), (.iconst (1), 1, 0), (.isub, 0, 0)]) (i := .iadd) (a1 := 0) (a2 := 0) (pc1 := 122) (l1 := [(6, .int (v_r_points ((σ.1 135) ((((8 : Int32) * x2) + x5)).toNatClampNeg) σ)), (0, .ref 106), (2, .int x2), (3, .int x3), (4, .int x4), (5, .int x5)]) (st1 := [.int ((v_r_points ((σ.1 135) ((((8 : Int32) * x2) + x5)).toNatClampNeg) σ) - (1 : Int32)), .int (x4 * (v_r_points ((σ.1 135) ((((8 : Int32) * x2) + x5)).toNatClampNeg) σ))]) (σ1 := σ) (by decide +kernel) rfl (fun hC => ?_)
      exact jE_loc (l := [(0, .ref 106), (2, .int x2), (3, .int x3), (5, .int x5)]) (ks := [0, 2, 3, 5]) rfl (by decide) ⟨rfl, rfl, rfl, rfl, trivial⟩ (x_r_analyse_122 d hd x2 x3 x5 ((v_r_points ((σ.1 135) ((((8 : Int32) * x2) + x5)).toNatClampNeg) σ) - (1 : Int32)) (x4 * (v_r_points ((σ.1 135) ((((8 : Int32) * x2) + x5)).toNatClampNeg) σ)) σ _ res h hK)
    · rw [if_neg hc] at h
      refine jE_icF 118 hC (by decide) hc ?_
      refine jE_blk (bs := [(.iconst (0), 0, 0), (.goto (7), 0, 0)]) (i := .iadd) (a1 := 0) (a2 := 0) (pc1 := 122) (l1 := [(6, .int (v_r_points ((σ.1 135) ((((8 : Int32) * x2) + x5)).toNatClampNeg) σ)), (0, .ref 106), (2, .int x2), (3, .int x3), (4, .int x4), (5, .int x5)]) (st1 := [.int (0 : Int32), .int (x4 * (v_r_points ((σ.1 135) ((((8 : Int32) * x2) + x5)).toNatClampNeg) σ))]) (σ1 := σ) (by decide +kernel) rfl (fun hC => ?_)
      exact jE_loc (l := [(0, .ref 106), (2, .int x2), (3, .int x3), (5, .int x5)]) (ks := [0, 2, 3, 5]) rfl (by decide) ⟨rfl, rfl, rfl, rfl, trivial⟩ (x_r_analyse_122 d hd x2 x3 x5 (0 : Int32) (x4 * (v_r_points ((σ.1 135) ((((8 : Int32) * x2) + x5)).toNatClampNeg) σ)) σ _ res h hK)
def p_r_analyse_75 (x2 : Int32) (x3 : Int32) (x4 : Int32) (x5 : Int32) (σ : jx_S) : Option ((Int32 × Int32 × jx_S) ⊕ ((Int32 × jx_S) ⊕ jx_S)) := jx_loop 100000000 (fun s => p_r_analyse_75_s s.1 s.2.1 s.2.2.1 s.2.2.2.1 (s.2.2.2.2)) (x2, x3, x4, x5, σ)
theorem x_r_analyse_75 (d : Nat) (hd : 6 ≤ d) (x2 : Int32) (x3 : Int32) (x4 : Int32) (x5 : Int32) (σ : jx_S) (t : ((Int32 × Int32 × jx_S) ⊕ ((Int32 × jx_S) ⊕ jx_S))) (res : Option Value × jx_S) (h : p_r_analyse_75 x2 x3 x4 x5 σ = some t) (hK : kk_r_analyse_59 d t res) : jE d 198 75 [(0, .ref 106), (2, .int x2), (3, .int x3), (4, .int x4), (5, .int x5)] [] σ res := by
  refine jx_loop_ok (E := fun s t => ∀ res, kk_r_analyse_59 d t res → jE d 198 75 [(0, .ref 106), (2, .int s.1), (3, .int s.2.1), (4, .int s.2.2.1), (5, .int s.2.2.2.1)] [] s.2.2.2.2 res) (fun s t hs => ?_) _ _ _ h res hK
  cases t with
  | inl s1 => exact fun b hb res hk => x_r_analyse_75_s d hd (s.1) (s.2.1) (s.2.2.1) (s.2.2.2.1) (s.2.2.2.2) _ res hs (hb res hk)
  | inr b => exact fun res hk => x_r_analyse_75_s d hd (s.1) (s.2.1) (s.2.2.1) (s.2.2.2.1) (s.2.2.2.2) _ res hs hk
def p_r_analyse_59_s (x2 : Int32) (x3 : Int32) (σ : jx_S) : Option ((Int32 × Int32 × jx_S) ⊕ ((Int32 × jx_S) ⊕ jx_S)) := (if x2 < 0 ∨ 40 ≤ (x2).toNatClampNeg then none else (if ((σ.1 127) (x2).toNatClampNeg) ≤ x3 then (Option.map Sum.inr (if (σ.1 106 38) ≤ (x2 + (1 : Int32)) then (p_r_analyse_209 x2 (σ.1 106 25) σ) else (if (x2 + (1 : Int32)) < 0 ∨ 40 ≤ ((x2 + (1 : Int32))).toNatClampNeg then none else (p_r_analyse_209 x2 ((σ.1 132) ((x2 + (1 : Int32))).toNatClampNeg) σ)))) else (p_r_analyse_75 x2 x3 (0 : Int32) (0 : Int32) σ)))
theorem x_r_analyse_59_s (d : Nat) (hd : 6 ≤ d) (x2 : Int32) (x3 : Int32) (σ : jx_S) (t : ((Int32 × Int32 × jx_S) ⊕ ((Int32 × jx_S) ⊕ jx_S))) (res : Option Value × jx_S) (h : p_r_analyse_59_s x2 x3 σ = some t) (hK : kk_r_analyse_59 d t res) : jE d 198 59 [(0, .ref 106), (2, .int x2), (3, .int x3)] [] σ res := by
  unfold p_r_analyse_59_s at h
  refine jE_blk (bs := [(.iload_n 3, 0, 0), (.aload_n 0, 0, 0), (.getfield 75, 12, 27), (.iload_n 2, 0, 0)]) (i := .iaload) (a1 := 0) (a2 := 0) (pc1 := 65) (l1 := [(0, .ref 106), (2, .int x2), (3, .int x3)]) (st1 := [.int x2, .ref 127, .int x3]) (σ1 := σ) (by decide +kernel) rfl (fun hC => ?_)
  obtain ⟨hi, h⟩ := jx_ite0_inv h
  refine jE_iald (n := 40) hC (by decide) rfl hi ?_
  refine jE_blk (bs := []) (i := .if_icmp .ge (118)) (a1 := 0) (a2 := 0) (pc1 := 66) (l1 := [(0, .ref 106), (2, .int x2), (3, .int x3)]) (st1 := [.int ((σ.1 127) (x2).toNatClampNeg), .int x3]) (σ1 := σ) (by decide +kernel) rfl (fun hC => ?_)
  rcases Classical.em (((σ.1 127) (x2).toNatClampNeg) ≤ x3) with hc | hc
  · rw [if_pos hc] at h
    refine jE_icT 184 hC (by decide) hc ?_
    obtain ⟨t9_5, h9_5, h8_5⟩ := Option.map_eq_some_iff.mp h
    clear h
    subst h8_5
    have h := h9_5
    clear h9_5
    refine jE_blk (bs := [(.iload_n 2, 0, 0), (.iconst (1), 1, 0), (.iadd, 0, 0), (.aload_n 0, 0, 0), (.getfield 219, 12, 38)]) (i := .if_icmp .ge (14)) (a1 := 0) (a2 := 0) (pc1 := 191) (l1 := [(0, .ref 106), (2, .int x2), (3, .int x3)]) (st1 := [.int (σ.1 106 38), .int (x2 + (1 : Int32))]) (σ1 := σ) (by decide +kernel) rfl (fun hC => ?_)
    rcases Classical.em ((σ.1 106 38) ≤ (x2 + (1 : Int32))) with hc | hc
    · rw [if_pos hc] at h
      refine jE_icT 205 hC (by decide) hc ?_
      refine jE_blk (bs := [(.aload_n 0, 0, 0), (.getfield 329, 12, 25)]) (i := .istore_n 3) (a1 := 7) (a2 := 0) (pc1 := 209) (l1 := [(0, .ref 106), (2, .int x2), (3, .int x3)]) (st1 := [.int (σ.1 106 25)]) (σ1 := σ) (by decide +kernel) rfl (fun hC => ?_)
      exact jE_loc (l := [(0, .ref 106), (2, .int x2)]) (ks := [0, 2]) rfl (by decide) ⟨rfl, rfl, trivial⟩ (x_r_analyse_209 d hd x2 (σ.1 106 25) σ _ res h hK)
    · rw [if_neg hc] at h
      refine jE_icF 205 hC (by decide) hc ?_
      refine jE_blk (bs := [(.aload_n 0, 0, 0), (.getfield 90, 12, 32), (.iload_n 2, 0, 0), (.iconst (1), 1, 0), (.iadd, 0, 0)]) (i := .iaload) (a1 := 0) (a2 := 0) (pc1 := 201) (l1 := [(0, .ref 106), (2, .int x2), (3, .int x3)]) (st1 := [.int (x2 + (1 : Int32)), .ref 132]) (σ1 := σ) (by decide +kernel) rfl (fun hC => ?_)
      obtain ⟨hi, h⟩ := jx_ite0_inv h
      refine jE_iald (n := 40) hC (by decide) rfl hi ?_
      refine jE_blk (bs := [(.goto (7), 0, 0)]) (i := .istore_n 3) (a1 := 7) (a2 := 0) (pc1 := 209) (l1 := [(0, .ref 106), (2, .int x2), (3, .int x3)]) (st1 := [.int ((σ.1 132) ((x2 + (1 : Int32))).toNatClampNeg)]) (σ1 := σ) (by decide +kernel) rfl (fun hC => ?_)
      exact jE_loc (l := [(0, .ref 106), (2, .int x2)]) (ks := [0, 2]) rfl (by decide) ⟨rfl, rfl, trivial⟩ (x_r_analyse_209 d hd x2 ((σ.1 132) ((x2 + (1 : Int32))).toNatClampNeg) σ _ res h hK)
  · rw [if_neg hc] at h
    refine jE_icF 184 hC (by decide) hc ?_
    refine jE_blk (bs := [(.iconst (0), 0, 0), (.istore 4, 7, 0), (.iconst (0), 0, 0), (.istore 5, 7, 0)]) (i := .iload 5) (a1 := 0) (a2 := 0) (pc1 := 75) (l1 := [(5, .int (0 : Int32)), (4, .int (0 : Int32)), (0, .ref 106), (2, .int x2), (3, .int x3)]) (st1 := []) (σ1 := σ) (by decide +kernel) rfl (fun hC => ?_)
    exact jE_loc (l := [(0, .ref 106), (2, .int x2), (3, .int x3), (4, .int (0 : Int32)), (5, .int (0 : Int32))]) (ks := [0, 2, 3, 4, 5]) rfl (by decide) ⟨rfl, rfl, rfl, rfl, rfl, trivial⟩ (x_r_analyse_75 d hd x2 x3 (0 : Int32) (0 : Int32) σ _ res h hK)
def p_r_analyse_59 (x2 : Int32) (x3 : Int32) (σ : jx_S) : Option ((Int32 × jx_S) ⊕ jx_S) := jx_loop 100000000 (fun s => p_r_analyse_59_s s.1 s.2.1 (s.2.2)) (x2, x3, σ)
theorem x_r_analyse_59 (d : Nat) (hd : 6 ≤ d) (x2 : Int32) (x3 : Int32) (σ : jx_S) (t : ((Int32 × jx_S) ⊕ jx_S)) (res : Option Value × jx_S) (h : p_r_analyse_59 x2 x3 σ = some t) (hK : kk_r_analyse_49 d t res) : jE d 198 59 [(0, .ref 106), (2, .int x2), (3, .int x3)] [] σ res := by
  refine jx_loop_ok (E := fun s t => ∀ res, kk_r_analyse_49 d t res → jE d 198 59 [(0, .ref 106), (2, .int s.1), (3, .int s.2.1)] [] s.2.2 res) (fun s t hs => ?_) _ _ _ h res hK
  cases t with
  | inl s1 => exact fun b hb res hk => x_r_analyse_59_s d hd (s.1) (s.2.1) (s.2.2) _ res hs (hb res hk)
  | inr b => exact fun res hk => x_r_analyse_59_s d hd (s.1) (s.2.1) (s.2.2) _ res hs hk
def p_r_analyse_49_s (x2 : Int32) (σ : jx_S) : Option ((Int32 × jx_S) ⊕ jx_S) := (if (σ.1 106 38) ≤ x2 then (Option.map Sum.inr (some (σ))) else (p_r_analyse_59 x2 (0 : Int32) σ))
theorem x_r_analyse_49_s (d : Nat) (hd : 6 ≤ d) (x2 : Int32) (σ : jx_S) (t : ((Int32 × jx_S) ⊕ jx_S)) (res : Option Value × jx_S) (h : p_r_analyse_49_s x2 σ = some t) (hK : kk_r_analyse_49 d t res) : jE d 198 49 [(0, .ref 106), (2, .int x2)] [] σ res := by
  unfold p_r_analyse_49_s at h
  refine jE_blk (bs := [(.iload_n 2, 0, 0), (.aload_n 0, 0, 0), (.getfield 219, 12, 38)]) (i := .if_icmp .ge (249)) (a1 := 0) (a2 := 0) (pc1 := 54) (l1 := [(0, .ref 106), (2, .int x2)]) (st1 := [.int (σ.1 106 38), .int x2]) (σ1 := σ) (by decide +kernel) rfl (fun hC => ?_)
  rcases Classical.em ((σ.1 106 38) ≤ x2) with hc | hc
  · rw [if_pos hc] at h
    refine jE_icT 303 hC (by decide) hc ?_
    obtain ⟨t9_1, h9_1, h8_1⟩ := Option.map_eq_some_iff.mp h
    clear h
    subst h8_1
    have h := h9_1
    clear h9_1
    refine jE_blk (bs := []) (i := .return_) (a1 := 0) (a2 := 0) (pc1 := 303) (l1 := [(0, .ref 106), (2, .int x2)]) (st1 := []) (σ1 := σ) (by decide +kernel) rfl (fun hC => ?_)
    have h9 := Option.some.inj h
    subst h9
    have e9 : ((none, σ) : Option Value × jx_S) = res := hK
    subst e9
    exact jE_ret hC rfl
  · rw [if_neg hc] at h
    refine jE_icF 303 hC (by decide) hc ?_
    refine jE_blk (bs := [(.iconst (0), 0, 0), (.istore_n 3, 7, 0)]) (i := .iload_n 3) (a1 := 0) (a2 := 0) (pc1 := 59) (l1 := [(3, .int (0 : Int32)), (0, .ref 106), (2, .int x2)]) (st1 := []) (σ1 := σ) (by decide +kernel) rfl (fun hC => ?_)
    exact jE_loc (l := [(0, .ref 106), (2, .int x2), (3, .int (0 : Int32))]) (ks := [0, 2, 3]) rfl (by decide) ⟨rfl, rfl, rfl, trivial⟩ (x_r_analyse_59 d hd x2 (0 : Int32) σ _ res h hK)
def p_r_analyse_49 (x2 : Int32) (σ : jx_S) : Option jx_S := jx_loop 100000000 (fun s => p_r_analyse_49_s s.1 (s.2)) (x2, σ)
theorem x_r_analyse_49 (d : Nat) (hd : 6 ≤ d) (x2 : Int32) (σ : jx_S) (t : jx_S) (res : Option Value × jx_S) (h : p_r_analyse_49 x2 σ = some t) (hK : kkV t res) : jE d 198 49 [(0, .ref 106), (2, .int x2)] [] σ res := by
  refine jx_loop_ok (E := fun s t => ∀ res, kkV t res → jE d 198 49 [(0, .ref 106), (2, .int s.1)] [] s.2 res) (fun s t hs => ?_) _ _ _ h res hK
  cases t with
  | inl s1 => exact fun b hb res hk => x_r_analyse_49_s d hd (s.1) (s.2) _ res hs (hb res hk)
  | inr b => exact fun res hk => x_r_analyse_49_s d hd (s.1) (s.2) _ res hs hk
def p_r_analyse_35_s (x1 : Int32) (σ : jx_S) : Option ((Int32 × jx_S) ⊕ jx_S) := (if x1 = 0 then (Option.map Sum.inr (p_r_analyse_49 (0 : Int32) σ)) else ((p_r_round σ).bind fun q8 => (some (.inl (q8.1, q8.2)))))
theorem x_r_analyse_35_s (d : Nat) (hd : 6 ≤ d) (x1 : Int32) (σ : jx_S) (t : ((Int32 × jx_S) ⊕ jx_S)) (res : Option Value × jx_S) (h : p_r_analyse_35_s x1 σ = some t) (hK : kk_r_analyse_35 d t res) : jE d 198 35 [(0, .ref 106), (1, .int x1)] [] σ res := by
  unfold p_r_analyse_35_s at h
  refine jE_blk (bs := [(.iload_n 1, 0, 0)]) (i := .ifCond .eq (11)) (a1 := 0) (a2 := 0) (pc1 := 36) (l1 := [(0, .ref 106), (1, .int x1)]) (st1 := [.int x1]) (σ1 := σ) (by decide +kernel) rfl (fun hC => ?_)
  rcases Classical.em (x1 = 0) with hc | hc
  · rw [if_pos hc] at h
    refine jE_ifT 47 hC (by decide) hc ?_
    obtain ⟨t9_7, h9_7, h8_7⟩ := Option.map_eq_some_iff.mp h
    clear h
    subst h8_7
    have h := h9_7
    clear h9_7
    refine jE_blk (bs := [(.iconst (0), 0, 0), (.istore_n 2, 7, 0)]) (i := .iload_n 2) (a1 := 0) (a2 := 0) (pc1 := 49) (l1 := [(2, .int (0 : Int32)), (0, .ref 106), (1, .int x1)]) (st1 := []) (σ1 := σ) (by decide +kernel) rfl (fun hC => ?_)
    exact jE_loc (l := [(0, .ref 106), (2, .int (0 : Int32))]) (ks := [0, 2]) rfl (by decide) ⟨rfl, rfl, trivial⟩ (x_r_analyse_49 d hd (0 : Int32) σ _ res h hK)
  · rw [if_neg hc] at h
    refine jE_ifF 47 hC (by decide) hc ?_
    refine jE_blk (bs := [(.aload_n 0, 0, 0)]) (i := .invokevirtual 454) (a1 := 197) (a2 := 0) (pc1 := 40) (l1 := [(0, .ref 106), (1, .int x1)]) (st1 := [.ref 106]) (σ1 := σ) (by decide +kernel) rfl (fun hC => ?_)
    obtain ⟨q8, hq, h⟩ := Option.bind_eq_some_iff.mp h
    refine jE_call (as := [.ref 106]) (pc1 := 43) (st1 := []) hC rfl (by decide) (by omega) (x_r_round (d - 1) (by omega) σ q8 (some (.int q8.1), q8.2) hq rfl) ?_
    refine jE_blk (bs := [(.istore_n 1, 7, 0), (.goto (-9), 0, 0)]) (i := .iload_n 1) (a1 := 0) (a2 := 0) (pc1 := 35) (l1 := [(1, .int q8.1), (0, .ref 106)]) (st1 := []) (σ1 := q8.2) (by decide +kernel) rfl (fun hC => ?_)
    have h9 := Option.some.inj h
    subst h9
    exact jE_loc (l := [(0, .ref 106), (1, .int q8.1)]) (ks := [0, 1]) rfl (by decide) ⟨rfl, rfl, trivial⟩ hK
def p_r_analyse_35 (x1 : Int32) (σ : jx_S) : Option jx_S := jx_loop 100000000 (fun s => p_r_analyse_35_s s.1 (s.2)) (x1, σ)
theorem x_r_analyse_35 (d : Nat) (hd : 6 ≤ d) (x1 : Int32) (σ : jx_S) (t : jx_S) (res : Option Value × jx_S) (h : p_r_analyse_35 x1 σ = some t) (hK : kkV t res) : jE d 198 35 [(0, .ref 106), (1, .int x1)] [] σ res := by
  refine jx_loop_ok (E := fun s t => ∀ res, kkV t res → jE d 198 35 [(0, .ref 106), (1, .int s.1)] [] s.2 res) (fun s t hs => ?_) _ _ _ h res hK
  cases t with
  | inl s1 => exact fun b hb res hk => x_r_analyse_35_s d hd (s.1) (s.2) _ res hs (hb res hk)
  | inr b => exact fun res hk => x_r_analyse_35_s d hd (s.1) (s.2) _ res hs hk
def p_r_analyse_2_s (x1 : Int32) (σ : jx_S) : Option ((Int32 × jx_S) ⊕ jx_S) := (if (40000 : Int32) ≤ x1 then (Option.map Sum.inr (p_r_analyse_35 (1 : Int32) (jx_i σ 106 39 (0 : Int32)))) else (if x1 < 0 ∨ 40000 ≤ (x1).toNatClampNeg then none else (if x1 < 0 ∨ 40000 ≤ (x1).toNatClampNeg then none else (some (.inl ((x1 + 1), (jx_i (jx_i σ 146 (x1).toNatClampNeg (0 : Int32)) 147 (x1).toNatClampNeg (0 : Int32))))))))
theorem x_r_analyse_2_s (d : Nat) (hd : 6 ≤ d) (x1 : Int32) (σ : jx_S) (t : ((Int32 × jx_S) ⊕ jx_S)) (res : Option Value × jx_S) (h : p_r_analyse_2_s x1 σ = some t) (hK : kk_r_analyse_2 d t res) : jE d 198 2 [(0, .ref 106), (1, .int x1)] [] σ res := by
  unfold p_r_analyse_2_s at h
  refine jE_blk (bs := [(.iload_n 1, 0, 0), (.ldc 132, 40000, 0)]) (i := .if_icmp .ge (23)) (a1 := 0) (a2 := 0) (pc1 := 5) (l1 := [(0, .ref 106), (1, .int x1)]) (st1 := [.int (40000 : Int32), .int x1]) (σ1 := σ) (by decide +kernel) rfl (fun hC => ?_)
  rcases Classical.em ((40000 : Int32) ≤ x1) with hc | hc
  · rw [if_pos hc] at h
    refine jE_icT 28 hC (by decide) hc ?_
    obtain ⟨t9_9, h9_9, h8_9⟩ := Option.map_eq_some_iff.mp h
    clear h
    subst h8_9
    have h := h9_9
    clear h9_9
    refine jE_blk (bs := [(.aload_n 0, 0, 0), (.iconst (0), 0, 0), (.putfield 222, 12, 39), (.iconst (1), 1, 0), (.istore_n 1, 7, 0)]) (i := .iload_n 1) (a1 := 0) (a2 := 0) (pc1 := 35) (l1 := [(1, .int (1 : Int32)), (0, .ref 106)]) (st1 := []) (σ1 := (jx_i σ 106 39 (0 : Int32))) (by decide +kernel) rfl (fun hC => ?_)
    exact jE_loc (l := [(0, .ref 106), (1, .int (1 : Int32))]) (ks := [0, 1]) rfl (by decide) ⟨rfl, rfl, trivial⟩ (x_r_analyse_35 d hd (1 : Int32) (jx_i σ 106 39 (0 : Int32)) _ res h hK)
  · rw [if_neg hc] at h
    refine jE_icF 28 hC (by decide) hc ?_
    refine jE_blk (bs := [(.aload_n 0, 0, 0), (.getfield 133, 12, 57), (.iload_n 1, 0, 0), (.iconst (0), 0, 0)]) (i := .iastore) (a1 := 0) (a2 := 0) (pc1 := 14) (l1 := [(0, .ref 106), (1, .int x1)]) (st1 := [.int (0 : Int32), .int x1, .ref 146]) (σ1 := σ) (by decide +kernel) rfl (fun hC => ?_)
    obtain ⟨hi, h⟩ := jx_ite0_inv h
    refine jE_iast (n := 40000) hC (by decide) rfl hi ?_
    refine jE_blk (bs := [(.aload_n 0, 0, 0), (.getfield 136, 12, 58), (.iload_n 1, 0, 0), (.iconst (0), 0, 0)]) (i := .iastore) (a1 := 0) (a2 := 0) (pc1 := 21) (l1 := [(0, .ref 106), (1, .int x1)]) (st1 := [.int (0 : Int32), .int x1, .ref 147]) (σ1 := (jx_i σ 146 (x1).toNatClampNeg (0 : Int32))) (by decide +kernel) rfl (fun hC => ?_)
    obtain ⟨hi, h⟩ := jx_ite0_inv h
    refine jE_iast (n := 40000) hC (by decide) rfl hi ?_
    refine jE_blk (bs := [(.iinc 1 (1), 7, 2), (.goto (-23), 0, 0)]) (i := .iload_n 1) (a1 := 0) (a2 := 0) (pc1 := 2) (l1 := [(1, .int (x1 + 1)), (0, .ref 106)]) (st1 := []) (σ1 := (jx_i (jx_i σ 146 (x1).toNatClampNeg (0 : Int32)) 147 (x1).toNatClampNeg (0 : Int32))) (by decide +kernel) rfl (fun hC => ?_)
    have h9 := Option.some.inj h
    subst h9
    exact jE_loc (l := [(0, .ref 106), (1, .int (x1 + 1))]) (ks := [0, 1]) rfl (by decide) ⟨rfl, rfl, trivial⟩ hK
def p_r_analyse_2 (x1 : Int32) (σ : jx_S) : Option jx_S := jx_loop 100000000 (fun s => p_r_analyse_2_s s.1 (s.2)) (x1, σ)
theorem x_r_analyse_2 (d : Nat) (hd : 6 ≤ d) (x1 : Int32) (σ : jx_S) (t : jx_S) (res : Option Value × jx_S) (h : p_r_analyse_2 x1 σ = some t) (hK : kkV t res) : jE d 198 2 [(0, .ref 106), (1, .int x1)] [] σ res := by
  refine jx_loop_ok (E := fun s t => ∀ res, kkV t res → jE d 198 2 [(0, .ref 106), (1, .int s.1)] [] s.2 res) (fun s t hs => ?_) _ _ _ h res hK
  cases t with
  | inl s1 => exact fun b hb res hk => x_r_analyse_2_s d hd (s.1) (s.2) _ res hs (hb res hk)
  | inr b => exact fun res hk => x_r_analyse_2_s d hd (s.1) (s.2) _ res hs hk
def p_r_analyse (σ : jx_S) : Option jx_S := (p_r_analyse_2 (0 : Int32) σ)
theorem x_r_analyse (d : Nat) (hd : 6 ≤ d) (σ : jx_S) (t : jx_S) (res : Option Value × jx_S) (h : p_r_analyse σ = some t) (hK : kkV t res) : jE d 198 0 [(0, .ref 106)] [] σ res := by
  unfold p_r_analyse at h
  refine jE_blk (bs := [(.iconst (0), 0, 0), (.istore_n 1, 7, 0)]) (i := .iload_n 1) (a1 := 0) (a2 := 0) (pc1 := 2) (l1 := [(1, .int (0 : Int32)), (0, .ref 106)]) (st1 := []) (σ1 := σ) (by decide +kernel) rfl (fun hC => ?_)
  exact jE_loc (l := [(0, .ref 106), (1, .int (0 : Int32))]) (ks := [0, 1]) rfl (by decide) ⟨rfl, rfl, trivial⟩ (x_r_analyse_2 d hd (0 : Int32) σ _ res h hK)
def p_r_compile_66 (y0 : Int32) (σ : jx_S) : Option (Int32 × jx_S) := (if y0 = 0 ∨ y0 = 1 then (if ¬ y0 = 0 then ((p_r_analyse (jx_i σ 106 3 y0)).bind fun q2 => (some (((q2.1 106 38), q2)))) else (some (((-(σ.1 106 4)), (jx_i (jx_i σ 106 3 y0) 106 38 (0 : Int32)))))) else none)
theorem x_r_compile_66 (d : Nat) (hd : 8 ≤ d) (y0 : Int32) (σ : jx_S) (t : (Int32 × jx_S)) (res : Option Value × jx_S) (h : p_r_compile_66 y0 σ = some t) (hK : kkI t res) : jE d 199 66 [(0, .ref 106)] [.int y0, .ref 106] σ res := by
  unfold p_r_compile_66 at h
  refine jE_blk (bs := []) (i := .putfield 212) (a1 := 12) (a2 := 3) (pc1 := 66) (l1 := [(0, .ref 106)]) (st1 := [.int y0, .ref 106]) (σ1 := σ) (by decide +kernel) rfl (fun hC => ?_)
  obtain ⟨hb, h⟩ := jx_ite_inv h
  refine jE_putz hC (by decide) rfl rfl hb ?_
  refine jE_blk (bs := [(.aload_n 0, 0, 0), (.getfield 212, 12, 3)]) (i := .ifCond .ne (14)) (a1 := 0) (a2 := 0) (pc1 := 73) (l1 := [(0, .ref 106)]) (st1 := [.int y0]) (σ1 := (jx_i σ 106 3 y0)) (by decide +kernel) rfl (fun hC => ?_)
  rcases Classical.em (¬ y0 = 0) with hc | hc
  · rw [if_pos hc] at h
    refine jE_ifT 87 hC (by decide) hc ?_
    refine jE_blk (bs := [(.aload_n 0, 0, 0)]) (i := .invokevirtual 473) (a1 := 198) (a2 := 0) (pc1 := 88) (l1 := [(0, .ref 106)]) (st1 := [.ref 106]) (σ1 := (jx_i σ 106 3 y0)) (by decide +kernel) rfl (fun hC => ?_)
    obtain ⟨q2, hq, h⟩ := Option.bind_eq_some_iff.mp h
    refine jE_call (as := [.ref 106]) (pc1 := 91) (st1 := []) hC rfl (by decide) (by omega) (x_r_analyse (d - 1) (by omega) (jx_i σ 106 3 y0) q2 (none, q2) hq rfl) ?_
    refine jE_blk (bs := [(.aload_n 0, 0, 0), (.getfield 219, 12, 38)]) (i := .ireturn) (a1 := 0) (a2 := 0) (pc1 := 95) (l1 := [(0, .ref 106)]) (st1 := [.int (q2.1 106 38)]) (σ1 := q2) (by decide +kernel) rfl (fun hC => ?_)
    have h9 := Option.some.inj h
    subst h9
    have e9 : ((some (.int (q2.1 106 38)), q2) : Option Value × jx_S) = res := hK
    subst e9
    exact jE_ret hC rfl
  · rw [if_neg hc] at h
    refine jE_ifF 87 hC (by decide) hc ?_
    refine jE_blk (bs := [(.aload_n 0, 0, 0), (.iconst (0), 0, 0), (.putfield 219, 12, 38), (.aload_n 0, 0, 0), (.getfield 216, 12, 4), (.ineg, 0, 0)]) (i := .ireturn) (a1 := 0) (a2 := 0) (pc1 := 86) (l1 := [(0, .ref 106)]) (st1 := [.int (-(σ.1 106 4))]) (σ1 := (jx_i (jx_i σ 106 3 y0) 106 38 (0 : Int32))) (by decide +kernel) rfl (fun hC => ?_)
    have h9 := Option.some.inj h
    subst h9
    have e9 : ((some (.int (-(σ.1 106 4))), (jx_i (jx_i σ 106 3 y0) 106 38 (0 : Int32))) : Option Value × jx_S) = res := hK
    subst e9
    exact jE_ret hC rfl
def p_r_compile_65 (σ : jx_S) : Option (Int32 × jx_S) := (p_r_compile_66 (0 : Int32) σ)
theorem x_r_compile_65 (d : Nat) (hd : 8 ≤ d) (σ : jx_S) (t : (Int32 × jx_S)) (res : Option Value × jx_S) (h : p_r_compile_65 σ = some t) (hK : kkI t res) : jE d 199 65 [(0, .ref 106)] [.ref 106] σ res := by
  unfold p_r_compile_65 at h
  refine jE_blk (bs := [(.iconst (0), 0, 0)]) (i := .putfield 212) (a1 := 12) (a2 := 3) (pc1 := 66) (l1 := [(0, .ref 106)]) (st1 := [.int (0 : Int32), .ref 106]) (σ1 := σ) (by decide +kernel) rfl (fun hC => ?_)
  exact jE_loc (l := [(0, .ref 106)]) (ks := [0]) rfl (by decide) ⟨rfl, trivial⟩ (x_r_compile_66 d hd (0 : Int32) σ _ res h hK)
def p_r_compile (σ : jx_S) : Option (Int32 × jx_S) := ((p_r_scan (jx_i (jx_i (jx_i (jx_i (jx_i σ 106 2 (0 : Int32)) 106 4 (0 : Int32)) 106 5 (-1 : Int32)) 106 38 (0 : Int32)) 106 39 (0 : Int32))).bind fun q1 => (if q1.1 = 0 then (p_r_compile_65 q1.2) else ((p_r_readAll q1.2).bind fun q3 => (if q3.1 = 0 then (p_r_compile_65 q3.2) else ((p_r_sameNames q3.2).bind fun q4 => (if q4.1 = 0 then (p_r_compile_65 q4.2) else ((p_r_types q4.2).bind fun q5 => (if q5.1 = 0 then (p_r_compile_65 q5.2) else ((p_r_countCases q5.2).bind fun q6 => (if q6.1 = 0 then (p_r_compile_65 q6.2) else (p_r_compile_66 (1 : Int32) q6.2)))))))))))
theorem x_r_compile (d : Nat) (hd : 8 ≤ d) (σ : jx_S) (t : (Int32 × jx_S)) (res : Option Value × jx_S) (h : p_r_compile σ = some t) (hK : kkI t res) : jE d 199 0 [(0, .ref 106)] [] σ res := by
  unfold p_r_compile at h
  refine jE_blk (bs := [(.aload_n 0, 0, 0), (.iconst (0), 0, 0), (.putfield 209, 12, 2), (.aload_n 0, 0, 0), (.iconst (0), 0, 0), (.putfield 216, 12, 4), (.aload_n 0, 0, 0), (.iconst (-1), 1, 1), (.putfield 13, 12, 5), (.aload_n 0, 0, 0), (.iconst (0), 0, 0), (.putfield 219, 12, 38), (.aload_n 0, 0, 0), (.iconst (0), 0, 0), (.putfield 222, 12, 39), (.aload_n 0, 0, 0), (.aload_n 0, 0, 0)]) (i := .invokevirtual 458) (a1 := 153) (a2 := 0) (pc1 := 27) (l1 := [(0, .ref 106)]) (st1 := [.ref 106, .ref 106]) (σ1 := (jx_i (jx_i (jx_i (jx_i (jx_i σ 106 2 (0 : Int32)) 106 4 (0 : Int32)) 106 5 (-1 : Int32)) 106 38 (0 : Int32)) 106 39 (0 : Int32))) (by decide +kernel) rfl (fun hC => ?_)
  obtain ⟨q1, hq, h⟩ := Option.bind_eq_some_iff.mp h
  refine jE_call (as := [.ref 106]) (pc1 := 30) (st1 := [.ref 106]) hC rfl (by decide) (by omega) (x_r_scan (d - 1) (by omega) (jx_i (jx_i (jx_i (jx_i (jx_i σ 106 2 (0 : Int32)) 106 4 (0 : Int32)) 106 5 (-1 : Int32)) 106 38 (0 : Int32)) 106 39 (0 : Int32)) q1 (some (.int q1.1), q1.2) hq rfl) ?_
  refine jE_blk (bs := []) (i := .ifCond .eq (35)) (a1 := 0) (a2 := 0) (pc1 := 30) (l1 := [(0, .ref 106)]) (st1 := [.int q1.1, .ref 106]) (σ1 := q1.2) (by decide +kernel) rfl (fun hC => ?_)
  rcases Classical.em (q1.1 = 0) with hc | hc
  · rw [if_pos hc] at h
    refine jE_ifT 65 hC (by decide) hc ?_
    exact jE_loc (l := [(0, .ref 106)]) (ks := [0]) rfl (by decide) ⟨rfl, trivial⟩ (x_r_compile_65 d hd q1.2 _ res h hK)
  · rw [if_neg hc] at h
    refine jE_ifF 65 hC (by decide) hc ?_
    refine jE_blk (bs := [(.aload_n 0, 0, 0)]) (i := .invokevirtual 461) (a1 := 174) (a2 := 0) (pc1 := 34) (l1 := [(0, .ref 106)]) (st1 := [.ref 106, .ref 106]) (σ1 := q1.2) (by decide +kernel) rfl (fun hC => ?_)
    obtain ⟨q3, hq, h⟩ := Option.bind_eq_some_iff.mp h
    refine jE_call (as := [.ref 106]) (pc1 := 37) (st1 := [.ref 106]) hC rfl (by decide) (by omega) (x_r_readAll (d - 1) (by omega) q1.2 q3 (some (.int q3.1), q3.2) hq rfl) ?_
    refine jE_blk (bs := []) (i := .ifCond .eq (28)) (a1 := 0) (a2 := 0) (pc1 := 37) (l1 := [(0, .ref 106)]) (st1 := [.int q3.1, .ref 106]) (σ1 := q3.2) (by decide +kernel) rfl (fun hC => ?_)
    rcases Classical.em (q3.1 = 0) with hc | hc
    · rw [if_pos hc] at h
      refine jE_ifT 65 hC (by decide) hc ?_
      exact jE_loc (l := [(0, .ref 106)]) (ks := [0]) rfl (by decide) ⟨rfl, trivial⟩ (x_r_compile_65 d hd q3.2 _ res h hK)
    · rw [if_neg hc] at h
      refine jE_ifF 65 hC (by decide) hc ?_
      refine jE_blk (bs := [(.aload_n 0, 0, 0)]) (i := .invokevirtual 464) (a1 := 175) (a2 := 0) (pc1 := 41) (l1 := [(0, .ref 106)]) (st1 := [.ref 106, .ref 106]) (σ1 := q3.2) (by decide +kernel) rfl (fun hC => ?_)
      obtain ⟨q4, hq, h⟩ := Option.bind_eq_some_iff.mp h
      refine jE_call (as := [.ref 106]) (pc1 := 44) (st1 := [.ref 106]) hC rfl (by decide) (by omega) (x_r_sameNames (d - 1) (by omega) q3.2 q4 (some (.int q4.1), q4.2) hq rfl) ?_
      refine jE_blk (bs := []) (i := .ifCond .eq (21)) (a1 := 0) (a2 := 0) (pc1 := 44) (l1 := [(0, .ref 106)]) (st1 := [.int q4.1, .ref 106]) (σ1 := q4.2) (by decide +kernel) rfl (fun hC => ?_)
      rcases Classical.em (q4.1 = 0) with hc | hc
      · rw [if_pos hc] at h
        refine jE_ifT 65 hC (by decide) hc ?_
        exact jE_loc (l := [(0, .ref 106)]) (ks := [0]) rfl (by decide) ⟨rfl, trivial⟩ (x_r_compile_65 d hd q4.2 _ res h hK)
      · rw [if_neg hc] at h
        refine jE_ifF 65 hC (by decide) hc ?_
        refine jE_blk (bs := [(.aload_n 0, 0, 0)]) (i := .invokevirtual 467) (a1 := 180) (a2 := 0) (pc1 := 48) (l1 := [(0, .ref 106)]) (st1 := [.ref 106, .ref 106]) (σ1 := q4.2) (by decide +kernel) rfl (fun hC => ?_)
        obtain ⟨q5, hq, h⟩ := Option.bind_eq_some_iff.mp h
        refine jE_call (as := [.ref 106]) (pc1 := 51) (st1 := [.ref 106]) hC rfl (by decide) (by omega) (x_r_types (d - 1) (by omega) q4.2 q5 (some (.int q5.1), q5.2) hq rfl) ?_
        refine jE_blk (bs := []) (i := .ifCond .eq (14)) (a1 := 0) (a2 := 0) (pc1 := 51) (l1 := [(0, .ref 106)]) (st1 := [.int q5.1, .ref 106]) (σ1 := q5.2) (by decide +kernel) rfl (fun hC => ?_)
        rcases Classical.em (q5.1 = 0) with hc | hc
        · rw [if_pos hc] at h
          refine jE_ifT 65 hC (by decide) hc ?_
          exact jE_loc (l := [(0, .ref 106)]) (ks := [0]) rfl (by decide) ⟨rfl, trivial⟩ (x_r_compile_65 d hd q5.2 _ res h hK)
        · rw [if_neg hc] at h
          refine jE_ifF 65 hC (by decide) hc ?_
          refine jE_blk (bs := [(.aload_n 0, 0, 0)]) (i := .invokevirtual 470) (a1 := 187) (a2 := 0) (pc1 := 55) (l1 := [(0, .ref 106)]) (st1 := [.ref 106, .ref 106]) (σ1 := q5.2) (by decide +kernel) rfl (fun hC => ?_)
          obtain ⟨q6, hq, h⟩ := Option.bind_eq_some_iff.mp h
          refine jE_call (as := [.ref 106]) (pc1 := 58) (st1 := [.ref 106]) hC rfl (by decide) (by omega) (x_r_countCases (d - 1) (by omega) q5.2 q6 (some (.int q6.1), q6.2) hq rfl) ?_
          refine jE_blk (bs := []) (i := .ifCond .eq (7)) (a1 := 0) (a2 := 0) (pc1 := 58) (l1 := [(0, .ref 106)]) (st1 := [.int q6.1, .ref 106]) (σ1 := q6.2) (by decide +kernel) rfl (fun hC => ?_)
          rcases Classical.em (q6.1 = 0) with hc | hc
          · rw [if_pos hc] at h
            refine jE_ifT 65 hC (by decide) hc ?_
            exact jE_loc (l := [(0, .ref 106)]) (ks := [0]) rfl (by decide) ⟨rfl, trivial⟩ (x_r_compile_65 d hd q6.2 _ res h hK)
          · rw [if_neg hc] at h
            refine jE_ifF 65 hC (by decide) hc ?_
            refine jE_blk (bs := [(.iconst (1), 1, 0), (.goto (4), 0, 0)]) (i := .putfield 212) (a1 := 12) (a2 := 3) (pc1 := 66) (l1 := [(0, .ref 106)]) (st1 := [.int (1 : Int32), .ref 106]) (σ1 := q6.2) (by decide +kernel) rfl (fun hC => ?_)
            exact jE_loc (l := [(0, .ref 106)]) (ks := [0]) rfl (by decide) ⟨rfl, trivial⟩ (x_r_compile_66 d hd (1 : Int32) q6.2 _ res h hK)
def p_r_place (σ : jx_S) : Option (Int32 × jx_S) := (some (((σ.1 106 5), (jx_i σ 106 2 (0 : Int32)))))
theorem x_r_place (d : Nat) (hd : 0 ≤ d) (σ : jx_S) (t : (Int32 × jx_S)) (res : Option Value × jx_S) (h : p_r_place σ = some t) (hK : kkI t res) : jE d 200 0 [(0, .ref 106)] [] σ res := by
  unfold p_r_place at h
  refine jE_blk (bs := [(.aload_n 0, 0, 0), (.iconst (0), 0, 0), (.putfield 209, 12, 2), (.aload_n 0, 0, 0), (.getfield 13, 12, 5)]) (i := .ireturn) (a1 := 0) (a2 := 0) (pc1 := 9) (l1 := [(0, .ref 106)]) (st1 := [.int (σ.1 106 5)]) (σ1 := (jx_i σ 106 2 (0 : Int32))) (by decide +kernel) rfl (fun hC => ?_)
  have h9 := Option.some.inj h
  subst h9
  have e9 : ((some (.int (σ.1 106 5)), (jx_i σ 106 2 (0 : Int32))) : Option Value × jx_S) = res := hK
  subst e9
  exact jE_ret hC rfl
def p_r_functions (σ : jx_S) : Option (Int32 × jx_S) := (some (((σ.1 106 38), (jx_i σ 106 2 (0 : Int32)))))
theorem x_r_functions (d : Nat) (hd : 0 ≤ d) (σ : jx_S) (t : (Int32 × jx_S)) (res : Option Value × jx_S) (h : p_r_functions σ = some t) (hK : kkI t res) : jE d 201 0 [(0, .ref 106)] [] σ res := by
  unfold p_r_functions at h
  refine jE_blk (bs := [(.aload_n 0, 0, 0), (.iconst (0), 0, 0), (.putfield 209, 12, 2), (.aload_n 0, 0, 0), (.getfield 219, 12, 38)]) (i := .ireturn) (a1 := 0) (a2 := 0) (pc1 := 9) (l1 := [(0, .ref 106)]) (st1 := [.int (σ.1 106 38)]) (σ1 := (jx_i σ 106 2 (0 : Int32))) (by decide +kernel) rfl (fun hC => ?_)
  have h9 := Option.some.inj h
  subst h9
  have e9 : ((some (.int (σ.1 106 38)), (jx_i σ 106 2 (0 : Int32))) : Option Value × jx_S) = res := hK
  subst e9
  exact jE_ret hC rfl
def kk_r_function2_73 (d : Nat) (t : ((Int32 × Int32 × Int32 × Int32 × Int32 × jx_S) ⊕ (Int32 × jx_S))) (res : Option Value × jx_S) : Prop := match t with
  | .inl s => jE d 203 73 [(0, .ref 106), (1, .int s.1), (2, .int s.2.1), (3, .int s.2.2.1), (4, .int s.2.2.2.1), (5, .int s.2.2.2.2.1)] [] s.2.2.2.2.2 res
  | .inr t => kkI t res
def p_r_function2_107 (x1 : Int32) (x2 : Int32) (x4 : Int32) (x5 : Int32) (y0 : Int32) (y1 : Int32) (σ : jx_S) : Option ((Int32 × Int32 × Int32 × Int32 × Int32 × jx_S) ⊕ (Int32 × jx_S)) := (some (.inl (x1, x2, (y1 + y0), x4, (x5 + 1), σ)))
theorem x_r_function2_107 (d : Nat) (hd : 1 ≤ d) (x1 : Int32) (x2 : Int32) (x4 : Int32) (x5 : Int32) (y0 : Int32) (y1 : Int32) (σ : jx_S) (t : ((Int32 × Int32 × Int32 × Int32 × Int32 × jx_S) ⊕ (Int32 × jx_S))) (res : Option Value × jx_S) (h : p_r_function2_107 x1 x2 x4 x5 y0 y1 σ = some t) (hK : kk_r_function2_73 d t res) : jE d 203 107 [(0, .ref 106), (1, .int x1), (2, .int x2), (4, .int x4), (5, .int x5)] [.int y0, .int y1] σ res := by
  unfold p_r_function2_107 at h
  refine jE_blk (bs := [(.iadd, 0, 0), (.istore_n 3, 6, 0), (.iinc 5 (1), 6, 2), (.goto (-39), 0, 0)]) (i := .iload 5) (a1 := 0) (a2 := 0) (pc1 := 73) (l1 := [(5, .int (x5 + 1)), (3, .int (y1 + y0)), (0, .ref 106), (1, .int x1), (2, .int x2), (4, .int x4)]) (st1 := []) (σ1 := σ) (by decide +kernel) rfl (fun hC => ?_)
  have h9 := Option.some.inj h
  subst h9
  exact jE_loc (l := [(0, .ref 106), (1, .int x1), (2, .int x2), (3, .int (y1 + y0)), (4, .int x4), (5, .int (x5 + 1))]) (ks := [0, 1, 2, 3, 4, 5]) rfl (by decide) ⟨rfl, rfl, rfl, rfl, rfl, rfl, trivial⟩ hK
def p_r_function2_106 (x1 : Int32) (x2 : Int32) (x4 : Int32) (x5 : Int32) (y0 : Int32) (σ : jx_S) : Option ((Int32 × Int32 × Int32 × Int32 × Int32 × jx_S) ⊕ (Int32 × jx_S)) := (p_r_function2_107 x1 x2 x4 x5 (0 : Int32) y0 σ)
theorem x_r_function2_106 (d : Nat) (hd : 1 ≤ d) (x1 : Int32) (x2 : Int32) (x4 : Int32) (x5 : Int32) (y0 : Int32) (σ : jx_S) (t : ((Int32 × Int32 × Int32 × Int32 × Int32 × jx_S) ⊕ (Int32 × jx_S))) (res : Option Value × jx_S) (h : p_r_function2_106 x1 x2 x4 x5 y0 σ = some t) (hK : kk_r_function2_73 d t res) : jE d 203 106 [(0, .ref 106), (1, .int x1), (2, .int x2), (4, .int x4), (5, .int x5)] [.int y0] σ res := by
  unfold p_r_function2_106 at h
  refine jE_blk (bs := [(.iconst (0), 0, 0)]) (i := .iadd) (a1 := 0) (a2 := 0) (pc1 := 107) (l1 := [(0, .ref 106), (1, .int x1), (2, .int x2), (4, .int x4), (5, .int x5)]) (st1 := [.int (0 : Int32), .int y0]) (σ1 := σ) (by decide +kernel) rfl (fun hC => ?_)
  exact jE_loc (l := [(0, .ref 106), (1, .int x1), (2, .int x2), (4, .int x4), (5, .int x5)]) (ks := [0, 1, 2, 4, 5]) rfl (by decide) ⟨rfl, rfl, rfl, rfl, rfl, trivial⟩ (x_r_function2_107 d hd x1 x2 x4 x5 (0 : Int32) y0 σ _ res h hK)
def p_r_function2_73_s (x1 : Int32) (x2 : Int32) (x3 : Int32) (x4 : Int32) (x5 : Int32) (σ : jx_S) : Option ((Int32 × Int32 × Int32 × Int32 × Int32 × jx_S) ⊕ (Int32 × jx_S)) := (if x4 ≤ x5 then (Option.map Sum.inr (if x2 = 0 then (if x1 < 0 ∨ 40 ≤ (x1).toNatClampNeg then none else (some ((((σ.1 127) (x1).toNatClampNeg), σ)))) else (if x2 = 1 then (if x1 < 0 ∨ 40 ≤ (x1).toNatClampNeg then none else (some ((((σ.1 128) (x1).toNatClampNeg), σ)))) else (if x2 = 2 then (if x1 < 0 ∨ 40 ≤ (x1).toNatClampNeg then none else (some ((((σ.1 133) (x1).toNatClampNeg), σ)))) else (if x2 = 3 then (if x1 < 0 ∨ 40 ≤ (x1).toNatClampNeg then none else (some ((((σ.1 129) (x1).toNatClampNeg), σ)))) else (if x2 = 4 then (if x1 < 0 ∨ 40 ≤ (x1).toNatClampNeg then none else (some ((((σ.1 130) (x1).toNatClampNeg), σ)))) else (if x2 = 5 then (some ((x3, σ))) else (if x1 < 0 ∨ 40 ≤ (x1).toNatClampNeg then none else (if ((σ.1 126) (x1).toNatClampNeg) < 0 ∨ 1202 ≤ (((σ.1 126) (x1).toNatClampNeg)).toNatClampNeg then none else (some ((((σ.1 109) (((σ.1 126) (x1).toNatClampNeg)).toNatClampNeg), σ)))))))))))) else (if x5 < 0 ∨ 3000 ≤ (x5).toNatClampNeg then none else (if ¬ ((σ.1 112) (x5).toNatClampNeg) = (5 : Int32) then (p_r_function2_106 x1 x2 x4 x5 x3 σ) else (if x5 < 0 ∨ 3000 ≤ (x5).toNatClampNeg then none else (if ((σ.1 125) (x5).toNatClampNeg) = 0 then (p_r_function2_106 x1 x2 x4 x5 x3 σ) else (p_r_function2_107 x1 x2 x4 x5 (1 : Int32) x3 σ))))))
theorem x_r_function2_73_s (d : Nat) (hd : 1 ≤ d) (x1 : Int32) (x2 : Int32) (x3 : Int32) (x4 : Int32) (x5 : Int32) (σ : jx_S) (t : ((Int32 × Int32 × Int32 × Int32 × Int32 × jx_S) ⊕ (Int32 × jx_S))) (res : Option Value × jx_S) (h : p_r_function2_73_s x1 x2 x3 x4 x5 σ = some t) (hK : kk_r_function2_73 d t res) : jE d 203 73 [(0, .ref 106), (1, .int x1), (2, .int x2), (3, .int x3), (4, .int x4), (5, .int x5)] [] σ res := by
  unfold p_r_function2_73_s at h
  refine jE_blk (bs := [(.iload 5, 0, 0), (.iload 4, 0, 0)]) (i := .if_icmp .ge (38)) (a1 := 0) (a2 := 0) (pc1 := 77) (l1 := [(0, .ref 106), (1, .int x1), (2, .int x2), (3, .int x3), (4, .int x4), (5, .int x5)]) (st1 := [.int x4, .int x5]) (σ1 := σ) (by decide +kernel) rfl (fun hC => ?_)
  rcases Classical.em (x4 ≤ x5) with hc | hc
  · rw [if_pos hc] at h
    refine jE_icT 115 hC (by decide) hc ?_
    obtain ⟨t9_1, h9_1, h8_1⟩ := Option.map_eq_some_iff.mp h
    clear h
    subst h8_1
    have h := h9_1
    clear h9_1
    refine jE_blk (bs := [(.iload_n 2, 0, 0)]) (i := .tableswitch (77) (0) (5) #[40, 47, 54, 61, 68, 75]) (a1 := 0) (a2 := 0) (pc1 := 116) (l1 := [(0, .ref 106), (1, .int x1), (2, .int x2), (3, .int x3), (4, .int x4), (5, .int x5)]) (st1 := [.int x2]) (σ1 := σ) (by decide +kernel) rfl (fun hC => ?_)
    rcases Classical.em (x2 = 0) with hc0 | hc0
    · rw [if_pos hc0] at h
      refine jE_tsw 156 0 hC hc0 (by decide +kernel) ?_
      refine jE_blk (bs := [(.aload_n 0, 0, 0), (.getfield 75, 12, 27), (.iload_n 1, 0, 0)]) (i := .iaload) (a1 := 0) (a2 := 0) (pc1 := 161) (l1 := [(0, .ref 106), (1, .int x1), (2, .int x2), (3, .int x3), (4, .int x4), (5, .int x5)]) (st1 := [.int x1, .ref 127]) (σ1 := σ) (by decide +kernel) rfl (fun hC => ?_)
      obtain ⟨hi, h⟩ := jx_ite0_inv h
      refine jE_iald (n := 40) hC (by decide) rfl hi ?_
      refine jE_blk (bs := []) (i := .ireturn) (a1 := 0) (a2 := 0) (pc1 := 162) (l1 := [(0, .ref 106), (1, .int x1), (2, .int x2), (3, .int x3), (4, .int x4), (5, .int x5)]) (st1 := [.int ((σ.1 127) (x1).toNatClampNeg)]) (σ1 := σ) (by decide +kernel) rfl (fun hC => ?_)
      have h9 := Option.some.inj h
      subst h9
      have e9 : ((some (.int ((σ.1 127) (x1).toNatClampNeg)), σ) : Option Value × jx_S) = res := hK
      subst e9
      exact jE_ret hC rfl
    · rw [if_neg hc0] at h
      rcases Classical.em (x2 = 1) with hc1 | hc1
      · rw [if_pos hc1] at h
        refine jE_tsw 163 1 hC hc1 (by decide +kernel) ?_
        refine jE_blk (bs := [(.aload_n 0, 0, 0), (.getfield 78, 12, 28), (.iload_n 1, 0, 0)]) (i := .iaload) (a1 := 0) (a2 := 0) (pc1 := 168) (l1 := [(0, .ref 106), (1, .int x1), (2, .int x2), (3, .int x3), (4, .int x4), (5, .int x5)]) (st1 := [.int x1, .ref 128]) (σ1 := σ) (by decide +kernel) rfl (fun hC => ?_)
        obtain ⟨hi, h⟩ := jx_ite0_inv h
        refine jE_iald (n := 40) hC (by decide) rfl hi ?_
        refine jE_blk (bs := []) (i := .ireturn) (a1 := 0) (a2 := 0) (pc1 := 169) (l1 := [(0, .ref 106), (1, .int x1), (2, .int x2), (3, .int x3), (4, .int x4), (5, .int x5)]) (st1 := [.int ((σ.1 128) (x1).toNatClampNeg)]) (σ1 := σ) (by decide +kernel) rfl (fun hC => ?_)
        have h9 := Option.some.inj h
        subst h9
        have e9 : ((some (.int ((σ.1 128) (x1).toNatClampNeg)), σ) : Option Value × jx_S) = res := hK
        subst e9
        exact jE_ret hC rfl
      · rw [if_neg hc1] at h
        rcases Classical.em (x2 = 2) with hc2 | hc2
        · rw [if_pos hc2] at h
          refine jE_tsw 170 2 hC hc2 (by decide +kernel) ?_
          refine jE_blk (bs := [(.aload_n 0, 0, 0), (.getfield 93, 12, 33), (.iload_n 1, 0, 0)]) (i := .iaload) (a1 := 0) (a2 := 0) (pc1 := 175) (l1 := [(0, .ref 106), (1, .int x1), (2, .int x2), (3, .int x3), (4, .int x4), (5, .int x5)]) (st1 := [.int x1, .ref 133]) (σ1 := σ) (by decide +kernel) rfl (fun hC => ?_)
          obtain ⟨hi, h⟩ := jx_ite0_inv h
          refine jE_iald (n := 40) hC (by decide) rfl hi ?_
          refine jE_blk (bs := []) (i := .ireturn) (a1 := 0) (a2 := 0) (pc1 := 176) (l1 := [(0, .ref 106), (1, .int x1), (2, .int x2), (3, .int x3), (4, .int x4), (5, .int x5)]) (st1 := [.int ((σ.1 133) (x1).toNatClampNeg)]) (σ1 := σ) (by decide +kernel) rfl (fun hC => ?_)
          have h9 := Option.some.inj h
          subst h9
          have e9 : ((some (.int ((σ.1 133) (x1).toNatClampNeg)), σ) : Option Value × jx_S) = res := hK
          subst e9
          exact jE_ret hC rfl
        · rw [if_neg hc2] at h
          rcases Classical.em (x2 = 3) with hc3 | hc3
          · rw [if_pos hc3] at h
            refine jE_tsw 177 3 hC hc3 (by decide +kernel) ?_
            refine jE_blk (bs := [(.aload_n 0, 0, 0), (.getfield 81, 12, 29), (.iload_n 1, 0, 0)]) (i := .iaload) (a1 := 0) (a2 := 0) (pc1 := 182) (l1 := [(0, .ref 106), (1, .int x1), (2, .int x2), (3, .int x3), (4, .int x4), (5, .int x5)]) (st1 := [.int x1, .ref 129]) (σ1 := σ) (by decide +kernel) rfl (fun hC => ?_)
            obtain ⟨hi, h⟩ := jx_ite0_inv h
            refine jE_iald (n := 40) hC (by decide) rfl hi ?_
            refine jE_blk (bs := []) (i := .ireturn) (a1 := 0) (a2 := 0) (pc1 := 183) (l1 := [(0, .ref 106), (1, .int x1), (2, .int x2), (3, .int x3), (4, .int x4), (5, .int x5)]) (st1 := [.int ((σ.1 129) (x1).toNatClampNeg)]) (σ1 := σ) (by decide +kernel) rfl (fun hC => ?_)
            have h9 := Option.some.inj h
            subst h9
            have e9 : ((some (.int ((σ.1 129) (x1).toNatClampNeg)), σ) : Option Value × jx_S) = res := hK
            subst e9
            exact jE_ret hC rfl
          · rw [if_neg hc3] at h
            rcases Classical.em (x2 = 4) with hc4 | hc4
            · rw [if_pos hc4] at h
              refine jE_tsw 184 4 hC hc4 (by decide +kernel) ?_
              refine jE_blk (bs := [(.aload_n 0, 0, 0), (.getfield 84, 12, 30), (.iload_n 1, 0, 0)]) (i := .iaload) (a1 := 0) (a2 := 0) (pc1 := 189) (l1 := [(0, .ref 106), (1, .int x1), (2, .int x2), (3, .int x3), (4, .int x4), (5, .int x5)]) (st1 := [.int x1, .ref 130]) (σ1 := σ) (by decide +kernel) rfl (fun hC => ?_)
              obtain ⟨hi, h⟩ := jx_ite0_inv h
              refine jE_iald (n := 40) hC (by decide) rfl hi ?_
              refine jE_blk (bs := []) (i := .ireturn) (a1 := 0) (a2 := 0) (pc1 := 190) (l1 := [(0, .ref 106), (1, .int x1), (2, .int x2), (3, .int x3), (4, .int x4), (5, .int x5)]) (st1 := [.int ((σ.1 130) (x1).toNatClampNeg)]) (σ1 := σ) (by decide +kernel) rfl (fun hC => ?_)
              have h9 := Option.some.inj h
              subst h9
              have e9 : ((some (.int ((σ.1 130) (x1).toNatClampNeg)), σ) : Option Value × jx_S) = res := hK
              subst e9
              exact jE_ret hC rfl
            · rw [if_neg hc4] at h
              rcases Classical.em (x2 = 5) with hc5 | hc5
              · rw [if_pos hc5] at h
                refine jE_tsw 191 5 hC hc5 (by decide +kernel) ?_
                refine jE_blk (bs := [(.iload_n 3, 0, 0)]) (i := .ireturn) (a1 := 0) (a2 := 0) (pc1 := 192) (l1 := [(0, .ref 106), (1, .int x1), (2, .int x2), (3, .int x3), (4, .int x4), (5, .int x5)]) (st1 := [.int x3]) (σ1 := σ) (by decide +kernel) rfl (fun hC => ?_)
                have h9 := Option.some.inj h
                subst h9
                have e9 : ((some (.int x3), σ) : Option Value × jx_S) = res := hK
                subst e9
                exact jE_ret hC rfl
              · rw [if_neg hc5] at h
                refine jE_tswD 193 [0, 1, 2, 3, 4, 5] hC (by decide +kernel) ⟨hc0, hc1, hc2, hc3, hc4, hc5, trivial⟩ ?_
                refine jE_blk (bs := [(.aload_n 0, 0, 0), (.getfield 20, 12, 7), (.aload_n 0, 0, 0), (.getfield 72, 12, 26), (.iload_n 1, 0, 0)]) (i := .iaload) (a1 := 0) (a2 := 0) (pc1 := 202) (l1 := [(0, .ref 106), (1, .int x1), (2, .int x2), (3, .int x3), (4, .int x4), (5, .int x5)]) (st1 := [.int x1, .ref 126, .ref 109]) (σ1 := σ) (by decide +kernel) rfl (fun hC => ?_)
                obtain ⟨hi, h⟩ := jx_ite0_inv h
                refine jE_iald (n := 40) hC (by decide) rfl hi ?_
                refine jE_blk (bs := []) (i := .iaload) (a1 := 0) (a2 := 0) (pc1 := 203) (l1 := [(0, .ref 106), (1, .int x1), (2, .int x2), (3, .int x3), (4, .int x4), (5, .int x5)]) (st1 := [.int ((σ.1 126) (x1).toNatClampNeg), .ref 109]) (σ1 := σ) (by decide +kernel) rfl (fun hC => ?_)
                obtain ⟨hi, h⟩ := jx_ite0_inv h
                refine jE_iald (n := 1202) hC (by decide) rfl hi ?_
                refine jE_blk (bs := []) (i := .ireturn) (a1 := 0) (a2 := 0) (pc1 := 204) (l1 := [(0, .ref 106), (1, .int x1), (2, .int x2), (3, .int x3), (4, .int x4), (5, .int x5)]) (st1 := [.int ((σ.1 109) (((σ.1 126) (x1).toNatClampNeg)).toNatClampNeg)]) (σ1 := σ) (by decide +kernel) rfl (fun hC => ?_)
                have h9 := Option.some.inj h
                subst h9
                have e9 : ((some (.int ((σ.1 109) (((σ.1 126) (x1).toNatClampNeg)).toNatClampNeg)), σ) : Option Value × jx_S) = res := hK
                subst e9
                exact jE_ret hC rfl
  · rw [if_neg hc] at h
    refine jE_icF 115 hC (by decide) hc ?_
    refine jE_blk (bs := [(.iload_n 3, 0, 0), (.aload_n 0, 0, 0), (.getfield 29, 12, 11), (.iload 5, 0, 0)]) (i := .iaload) (a1 := 0) (a2 := 0) (pc1 := 87) (l1 := [(0, .ref 106), (1, .int x1), (2, .int x2), (3, .int x3), (4, .int x4), (5, .int x5)]) (st1 := [.int x5, .ref 112, .int x3]) (σ1 := σ) (by decide +kernel) rfl (fun hC => ?_)
    obtain ⟨hi, h⟩ := jx_ite0_inv h
    refine jE_iald (n := 3000) hC (by decide) rfl hi ?_
    refine jE_blk (bs := [(.iconst (5), 5, 0)]) (i := .if_icmp .ne (17)) (a1 := 0) (a2 := 0) (pc1 := 89) (l1 := [(0, .ref 106), (1, .int x1), (2, .int x2), (3, .int x3), (4, .int x4), (5, .int x5)]) (st1 := [.int (5 : Int32), .int ((σ.1 112) (x5).toNatClampNeg), .int x3]) (σ1 := σ) (by decide +kernel) rfl (fun hC => ?_)
    rcases Classical.em (¬ ((σ.1 112) (x5).toNatClampNeg) = (5 : Int32)) with hc | hc
    · rw [if_pos hc] at h
      refine jE_icT 106 hC (by decide) hc ?_
      exact jE_loc (l := [(0, .ref 106), (1, .int x1), (2, .int x2), (4, .int x4), (5, .int x5)]) (ks := [0, 1, 2, 4, 5]) rfl (by decide) ⟨rfl, rfl, rfl, rfl, rfl, trivial⟩ (x_r_function2_106 d hd x1 x2 x4 x5 x3 σ _ res h hK)
    · rw [if_neg hc] at h
      refine jE_icF 106 hC (by decide) hc ?_
      refine jE_blk (bs := [(.aload_n 0, 0, 0), (.getfield 68, 12, 24), (.iload 5, 0, 0)]) (i := .baload) (a1 := 0) (a2 := 0) (pc1 := 98) (l1 := [(0, .ref 106), (1, .int x1), (2, .int x2), (3, .int x3), (4, .int x4), (5, .int x5)]) (st1 := [.int x5, .ref 125, .int x3]) (σ1 := σ) (by decide +kernel) rfl (fun hC => ?_)
      obtain ⟨hi, h⟩ := jx_ite0_inv h
      refine jE_bald (n := 3000) hC (by decide) rfl hi ?_
      refine jE_blk (bs := []) (i := .ifCond .eq (7)) (a1 := 0) (a2 := 0) (pc1 := 99) (l1 := [(0, .ref 106), (1, .int x1), (2, .int x2), (3, .int x3), (4, .int x4), (5, .int x5)]) (st1 := [.int ((σ.1 125) (x5).toNatClampNeg), .int x3]) (σ1 := σ) (by decide +kernel) rfl (fun hC => ?_)
      rcases Classical.em (((σ.1 125) (x5).toNatClampNeg) = 0) with hc | hc
      · rw [if_pos hc] at h
        refine jE_ifT 106 hC (by decide) hc ?_
        exact jE_loc (l := [(0, .ref 106), (1, .int x1), (2, .int x2), (4, .int x4), (5, .int x5)]) (ks := [0, 1, 2, 4, 5]) rfl (by decide) ⟨rfl, rfl, rfl, rfl, rfl, trivial⟩ (x_r_function2_106 d hd x1 x2 x4 x5 x3 σ _ res h hK)
      · rw [if_neg hc] at h
        refine jE_ifF 106 hC (by decide) hc ?_
        refine jE_blk (bs := [(.iconst (1), 1, 0), (.goto (4), 0, 0)]) (i := .iadd) (a1 := 0) (a2 := 0) (pc1 := 107) (l1 := [(0, .ref 106), (1, .int x1), (2, .int x2), (3, .int x3), (4, .int x4), (5, .int x5)]) (st1 := [.int (1 : Int32), .int x3]) (σ1 := σ) (by decide +kernel) rfl (fun hC => ?_)
        exact jE_loc (l := [(0, .ref 106), (1, .int x1), (2, .int x2), (4, .int x4), (5, .int x5)]) (ks := [0, 1, 2, 4, 5]) rfl (by decide) ⟨rfl, rfl, rfl, rfl, rfl, trivial⟩ (x_r_function2_107 d hd x1 x2 x4 x5 (1 : Int32) x3 σ _ res h hK)
def p_r_function2_73 (x1 : Int32) (x2 : Int32) (x3 : Int32) (x4 : Int32) (x5 : Int32) (σ : jx_S) : Option (Int32 × jx_S) := jx_loop 100000000 (fun s => p_r_function2_73_s s.1 s.2.1 s.2.2.1 s.2.2.2.1 s.2.2.2.2.1 (s.2.2.2.2.2)) (x1, x2, x3, x4, x5, σ)
theorem x_r_function2_73 (d : Nat) (hd : 1 ≤ d) (x1 : Int32) (x2 : Int32) (x3 : Int32) (x4 : Int32) (x5 : Int32) (σ : jx_S) (t : (Int32 × jx_S)) (res : Option Value × jx_S) (h : p_r_function2_73 x1 x2 x3 x4 x5 σ = some t) (hK : kkI t res) : jE d 203 73 [(0, .ref 106), (1, .int x1), (2, .int x2), (3, .int x3), (4, .int x4), (5, .int x5)] [] σ res := by
  refine jx_loop_ok (E := fun s t => ∀ res, kkI t res → jE d 203 73 [(0, .ref 106), (1, .int s.1), (2, .int s.2.1), (3, .int s.2.2.1), (4, .int s.2.2.2.1), (5, .int s.2.2.2.2.1)] [] s.2.2.2.2.2 res) (fun s t hs => ?_) _ _ _ h res hK
  cases t with
  | inl s1 => exact fun b hb res hk => x_r_function2_73_s d hd (s.1) (s.2.1) (s.2.2.1) (s.2.2.2.1) (s.2.2.2.2.1) (s.2.2.2.2.2) _ res hs (hb res hk)
  | inr b => exact fun res hk => x_r_function2_73_s d hd (s.1) (s.2.1) (s.2.2.1) (s.2.2.2.1) (s.2.2.2.2.1) (s.2.2.2.2.2) _ res hs hk
def p_r_function2_63 (x1 : Int32) (x2 : Int32) (x3 : Int32) (y0 : Int32) (σ : jx_S) : Option (Int32 × jx_S) := (if x1 < 0 ∨ 40 ≤ (x1).toNatClampNeg then none else (p_r_function2_73 x1 x2 x3 y0 ((σ.1 132) (x1).toNatClampNeg) σ))
theorem x_r_function2_63 (d : Nat) (hd : 1 ≤ d) (x1 : Int32) (x2 : Int32) (x3 : Int32) (y0 : Int32) (σ : jx_S) (t : (Int32 × jx_S)) (res : Option Value × jx_S) (h : p_r_function2_63 x1 x2 x3 y0 σ = some t) (hK : kkI t res) : jE d 203 63 [(0, .ref 106), (1, .int x1), (2, .int x2), (3, .int x3)] [.int y0] σ res := by
  unfold p_r_function2_63 at h
  refine jE_blk (bs := [(.istore 4, 6, 0), (.aload_n 0, 0, 0), (.getfield 90, 12, 32), (.iload_n 1, 0, 0)]) (i := .iaload) (a1 := 0) (a2 := 0) (pc1 := 70) (l1 := [(4, .int y0), (0, .ref 106), (1, .int x1), (2, .int x2), (3, .int x3)]) (st1 := [.int x1, .ref 132]) (σ1 := σ) (by decide +kernel) rfl (fun hC => ?_)
  obtain ⟨hi, h⟩ := jx_ite0_inv h
  refine jE_iald (n := 40) hC (by decide) rfl hi ?_
  refine jE_blk (bs := [(.istore 5, 6, 0)]) (i := .iload 5) (a1 := 0) (a2 := 0) (pc1 := 73) (l1 := [(5, .int ((σ.1 132) (x1).toNatClampNeg)), (4, .int y0), (0, .ref 106), (1, .int x1), (2, .int x2), (3, .int x3)]) (st1 := []) (σ1 := σ) (by decide +kernel) rfl (fun hC => ?_)
  exact jE_loc (l := [(0, .ref 106), (1, .int x1), (2, .int x2), (3, .int x3), (4, .int y0), (5, .int ((σ.1 132) (x1).toNatClampNeg))]) (ks := [0, 1, 2, 3, 4, 5]) rfl (by decide) ⟨rfl, rfl, rfl, rfl, rfl, rfl, trivial⟩ (x_r_function2_73 d hd x1 x2 x3 y0 ((σ.1 132) (x1).toNatClampNeg) σ _ res h hK)
def p_r_function2_24 (x1 : Int32) (x2 : Int32) (y0 : Int32) (σ : jx_S) : Option (Int32 × jx_S) := (if y0 ≤ 0 then (if (σ.1 106 38) ≤ (x1 + (1 : Int32)) then (p_r_function2_63 x1 x2 (0 : Int32) (σ.1 106 25) (jx_i σ 106 2 y0)) else (if (x1 + (1 : Int32)) < 0 ∨ 40 ≤ ((x1 + (1 : Int32))).toNatClampNeg then none else (p_r_function2_63 x1 x2 (0 : Int32) ((σ.1 132) ((x1 + (1 : Int32))).toNatClampNeg) (jx_i σ 106 2 y0)))) else (some (((0 : Int32), (jx_i σ 106 2 y0)))))
theorem x_r_function2_24 (d : Nat) (hd : 1 ≤ d) (x1 : Int32) (x2 : Int32) (y0 : Int32) (σ : jx_S) (t : (Int32 × jx_S)) (res : Option Value × jx_S) (h : p_r_function2_24 x1 x2 y0 σ = some t) (hK : kkI t res) : jE d 203 24 [(0, .ref 106), (1, .int x1), (2, .int x2)] [.int y0, .ref 106] σ res := by
  unfold p_r_function2_24 at h
  refine jE_blk (bs := [(.putfield 209, 12, 2), (.aload_n 0, 0, 0), (.getfield 209, 12, 2)]) (i := .ifCond .le (5)) (a1 := 0) (a2 := 0) (pc1 := 31) (l1 := [(0, .ref 106), (1, .int x1), (2, .int x2)]) (st1 := [.int y0]) (σ1 := (jx_i σ 106 2 y0)) (by decide +kernel) rfl (fun hC => ?_)
  rcases Classical.em (y0 ≤ 0) with hc | hc
  · rw [if_pos hc] at h
    refine jE_ifT 36 hC (by decide) hc ?_
    refine jE_blk (bs := [(.iconst (0), 0, 0), (.istore_n 3, 6, 0), (.iload_n 1, 0, 0), (.iconst (1), 1, 0), (.iadd, 0, 0), (.aload_n 0, 0, 0), (.getfield 219, 12, 38)]) (i := .if_icmp .ge (14)) (a1 := 0) (a2 := 0) (pc1 := 45) (l1 := [(3, .int (0 : Int32)), (0, .ref 106), (1, .int x1), (2, .int x2)]) (st1 := [.int (σ.1 106 38), .int (x1 + (1 : Int32))]) (σ1 := (jx_i σ 106 2 y0)) (by decide +kernel) rfl (fun hC => ?_)
    rcases Classical.em ((σ.1 106 38) ≤ (x1 + (1 : Int32))) with hc | hc
    · rw [if_pos hc] at h
      refine jE_icT 59 hC (by decide) hc ?_
      refine jE_blk (bs := [(.aload_n 0, 0, 0), (.getfield 329, 12, 25)]) (i := .istore 4) (a1 := 6) (a2 := 0) (pc1 := 63) (l1 := [(3, .int (0 : Int32)), (0, .ref 106), (1, .int x1), (2, .int x2)]) (st1 := [.int (σ.1 106 25)]) (σ1 := (jx_i σ 106 2 y0)) (by decide +kernel) rfl (fun hC => ?_)
      exact jE_loc (l := [(0, .ref 106), (1, .int x1), (2, .int x2), (3, .int (0 : Int32))]) (ks := [0, 1, 2, 3]) rfl (by decide) ⟨rfl, rfl, rfl, rfl, trivial⟩ (x_r_function2_63 d hd x1 x2 (0 : Int32) (σ.1 106 25) (jx_i σ 106 2 y0) _ res h hK)
    · rw [if_neg hc] at h
      refine jE_icF 59 hC (by decide) hc ?_
      refine jE_blk (bs := [(.aload_n 0, 0, 0), (.getfield 90, 12, 32), (.iload_n 1, 0, 0), (.iconst (1), 1, 0), (.iadd, 0, 0)]) (i := .iaload) (a1 := 0) (a2 := 0) (pc1 := 55) (l1 := [(3, .int (0 : Int32)), (0, .ref 106), (1, .int x1), (2, .int x2)]) (st1 := [.int (x1 + (1 : Int32)), .ref 132]) (σ1 := (jx_i σ 106 2 y0)) (by decide +kernel) rfl (fun hC => ?_)
      obtain ⟨hi, h⟩ := jx_ite0_inv h
      refine jE_iald (n := 40) hC (by decide) rfl hi ?_
      refine jE_blk (bs := [(.goto (7), 0, 0)]) (i := .istore 4) (a1 := 6) (a2 := 0) (pc1 := 63) (l1 := [(3, .int (0 : Int32)), (0, .ref 106), (1, .int x1), (2, .int x2)]) (st1 := [.int ((σ.1 132) ((x1 + (1 : Int32))).toNatClampNeg)]) (σ1 := (jx_i σ 106 2 y0)) (by decide +kernel) rfl (fun hC => ?_)
      exact jE_loc (l := [(0, .ref 106), (1, .int x1), (2, .int x2), (3, .int (0 : Int32))]) (ks := [0, 1, 2, 3]) rfl (by decide) ⟨rfl, rfl, rfl, rfl, trivial⟩ (x_r_function2_63 d hd x1 x2 (0 : Int32) ((σ.1 132) ((x1 + (1 : Int32))).toNatClampNeg) (jx_i σ 106 2 y0) _ res h hK)
  · rw [if_neg hc] at h
    refine jE_ifF 36 hC (by decide) hc ?_
    refine jE_blk (bs := [(.iconst (0), 0, 0)]) (i := .ireturn) (a1 := 0) (a2 := 0) (pc1 := 35) (l1 := [(0, .ref 106), (1, .int x1), (2, .int x2)]) (st1 := [.int (0 : Int32)]) (σ1 := (jx_i σ 106 2 y0)) (by decide +kernel) rfl (fun hC => ?_)
    have h9 := Option.some.inj h
    subst h9
    have e9 : ((some (.int (0 : Int32)), (jx_i σ 106 2 y0)) : Option Value × jx_S) = res := hK
    subst e9
    exact jE_ret hC rfl
def p_r_function2_19 (x1 : Int32) (x2 : Int32) (σ : jx_S) : Option (Int32 × jx_S) := (p_r_function2_24 x1 x2 (1 : Int32) σ)
theorem x_r_function2_19 (d : Nat) (hd : 1 ≤ d) (x1 : Int32) (x2 : Int32) (σ : jx_S) (t : (Int32 × jx_S)) (res : Option Value × jx_S) (h : p_r_function2_19 x1 x2 σ = some t) (hK : kkI t res) : jE d 203 19 [(0, .ref 106), (1, .int x1), (2, .int x2)] [.ref 106] σ res := by
  unfold p_r_function2_19 at h
  refine jE_blk (bs := [(.iconst (1), 1, 0), (.goto (4), 0, 0)]) (i := .putfield 209) (a1 := 12) (a2 := 2) (pc1 := 24) (l1 := [(0, .ref 106), (1, .int x1), (2, .int x2)]) (st1 := [.int (1 : Int32), .ref 106]) (σ1 := σ) (by decide +kernel) rfl (fun hC => ?_)
  exact jE_loc (l := [(0, .ref 106), (1, .int x1), (2, .int x2)]) (ks := [0, 1, 2]) rfl (by decide) ⟨rfl, rfl, rfl, trivial⟩ (x_r_function2_24 d hd x1 x2 (1 : Int32) σ _ res h hK)
def p_r_function2 (x1 : Int32) (x2 : Int32) (σ : jx_S) : Option (Int32 × jx_S) := (if ¬ (v_r_noFunction x1 σ) = 0 then (p_r_function2_19 x1 x2 σ) else (if x2 < 0 then (p_r_function2_19 x1 x2 σ) else (if x2 ≤ (6 : Int32) then (p_r_function2_24 x1 x2 (0 : Int32) σ) else (p_r_function2_19 x1 x2 σ))))
theorem x_r_function2 (d : Nat) (hd : 1 ≤ d) (x1 : Int32) (x2 : Int32) (σ : jx_S) (t : (Int32 × jx_S)) (res : Option Value × jx_S) (h : p_r_function2 x1 x2 σ = some t) (hK : kkI t res) : jE d 203 0 [(0, .ref 106), (1, .int x1), (2, .int x2)] [] σ res := by
  unfold p_r_function2 at h
  refine jE_blk (bs := [(.aload_n 0, 0, 0), (.aload_n 0, 0, 0), (.iload_n 1, 0, 0)]) (i := .invokevirtual 476) (a1 := 202) (a2 := 0) (pc1 := 3) (l1 := [(0, .ref 106), (1, .int x1), (2, .int x2)]) (st1 := [.int x1, .ref 106, .ref 106]) (σ1 := σ) (by decide +kernel) rfl (fun hC => ?_)
  refine jE_call (as := [.ref 106, .int x1]) (pc1 := 6) (st1 := [.ref 106]) hC rfl (by decide) (by omega) (xv_r_noFunction (d - 1) (by omega) x1 σ) ?_
  refine jE_blk (bs := []) (i := .ifCond .ne (13)) (a1 := 0) (a2 := 0) (pc1 := 6) (l1 := [(0, .ref 106), (1, .int x1), (2, .int x2)]) (st1 := [.int (v_r_noFunction x1 σ), .ref 106]) (σ1 := σ) (by decide +kernel) rfl (fun hC => ?_)
  rcases Classical.em (¬ (v_r_noFunction x1 σ) = 0) with hc | hc
  · rw [if_pos hc] at h
    refine jE_ifT 19 hC (by decide) hc ?_
    exact jE_loc (l := [(0, .ref 106), (1, .int x1), (2, .int x2)]) (ks := [0, 1, 2]) rfl (by decide) ⟨rfl, rfl, rfl, trivial⟩ (x_r_function2_19 d hd x1 x2 σ _ res h hK)
  · rw [if_neg hc] at h
    refine jE_ifF 19 hC (by decide) hc ?_
    refine jE_blk (bs := [(.iload_n 2, 0, 0)]) (i := .ifCond .lt (9)) (a1 := 0) (a2 := 0) (pc1 := 10) (l1 := [(0, .ref 106), (1, .int x1), (2, .int x2)]) (st1 := [.int x2, .ref 106]) (σ1 := σ) (by decide +kernel) rfl (fun hC => ?_)
    rcases Classical.em (x2 < 0) with hc | hc
    · rw [if_pos hc] at h
      refine jE_ifT 19 hC (by decide) hc ?_
      exact jE_loc (l := [(0, .ref 106), (1, .int x1), (2, .int x2)]) (ks := [0, 1, 2]) rfl (by decide) ⟨rfl, rfl, rfl, trivial⟩ (x_r_function2_19 d hd x1 x2 σ _ res h hK)
    · rw [if_neg hc] at h
      refine jE_ifF 19 hC (by decide) hc ?_
      refine jE_blk (bs := [(.iload_n 2, 0, 0), (.bipush (6), 6, 0)]) (i := .if_icmp .le (7)) (a1 := 0) (a2 := 0) (pc1 := 16) (l1 := [(0, .ref 106), (1, .int x1), (2, .int x2)]) (st1 := [.int (6 : Int32), .int x2, .ref 106]) (σ1 := σ) (by decide +kernel) rfl (fun hC => ?_)
      rcases Classical.em (x2 ≤ (6 : Int32)) with hc | hc
      · rw [if_pos hc] at h
        refine jE_icT 23 hC (by decide) hc ?_
        refine jE_blk (bs := [(.iconst (0), 0, 0)]) (i := .putfield 209) (a1 := 12) (a2 := 2) (pc1 := 24) (l1 := [(0, .ref 106), (1, .int x1), (2, .int x2)]) (st1 := [.int (0 : Int32), .ref 106]) (σ1 := σ) (by decide +kernel) rfl (fun hC => ?_)
        exact jE_loc (l := [(0, .ref 106), (1, .int x1), (2, .int x2)]) (ks := [0, 1, 2]) rfl (by decide) ⟨rfl, rfl, rfl, trivial⟩ (x_r_function2_24 d hd x1 x2 (0 : Int32) σ _ res h hK)
      · rw [if_neg hc] at h
        refine jE_icF 23 hC (by decide) hc ?_
        exact jE_loc (l := [(0, .ref 106), (1, .int x1), (2, .int x2)]) (ks := [0, 1, 2]) rfl (by decide) ⟨rfl, rfl, rfl, trivial⟩ (x_r_function2_19 d hd x1 x2 σ _ res h hK)
def p_r_parameter3_37 (x1 : Int32) (x2 : Int32) (x3 : Int32) (y0 : Int32) (σ : jx_S) : Option (Int32 × jx_S) := (if y0 ≤ 0 then (if ¬ x3 = 0 then (if (((8 : Int32) * x1) + x2) < 0 ∨ 320 ≤ ((((8 : Int32) * x1) + x2)).toNatClampNeg then none else (if ((σ.1 136) ((((8 : Int32) * x1) + x2)).toNatClampNeg) = 0 then (some (((0 : Int32), (jx_i σ 106 2 y0)))) else (some (((1 : Int32), (jx_i σ 106 2 y0)))))) else (if (((8 : Int32) * x1) + x2) < 0 ∨ 320 ≤ ((((8 : Int32) * x1) + x2)).toNatClampNeg then none else (some ((((σ.1 135) ((((8 : Int32) * x1) + x2)).toNatClampNeg), (jx_i σ 106 2 y0)))))) else (some (((0 : Int32), (jx_i σ 106 2 y0)))))
theorem x_r_parameter3_37 (d : Nat) (hd : 1 ≤ d) (x1 : Int32) (x2 : Int32) (x3 : Int32) (y0 : Int32) (σ : jx_S) (t : (Int32 × jx_S)) (res : Option Value × jx_S) (h : p_r_parameter3_37 x1 x2 x3 y0 σ = some t) (hK : kkI t res) : jE d 204 37 [(0, .ref 106), (1, .int x1), (2, .int x2), (3, .int x3)] [.int y0, .ref 106] σ res := by
  unfold p_r_parameter3_37 at h
  refine jE_blk (bs := [(.putfield 209, 12, 2), (.aload_n 0, 0, 0), (.getfield 209, 12, 2)]) (i := .ifCond .le (5)) (a1 := 0) (a2 := 0) (pc1 := 44) (l1 := [(0, .ref 106), (1, .int x1), (2, .int x2), (3, .int x3)]) (st1 := [.int y0]) (σ1 := (jx_i σ 106 2 y0)) (by decide +kernel) rfl (fun hC => ?_)
  rcases Classical.em (y0 ≤ 0) with hc | hc
  · rw [if_pos hc] at h
    refine jE_ifT 49 hC (by decide) hc ?_
    refine jE_blk (bs := [(.iload_n 3, 0, 0)]) (i := .ifCond .ne (17)) (a1 := 0) (a2 := 0) (pc1 := 50) (l1 := [(0, .ref 106), (1, .int x1), (2, .int x2), (3, .int x3)]) (st1 := [.int x3]) (σ1 := (jx_i σ 106 2 y0)) (by decide +kernel) rfl (fun hC => ?_)
    rcases Classical.em (¬ x3 = 0) with hc | hc
    · rw [if_pos hc] at h
      refine jE_ifT 67 hC (by decide) hc ?_
      refine jE_blk (bs := [(.aload_n 0, 0, 0), (.getfield 102, 12, 36), (.bipush (8), 8, 0), (.iload_n 1, 0, 0), (.imul, 0, 0), (.iload_n 2, 0, 0), (.iadd, 0, 0)]) (i := .baload) (a1 := 0) (a2 := 0) (pc1 := 77) (l1 := [(0, .ref 106), (1, .int x1), (2, .int x2), (3, .int x3)]) (st1 := [.int (((8 : Int32) * x1) + x2), .ref 136]) (σ1 := (jx_i σ 106 2 y0)) (by decide +kernel) rfl (fun hC => ?_)
      obtain ⟨hi, h⟩ := jx_ite0_inv h
      refine jE_bald (n := 320) hC (by decide) rfl hi ?_
      refine jE_blk (bs := []) (i := .ifCond .eq (7)) (a1 := 0) (a2 := 0) (pc1 := 78) (l1 := [(0, .ref 106), (1, .int x1), (2, .int x2), (3, .int x3)]) (st1 := [.int ((σ.1 136) ((((8 : Int32) * x1) + x2)).toNatClampNeg)]) (σ1 := (jx_i σ 106 2 y0)) (by decide +kernel) rfl (fun hC => ?_)
      rcases Classical.em (((σ.1 136) ((((8 : Int32) * x1) + x2)).toNatClampNeg) = 0) with hc | hc
      · rw [if_pos hc] at h
        refine jE_ifT 85 hC (by decide) hc ?_
        refine jE_blk (bs := [(.iconst (0), 0, 0)]) (i := .ireturn) (a1 := 0) (a2 := 0) (pc1 := 86) (l1 := [(0, .ref 106), (1, .int x1), (2, .int x2), (3, .int x3)]) (st1 := [.int (0 : Int32)]) (σ1 := (jx_i σ 106 2 y0)) (by decide +kernel) rfl (fun hC => ?_)
        have h9 := Option.some.inj h
        subst h9
        have e9 : ((some (.int (0 : Int32)), (jx_i σ 106 2 y0)) : Option Value × jx_S) = res := hK
        subst e9
        exact jE_ret hC rfl
      · rw [if_neg hc] at h
        refine jE_ifF 85 hC (by decide) hc ?_
        refine jE_blk (bs := [(.iconst (1), 1, 0), (.goto (4), 0, 0)]) (i := .ireturn) (a1 := 0) (a2 := 0) (pc1 := 86) (l1 := [(0, .ref 106), (1, .int x1), (2, .int x2), (3, .int x3)]) (st1 := [.int (1 : Int32)]) (σ1 := (jx_i σ 106 2 y0)) (by decide +kernel) rfl (fun hC => ?_)
        have h9 := Option.some.inj h
        subst h9
        have e9 : ((some (.int (1 : Int32)), (jx_i σ 106 2 y0)) : Option Value × jx_S) = res := hK
        subst e9
        exact jE_ret hC rfl
    · rw [if_neg hc] at h
      refine jE_ifF 67 hC (by decide) hc ?_
      refine jE_blk (bs := [(.aload_n 0, 0, 0), (.getfield 99, 12, 35), (.bipush (8), 8, 0), (.iload_n 1, 0, 0), (.imul, 0, 0), (.iload_n 2, 0, 0), (.iadd, 0, 0)]) (i := .iaload) (a1 := 0) (a2 := 0) (pc1 := 63) (l1 := [(0, .ref 106), (1, .int x1), (2, .int x2), (3, .int x3)]) (st1 := [.int (((8 : Int32) * x1) + x2), .ref 135]) (σ1 := (jx_i σ 106 2 y0)) (by decide +kernel) rfl (fun hC => ?_)
      obtain ⟨hi, h⟩ := jx_ite0_inv h
      refine jE_iald (n := 320) hC (by decide) rfl hi ?_
      refine jE_blk (bs := [(.goto (22), 0, 0)]) (i := .ireturn) (a1 := 0) (a2 := 0) (pc1 := 86) (l1 := [(0, .ref 106), (1, .int x1), (2, .int x2), (3, .int x3)]) (st1 := [.int ((σ.1 135) ((((8 : Int32) * x1) + x2)).toNatClampNeg)]) (σ1 := (jx_i σ 106 2 y0)) (by decide +kernel) rfl (fun hC => ?_)
      have h9 := Option.some.inj h
      subst h9
      have e9 : ((some (.int ((σ.1 135) ((((8 : Int32) * x1) + x2)).toNatClampNeg)), (jx_i σ 106 2 y0)) : Option Value × jx_S) = res := hK
      subst e9
      exact jE_ret hC rfl
  · rw [if_neg hc] at h
    refine jE_ifF 49 hC (by decide) hc ?_
    refine jE_blk (bs := [(.iconst (0), 0, 0)]) (i := .ireturn) (a1 := 0) (a2 := 0) (pc1 := 48) (l1 := [(0, .ref 106), (1, .int x1), (2, .int x2), (3, .int x3)]) (st1 := [.int (0 : Int32)]) (σ1 := (jx_i σ 106 2 y0)) (by decide +kernel) rfl (fun hC => ?_)
    have h9 := Option.some.inj h
    subst h9
    have e9 : ((some (.int (0 : Int32)), (jx_i σ 106 2 y0)) : Option Value × jx_S) = res := hK
    subst e9
    exact jE_ret hC rfl
def p_r_parameter3_32 (x1 : Int32) (x2 : Int32) (x3 : Int32) (σ : jx_S) : Option (Int32 × jx_S) := (p_r_parameter3_37 x1 x2 x3 (1 : Int32) σ)
theorem x_r_parameter3_32 (d : Nat) (hd : 1 ≤ d) (x1 : Int32) (x2 : Int32) (x3 : Int32) (σ : jx_S) (t : (Int32 × jx_S)) (res : Option Value × jx_S) (h : p_r_parameter3_32 x1 x2 x3 σ = some t) (hK : kkI t res) : jE d 204 32 [(0, .ref 106), (1, .int x1), (2, .int x2), (3, .int x3)] [.ref 106] σ res := by
  unfold p_r_parameter3_32 at h
  refine jE_blk (bs := [(.iconst (1), 1, 0), (.goto (4), 0, 0)]) (i := .putfield 209) (a1 := 12) (a2 := 2) (pc1 := 37) (l1 := [(0, .ref 106), (1, .int x1), (2, .int x2), (3, .int x3)]) (st1 := [.int (1 : Int32), .ref 106]) (σ1 := σ) (by decide +kernel) rfl (fun hC => ?_)
  exact jE_loc (l := [(0, .ref 106), (1, .int x1), (2, .int x2), (3, .int x3)]) (ks := [0, 1, 2, 3]) rfl (by decide) ⟨rfl, rfl, rfl, rfl, trivial⟩ (x_r_parameter3_37 d hd x1 x2 x3 (1 : Int32) σ _ res h hK)
def p_r_parameter3 (x1 : Int32) (x2 : Int32) (x3 : Int32) (σ : jx_S) : Option (Int32 × jx_S) := (if ¬ (v_r_noFunction x1 σ) = 0 then (p_r_parameter3_32 x1 x2 x3 σ) else (if x2 < 0 then (p_r_parameter3_32 x1 x2 x3 σ) else (if x1 < 0 ∨ 40 ≤ (x1).toNatClampNeg then none else (if ((σ.1 127) (x1).toNatClampNeg) ≤ x2 then (p_r_parameter3_32 x1 x2 x3 σ) else (if x3 < 0 then (p_r_parameter3_32 x1 x2 x3 σ) else (if x3 ≤ (1 : Int32) then (p_r_parameter3_37 x1 x2 x3 (0 : Int32) σ) else (p_r_parameter3_32 x1 x2 x3 σ)))))))
theorem x_r_parameter3 (d : Nat) (hd : 1 ≤ d) (x1 : Int32) (x2 : Int32) (x3 : Int32) (σ : jx_S) (t : (Int32 × jx_S)) (res : Option Value × jx_S) (h : p_r_parameter3 x1 x2 x3 σ = some t) (hK : kkI t res) : jE d 204 0 [(0, .ref 106), (1, .int x1), (2, .int x2), (3, .int x3)] [] σ res := by
  unfold p_r_parameter3 at h
  refine jE_blk (bs := [(.aload_n 0, 0, 0), (.aload_n 0, 0, 0), (.iload_n 1, 0, 0)]) (i := .invokevirtual 476) (a1 := 202) (a2 := 0) (pc1 := 3) (l1 := [(0, .ref 106), (1, .int x1), (2, .int x2), (3, .int x3)]) (st1 := [.int x1, .ref 106, .ref 106]) (σ1 := σ) (by decide +kernel) rfl (fun hC => ?_)
  refine jE_call (as := [.ref 106, .int x1]) (pc1 := 6) (st1 := [.ref 106]) hC rfl (by decide) (by omega) (xv_r_noFunction (d - 1) (by omega) x1 σ) ?_
  refine jE_blk (bs := []) (i := .ifCond .ne (26)) (a1 := 0) (a2 := 0) (pc1 := 6) (l1 := [(0, .ref 106), (1, .int x1), (2, .int x2), (3, .int x3)]) (st1 := [.int (v_r_noFunction x1 σ), .ref 106]) (σ1 := σ) (by decide +kernel) rfl (fun hC => ?_)
  rcases Classical.em (¬ (v_r_noFunction x1 σ) = 0) with hc | hc
  · rw [if_pos hc] at h
    refine jE_ifT 32 hC (by decide) hc ?_
    exact jE_loc (l := [(0, .ref 106), (1, .int x1), (2, .int x2), (3, .int x3)]) (ks := [0, 1, 2, 3]) rfl (by decide) ⟨rfl, rfl, rfl, rfl, trivial⟩ (x_r_parameter3_32 d hd x1 x2 x3 σ _ res h hK)
  · rw [if_neg hc] at h
    refine jE_ifF 32 hC (by decide) hc ?_
    refine jE_blk (bs := [(.iload_n 2, 0, 0)]) (i := .ifCond .lt (22)) (a1 := 0) (a2 := 0) (pc1 := 10) (l1 := [(0, .ref 106), (1, .int x1), (2, .int x2), (3, .int x3)]) (st1 := [.int x2, .ref 106]) (σ1 := σ) (by decide +kernel) rfl (fun hC => ?_)
    rcases Classical.em (x2 < 0) with hc | hc
    · rw [if_pos hc] at h
      refine jE_ifT 32 hC (by decide) hc ?_
      exact jE_loc (l := [(0, .ref 106), (1, .int x1), (2, .int x2), (3, .int x3)]) (ks := [0, 1, 2, 3]) rfl (by decide) ⟨rfl, rfl, rfl, rfl, trivial⟩ (x_r_parameter3_32 d hd x1 x2 x3 σ _ res h hK)
    · rw [if_neg hc] at h
      refine jE_ifF 32 hC (by decide) hc ?_
      refine jE_blk (bs := [(.iload_n 2, 0, 0), (.aload_n 0, 0, 0), (.getfield 75, 12, 27), (.iload_n 1, 0, 0)]) (i := .iaload) (a1 := 0) (a2 := 0) (pc1 := 19) (l1 := [(0, .ref 106), (1, .int x1), (2, .int x2), (3, .int x3)]) (st1 := [.int x1, .ref 127, .int x2, .ref 106]) (σ1 := σ) (by decide +kernel) rfl (fun hC => ?_)
      obtain ⟨hi, h⟩ := jx_ite0_inv h
      refine jE_iald (n := 40) hC (by decide) rfl hi ?_
      refine jE_blk (bs := []) (i := .if_icmp .ge (12)) (a1 := 0) (a2 := 0) (pc1 := 20) (l1 := [(0, .ref 106), (1, .int x1), (2, .int x2), (3, .int x3)]) (st1 := [.int ((σ.1 127) (x1).toNatClampNeg), .int x2, .ref 106]) (σ1 := σ) (by decide +kernel) rfl (fun hC => ?_)
      rcases Classical.em (((σ.1 127) (x1).toNatClampNeg) ≤ x2) with hc | hc
      · rw [if_pos hc] at h
        refine jE_icT 32 hC (by decide) hc ?_
        exact jE_loc (l := [(0, .ref 106), (1, .int x1), (2, .int x2), (3, .int x3)]) (ks := [0, 1, 2, 3]) rfl (by decide) ⟨rfl, rfl, rfl, rfl, trivial⟩ (x_r_parameter3_32 d hd x1 x2 x3 σ _ res h hK)
      · rw [if_neg hc] at h
        refine jE_icF 32 hC (by decide) hc ?_
        refine jE_blk (bs := [(.iload_n 3, 0, 0)]) (i := .ifCond .lt (8)) (a1 := 0) (a2 := 0) (pc1 := 24) (l1 := [(0, .ref 106), (1, .int x1), (2, .int x2), (3, .int x3)]) (st1 := [.int x3, .ref 106]) (σ1 := σ) (by decide +kernel) rfl (fun hC => ?_)
        rcases Classical.em (x3 < 0) with hc | hc
        · rw [if_pos hc] at h
          refine jE_ifT 32 hC (by decide) hc ?_
          exact jE_loc (l := [(0, .ref 106), (1, .int x1), (2, .int x2), (3, .int x3)]) (ks := [0, 1, 2, 3]) rfl (by decide) ⟨rfl, rfl, rfl, rfl, trivial⟩ (x_r_parameter3_32 d hd x1 x2 x3 σ _ res h hK)
        · rw [if_neg hc] at h
          refine jE_ifF 32 hC (by decide) hc ?_
          refine jE_blk (bs := [(.iload_n 3, 0, 0), (.iconst (1), 1, 0)]) (i := .if_icmp .le (7)) (a1 := 0) (a2 := 0) (pc1 := 29) (l1 := [(0, .ref 106), (1, .int x1), (2, .int x2), (3, .int x3)]) (st1 := [.int (1 : Int32), .int x3, .ref 106]) (σ1 := σ) (by decide +kernel) rfl (fun hC => ?_)
          rcases Classical.em (x3 ≤ (1 : Int32)) with hc | hc
          · rw [if_pos hc] at h
            refine jE_icT 36 hC (by decide) hc ?_
            refine jE_blk (bs := [(.iconst (0), 0, 0)]) (i := .putfield 209) (a1 := 12) (a2 := 2) (pc1 := 37) (l1 := [(0, .ref 106), (1, .int x1), (2, .int x2), (3, .int x3)]) (st1 := [.int (0 : Int32), .ref 106]) (σ1 := σ) (by decide +kernel) rfl (fun hC => ?_)
            exact jE_loc (l := [(0, .ref 106), (1, .int x1), (2, .int x2), (3, .int x3)]) (ks := [0, 1, 2, 3]) rfl (by decide) ⟨rfl, rfl, rfl, rfl, trivial⟩ (x_r_parameter3_37 d hd x1 x2 x3 (0 : Int32) σ _ res h hK)
          · rw [if_neg hc] at h
            refine jE_icF 36 hC (by decide) hc ?_
            exact jE_loc (l := [(0, .ref 106), (1, .int x1), (2, .int x2), (3, .int x3)]) (ks := [0, 1, 2, 3]) rfl (by decide) ⟨rfl, rfl, rfl, rfl, trivial⟩ (x_r_parameter3_32 d hd x1 x2 x3 σ _ res h hK)
def p_r_value_28 (x1 : Int32) (x2 : Int32) (y0 : Int32) (σ : jx_S) : Option (Int32 × jx_S) := (if y0 ≤ 0 then (if (((1000 : Int32) * x1) + x2) < 0 ∨ 40000 ≤ ((((1000 : Int32) * x1) + x2)).toNatClampNeg then none else (some ((((σ.1 146) ((((1000 : Int32) * x1) + x2)).toNatClampNeg), (jx_i σ 106 2 y0))))) else (some (((0 : Int32), (jx_i σ 106 2 y0)))))
theorem x_r_value_28 (d : Nat) (hd : 1 ≤ d) (x1 : Int32) (x2 : Int32) (y0 : Int32) (σ : jx_S) (t : (Int32 × jx_S)) (res : Option Value × jx_S) (h : p_r_value_28 x1 x2 y0 σ = some t) (hK : kkI t res) : jE d 205 28 [(0, .ref 106), (1, .int x1), (2, .int x2)] [.int y0, .ref 106] σ res := by
  unfold p_r_value_28 at h
  refine jE_blk (bs := [(.putfield 209, 12, 2), (.aload_n 0, 0, 0), (.getfield 209, 12, 2)]) (i := .ifCond .le (7)) (a1 := 0) (a2 := 0) (pc1 := 35) (l1 := [(0, .ref 106), (1, .int x1), (2, .int x2)]) (st1 := [.int y0]) (σ1 := (jx_i σ 106 2 y0)) (by decide +kernel) rfl (fun hC => ?_)
  rcases Classical.em (y0 ≤ 0) with hc | hc
  · rw [if_pos hc] at h
    refine jE_ifT 42 hC (by decide) hc ?_
    refine jE_blk (bs := [(.aload_n 0, 0, 0), (.getfield 133, 12, 57), (.sipush (1000), 1000, 0), (.iload_n 1, 0, 0), (.imul, 0, 0), (.iload_n 2, 0, 0), (.iadd, 0, 0)]) (i := .iaload) (a1 := 0) (a2 := 0) (pc1 := 53) (l1 := [(0, .ref 106), (1, .int x1), (2, .int x2)]) (st1 := [.int (((1000 : Int32) * x1) + x2), .ref 146]) (σ1 := (jx_i σ 106 2 y0)) (by decide +kernel) rfl (fun hC => ?_)
    obtain ⟨hi, h⟩ := jx_ite0_inv h
    refine jE_iald (n := 40000) hC (by decide) rfl hi ?_
    refine jE_blk (bs := []) (i := .ireturn) (a1 := 0) (a2 := 0) (pc1 := 54) (l1 := [(0, .ref 106), (1, .int x1), (2, .int x2)]) (st1 := [.int ((σ.1 146) ((((1000 : Int32) * x1) + x2)).toNatClampNeg)]) (σ1 := (jx_i σ 106 2 y0)) (by decide +kernel) rfl (fun hC => ?_)
    have h9 := Option.some.inj h
    subst h9
    have e9 : ((some (.int ((σ.1 146) ((((1000 : Int32) * x1) + x2)).toNatClampNeg)), (jx_i σ 106 2 y0)) : Option Value × jx_S) = res := hK
    subst e9
    exact jE_ret hC rfl
  · rw [if_neg hc] at h
    refine jE_ifF 42 hC (by decide) hc ?_
    refine jE_blk (bs := [(.iconst (0), 0, 0), (.goto (15), 0, 0)]) (i := .ireturn) (a1 := 0) (a2 := 0) (pc1 := 54) (l1 := [(0, .ref 106), (1, .int x1), (2, .int x2)]) (st1 := [.int (0 : Int32)]) (σ1 := (jx_i σ 106 2 y0)) (by decide +kernel) rfl (fun hC => ?_)
    have h9 := Option.some.inj h
    subst h9
    have e9 : ((some (.int (0 : Int32)), (jx_i σ 106 2 y0)) : Option Value × jx_S) = res := hK
    subst e9
    exact jE_ret hC rfl
def p_r_value_23 (x1 : Int32) (x2 : Int32) (σ : jx_S) : Option (Int32 × jx_S) := (p_r_value_28 x1 x2 (1 : Int32) σ)
theorem x_r_value_23 (d : Nat) (hd : 1 ≤ d) (x1 : Int32) (x2 : Int32) (σ : jx_S) (t : (Int32 × jx_S)) (res : Option Value × jx_S) (h : p_r_value_23 x1 x2 σ = some t) (hK : kkI t res) : jE d 205 23 [(0, .ref 106), (1, .int x1), (2, .int x2)] [.ref 106] σ res := by
  unfold p_r_value_23 at h
  refine jE_blk (bs := [(.iconst (1), 1, 0), (.goto (4), 0, 0)]) (i := .putfield 209) (a1 := 12) (a2 := 2) (pc1 := 28) (l1 := [(0, .ref 106), (1, .int x1), (2, .int x2)]) (st1 := [.int (1 : Int32), .ref 106]) (σ1 := σ) (by decide +kernel) rfl (fun hC => ?_)
  exact jE_loc (l := [(0, .ref 106), (1, .int x1), (2, .int x2)]) (ks := [0, 1, 2]) rfl (by decide) ⟨rfl, rfl, rfl, trivial⟩ (x_r_value_28 d hd x1 x2 (1 : Int32) σ _ res h hK)
def p_r_value (x1 : Int32) (x2 : Int32) (σ : jx_S) : Option (Int32 × jx_S) := (if ¬ (v_r_noFunction x1 σ) = 0 then (p_r_value_23 x1 x2 σ) else (if x2 < 0 then (p_r_value_23 x1 x2 σ) else (if x1 < 0 ∨ 40 ≤ (x1).toNatClampNeg then none else (if x2 < ((σ.1 133) (x1).toNatClampNeg) then (p_r_value_28 x1 x2 (0 : Int32) σ) else (p_r_value_23 x1 x2 σ)))))
theorem x_r_value (d : Nat) (hd : 1 ≤ d) (x1 : Int32) (x2 : Int32) (σ : jx_S) (t : (Int32 × jx_S)) (res : Option Value × jx_S) (h : p_r_value x1 x2 σ = some t) (hK : kkI t res) : jE d 205 0 [(0, .ref 106), (1, .int x1), (2, .int x2)] [] σ res := by
  unfold p_r_value at h
  refine jE_blk (bs := [(.aload_n 0, 0, 0), (.aload_n 0, 0, 0), (.iload_n 1, 0, 0)]) (i := .invokevirtual 476) (a1 := 202) (a2 := 0) (pc1 := 3) (l1 := [(0, .ref 106), (1, .int x1), (2, .int x2)]) (st1 := [.int x1, .ref 106, .ref 106]) (σ1 := σ) (by decide +kernel) rfl (fun hC => ?_)
  refine jE_call (as := [.ref 106, .int x1]) (pc1 := 6) (st1 := [.ref 106]) hC rfl (by decide) (by omega) (xv_r_noFunction (d - 1) (by omega) x1 σ) ?_
  refine jE_blk (bs := []) (i := .ifCond .ne (17)) (a1 := 0) (a2 := 0) (pc1 := 6) (l1 := [(0, .ref 106), (1, .int x1), (2, .int x2)]) (st1 := [.int (v_r_noFunction x1 σ), .ref 106]) (σ1 := σ) (by decide +kernel) rfl (fun hC => ?_)
  rcases Classical.em (¬ (v_r_noFunction x1 σ) = 0) with hc | hc
  · rw [if_pos hc] at h
    refine jE_ifT 23 hC (by decide) hc ?_
    exact jE_loc (l := [(0, .ref 106), (1, .int x1), (2, .int x2)]) (ks := [0, 1, 2]) rfl (by decide) ⟨rfl, rfl, rfl, trivial⟩ (x_r_value_23 d hd x1 x2 σ _ res h hK)
  · rw [if_neg hc] at h
    refine jE_ifF 23 hC (by decide) hc ?_
    refine jE_blk (bs := [(.iload_n 2, 0, 0)]) (i := .ifCond .lt (13)) (a1 := 0) (a2 := 0) (pc1 := 10) (l1 := [(0, .ref 106), (1, .int x1), (2, .int x2)]) (st1 := [.int x2, .ref 106]) (σ1 := σ) (by decide +kernel) rfl (fun hC => ?_)
    rcases Classical.em (x2 < 0) with hc | hc
    · rw [if_pos hc] at h
      refine jE_ifT 23 hC (by decide) hc ?_
      exact jE_loc (l := [(0, .ref 106), (1, .int x1), (2, .int x2)]) (ks := [0, 1, 2]) rfl (by decide) ⟨rfl, rfl, rfl, trivial⟩ (x_r_value_23 d hd x1 x2 σ _ res h hK)
    · rw [if_neg hc] at h
      refine jE_ifF 23 hC (by decide) hc ?_
      refine jE_blk (bs := [(.iload_n 2, 0, 0), (.aload_n 0, 0, 0), (.getfield 93, 12, 33), (.iload_n 1, 0, 0)]) (i := .iaload) (a1 := 0) (a2 := 0) (pc1 := 19) (l1 := [(0, .ref 106), (1, .int x1), (2, .int x2)]) (st1 := [.int x1, .ref 133, .int x2, .ref 106]) (σ1 := σ) (by decide +kernel) rfl (fun hC => ?_)
      obtain ⟨hi, h⟩ := jx_ite0_inv h
      refine jE_iald (n := 40) hC (by decide) rfl hi ?_
      refine jE_blk (bs := []) (i := .if_icmp .lt (7)) (a1 := 0) (a2 := 0) (pc1 := 20) (l1 := [(0, .ref 106), (1, .int x1), (2, .int x2)]) (st1 := [.int ((σ.1 133) (x1).toNatClampNeg), .int x2, .ref 106]) (σ1 := σ) (by decide +kernel) rfl (fun hC => ?_)
      rcases Classical.em (x2 < ((σ.1 133) (x1).toNatClampNeg)) with hc | hc
      · rw [if_pos hc] at h
        refine jE_icT 27 hC (by decide) hc ?_
        refine jE_blk (bs := [(.iconst (0), 0, 0)]) (i := .putfield 209) (a1 := 12) (a2 := 2) (pc1 := 28) (l1 := [(0, .ref 106), (1, .int x1), (2, .int x2)]) (st1 := [.int (0 : Int32), .ref 106]) (σ1 := σ) (by decide +kernel) rfl (fun hC => ?_)
        exact jE_loc (l := [(0, .ref 106), (1, .int x1), (2, .int x2)]) (ks := [0, 1, 2]) rfl (by decide) ⟨rfl, rfl, rfl, trivial⟩ (x_r_value_28 d hd x1 x2 (0 : Int32) σ _ res h hK)
      · rw [if_neg hc] at h
        refine jE_icF 27 hC (by decide) hc ?_
        exact jE_loc (l := [(0, .ref 106), (1, .int x1), (2, .int x2)]) (ks := [0, 1, 2]) rfl (by decide) ⟨rfl, rfl, rfl, trivial⟩ (x_r_value_23 d hd x1 x2 σ _ res h hK)
def p_r_rounds (σ : jx_S) : Option (Int32 × jx_S) := (some (((σ.1 106 39), (jx_i σ 106 2 (0 : Int32)))))
theorem x_r_rounds (d : Nat) (hd : 0 ≤ d) (σ : jx_S) (t : (Int32 × jx_S)) (res : Option Value × jx_S) (h : p_r_rounds σ = some t) (hK : kkI t res) : jE d 206 0 [(0, .ref 106)] [] σ res := by
  unfold p_r_rounds at h
  refine jE_blk (bs := [(.aload_n 0, 0, 0), (.iconst (0), 0, 0), (.putfield 209, 12, 2), (.aload_n 0, 0, 0), (.getfield 222, 12, 39)]) (i := .ireturn) (a1 := 0) (a2 := 0) (pc1 := 9) (l1 := [(0, .ref 106)]) (st1 := [.int (σ.1 106 39)]) (σ1 := (jx_i σ 106 2 (0 : Int32))) (by decide +kernel) rfl (fun hC => ?_)
  have h9 := Option.some.inj h
  subst h9
  have e9 : ((some (.int (σ.1 106 39)), (jx_i σ 106 2 (0 : Int32))) : Option Value × jx_S) = res := hK
  subst e9
  exact jE_ret hC rfl
def kk_r_isStrict_7 (d : Nat) (t : ((Int32 × Int32 × jx_S) ⊕ (Int32 × jx_S))) (res : Option Value × jx_S) : Prop := match t with
  | .inl s => jE d 207 7 [(0, .ref 106), (1, .int s.1), (2, .int s.2.1)] [] s.2.2 res
  | .inr t => kkI t res
def p_r_isStrict_62 (x1 : Int32) (x2 : Int32) (σ : jx_S) : Option ((Int32 × Int32 × jx_S) ⊕ (Int32 × jx_S)) := (some (.inl (x1, (x2 + 1), σ)))
theorem x_r_isStrict_62 (d : Nat) (hd : 0 ≤ d) (x1 : Int32) (x2 : Int32) (σ : jx_S) (t : ((Int32 × Int32 × jx_S) ⊕ (Int32 × jx_S))) (res : Option Value × jx_S) (h : p_r_isStrict_62 x1 x2 σ = some t) (hK : kk_r_isStrict_7 d t res) : jE d 207 62 [(0, .ref 106), (1, .int x1), (2, .int x2)] [] σ res := by
  unfold p_r_isStrict_62 at h
  refine jE_blk (bs := [(.iinc 2 (1), 3, 2), (.goto (-58), 0, 0)]) (i := .iload_n 2) (a1 := 0) (a2 := 0) (pc1 := 7) (l1 := [(2, .int (x2 + 1)), (0, .ref 106), (1, .int x1)]) (st1 := []) (σ1 := σ) (by decide +kernel) rfl (fun hC => ?_)
  have h9 := Option.some.inj h
  subst h9
  exact jE_loc (l := [(0, .ref 106), (1, .int x1), (2, .int (x2 + 1))]) (ks := [0, 1, 2]) rfl (by decide) ⟨rfl, rfl, rfl, trivial⟩ hK
def p_r_isStrict_7_s (x1 : Int32) (x2 : Int32) (σ : jx_S) : Option ((Int32 × Int32 × jx_S) ⊕ (Int32 × jx_S)) := (if (σ.1 106 25) ≤ x2 then (Option.map Sum.inr (some (((-1 : Int32), σ)))) else (if (σ.1 106 3) = 0 then (Option.map Sum.inr (some (((-1 : Int32), σ)))) else (if x2 < 0 ∨ 3000 ≤ (x2).toNatClampNeg then none else (if ¬ ((σ.1 112) (x2).toNatClampNeg) = (5 : Int32) then (p_r_isStrict_62 x1 x2 σ) else (if x2 < 0 ∨ 3000 ≤ (x2).toNatClampNeg then none else (if ((σ.1 113) (x2).toNatClampNeg) < 0 ∨ 1202 ≤ (((σ.1 113) (x2).toNatClampNeg)).toNatClampNeg then none else (if ¬ ((σ.1 109) (((σ.1 113) (x2).toNatClampNeg)).toNatClampNeg) = x1 then (p_r_isStrict_62 x1 x2 σ) else (Option.map Sum.inr (if x2 < 0 ∨ 3000 ≤ (x2).toNatClampNeg then none else (if ((σ.1 125) (x2).toNatClampNeg) = 0 then (some (((0 : Int32), σ))) else (some (((1 : Int32), σ)))))))))))))
theorem x_r_isStrict_7_s (d : Nat) (hd : 0 ≤ d) (x1 : Int32) (x2 : Int32) (σ : jx_S) (t : ((Int32 × Int32 × jx_S) ⊕ (Int32 × jx_S))) (res : Option Value × jx_S) (h : p_r_isStrict_7_s x1 x2 σ = some t) (hK : kk_r_isStrict_7 d t res) : jE d 207 7 [(0, .ref 106), (1, .int x1), (2, .int x2)] [] σ res := by
  unfold p_r_isStrict_7_s at h
  refine jE_blk (bs := [(.iload_n 2, 0, 0), (.aload_n 0, 0, 0), (.getfield 329, 12, 25)]) (i := .if_icmp .ge (56)) (a1 := 0) (a2 := 0) (pc1 := 12) (l1 := [(0, .ref 106), (1, .int x1), (2, .int x2)]) (st1 := [.int (σ.1 106 25), .int x2]) (σ1 := σ) (by decide +kernel) rfl (fun hC => ?_)
  rcases Classical.em ((σ.1 106 25) ≤ x2) with hc | hc
  · rw [if_pos hc] at h
    refine jE_icT 68 hC (by decide) hc ?_
    obtain ⟨t9_1, h9_1, h8_1⟩ := Option.map_eq_some_iff.mp h
    clear h
    subst h8_1
    have h := h9_1
    clear h9_1
    refine jE_blk (bs := [(.iconst (-1), 1, 1)]) (i := .ireturn) (a1 := 0) (a2 := 0) (pc1 := 69) (l1 := [(0, .ref 106), (1, .int x1), (2, .int x2)]) (st1 := [.int (-1 : Int32)]) (σ1 := σ) (by decide +kernel) rfl (fun hC => ?_)
    have h9 := Option.some.inj h
    subst h9
    have e9 : ((some (.int (-1 : Int32)), σ) : Option Value × jx_S) = res := hK
    subst e9
    exact jE_ret hC rfl
  · rw [if_neg hc] at h
    refine jE_icF 68 hC (by decide) hc ?_
    refine jE_blk (bs := [(.aload_n 0, 0, 0), (.getfield 212, 12, 3)]) (i := .ifCond .eq (49)) (a1 := 0) (a2 := 0) (pc1 := 19) (l1 := [(0, .ref 106), (1, .int x1), (2, .int x2)]) (st1 := [.int (σ.1 106 3)]) (σ1 := σ) (by decide +kernel) rfl (fun hC => ?_)
    rcases Classical.em ((σ.1 106 3) = 0) with hc | hc
    · rw [if_pos hc] at h
      refine jE_ifT 68 hC (by decide) hc ?_
      obtain ⟨t9_2, h9_2, h8_2⟩ := Option.map_eq_some_iff.mp h
      clear h
      subst h8_2
      have h := h9_2
      clear h9_2
      refine jE_blk (bs := [(.iconst (-1), 1, 1)]) (i := .ireturn) (a1 := 0) (a2 := 0) (pc1 := 69) (l1 := [(0, .ref 106), (1, .int x1), (2, .int x2)]) (st1 := [.int (-1 : Int32)]) (σ1 := σ) (by decide +kernel) rfl (fun hC => ?_)
      have h9 := Option.some.inj h
      subst h9
      have e9 : ((some (.int (-1 : Int32)), σ) : Option Value × jx_S) = res := hK
      subst e9
      exact jE_ret hC rfl
    · rw [if_neg hc] at h
      refine jE_ifF 68 hC (by decide) hc ?_
      refine jE_blk (bs := [(.aload_n 0, 0, 0), (.getfield 29, 12, 11), (.iload_n 2, 0, 0)]) (i := .iaload) (a1 := 0) (a2 := 0) (pc1 := 27) (l1 := [(0, .ref 106), (1, .int x1), (2, .int x2)]) (st1 := [.int x2, .ref 112]) (σ1 := σ) (by decide +kernel) rfl (fun hC => ?_)
      obtain ⟨hi, h⟩ := jx_ite0_inv h
      refine jE_iald (n := 3000) hC (by decide) rfl hi ?_
      refine jE_blk (bs := [(.iconst (5), 5, 0)]) (i := .if_icmp .ne (33)) (a1 := 0) (a2 := 0) (pc1 := 29) (l1 := [(0, .ref 106), (1, .int x1), (2, .int x2)]) (st1 := [.int (5 : Int32), .int ((σ.1 112) (x2).toNatClampNeg)]) (σ1 := σ) (by decide +kernel) rfl (fun hC => ?_)
      rcases Classical.em (¬ ((σ.1 112) (x2).toNatClampNeg) = (5 : Int32)) with hc | hc
      · rw [if_pos hc] at h
        refine jE_icT 62 hC (by decide) hc ?_
        exact jE_loc (l := [(0, .ref 106), (1, .int x1), (2, .int x2)]) (ks := [0, 1, 2]) rfl (by decide) ⟨rfl, rfl, rfl, trivial⟩ (x_r_isStrict_62 d hd x1 x2 σ _ res h hK)
      · rw [if_neg hc] at h
        refine jE_icF 62 hC (by decide) hc ?_
        refine jE_blk (bs := [(.aload_n 0, 0, 0), (.getfield 20, 12, 7), (.aload_n 0, 0, 0), (.getfield 32, 12, 12), (.iload_n 2, 0, 0)]) (i := .iaload) (a1 := 0) (a2 := 0) (pc1 := 41) (l1 := [(0, .ref 106), (1, .int x1), (2, .int x2)]) (st1 := [.int x2, .ref 113, .ref 109]) (σ1 := σ) (by decide +kernel) rfl (fun hC => ?_)
        obtain ⟨hi, h⟩ := jx_ite0_inv h
        refine jE_iald (n := 3000) hC (by decide) rfl hi ?_
        refine jE_blk (bs := []) (i := .iaload) (a1 := 0) (a2 := 0) (pc1 := 42) (l1 := [(0, .ref 106), (1, .int x1), (2, .int x2)]) (st1 := [.int ((σ.1 113) (x2).toNatClampNeg), .ref 109]) (σ1 := σ) (by decide +kernel) rfl (fun hC => ?_)
        obtain ⟨hi, h⟩ := jx_ite0_inv h
        refine jE_iald (n := 1202) hC (by decide) rfl hi ?_
        refine jE_blk (bs := [(.iload_n 1, 0, 0)]) (i := .if_icmp .ne (18)) (a1 := 0) (a2 := 0) (pc1 := 44) (l1 := [(0, .ref 106), (1, .int x1), (2, .int x2)]) (st1 := [.int x1, .int ((σ.1 109) (((σ.1 113) (x2).toNatClampNeg)).toNatClampNeg)]) (σ1 := σ) (by decide +kernel) rfl (fun hC => ?_)
        rcases Classical.em (¬ ((σ.1 109) (((σ.1 113) (x2).toNatClampNeg)).toNatClampNeg) = x1) with hc | hc
        · rw [if_pos hc] at h
          refine jE_icT 62 hC (by decide) hc ?_
          exact jE_loc (l := [(0, .ref 106), (1, .int x1), (2, .int x2)]) (ks := [0, 1, 2]) rfl (by decide) ⟨rfl, rfl, rfl, trivial⟩ (x_r_isStrict_62 d hd x1 x2 σ _ res h hK)
        · rw [if_neg hc] at h
          refine jE_icF 62 hC (by decide) hc ?_
          obtain ⟨t9_3, h9_3, h8_3⟩ := Option.map_eq_some_iff.mp h
          clear h
          subst h8_3
          have h := h9_3
          clear h9_3
          refine jE_blk (bs := [(.aload_n 0, 0, 0), (.getfield 68, 12, 24), (.iload_n 2, 0, 0)]) (i := .baload) (a1 := 0) (a2 := 0) (pc1 := 52) (l1 := [(0, .ref 106), (1, .int x1), (2, .int x2)]) (st1 := [.int x2, .ref 125]) (σ1 := σ) (by decide +kernel) rfl (fun hC => ?_)
          obtain ⟨hi, h⟩ := jx_ite0_inv h
          refine jE_bald (n := 3000) hC (by decide) rfl hi ?_
          refine jE_blk (bs := []) (i := .ifCond .eq (7)) (a1 := 0) (a2 := 0) (pc1 := 53) (l1 := [(0, .ref 106), (1, .int x1), (2, .int x2)]) (st1 := [.int ((σ.1 125) (x2).toNatClampNeg)]) (σ1 := σ) (by decide +kernel) rfl (fun hC => ?_)
          rcases Classical.em (((σ.1 125) (x2).toNatClampNeg) = 0) with hc | hc
          · rw [if_pos hc] at h
            refine jE_ifT 60 hC (by decide) hc ?_
            refine jE_blk (bs := [(.iconst (0), 0, 0)]) (i := .ireturn) (a1 := 0) (a2 := 0) (pc1 := 61) (l1 := [(0, .ref 106), (1, .int x1), (2, .int x2)]) (st1 := [.int (0 : Int32)]) (σ1 := σ) (by decide +kernel) rfl (fun hC => ?_)
            have h9 := Option.some.inj h
            subst h9
            have e9 : ((some (.int (0 : Int32)), σ) : Option Value × jx_S) = res := hK
            subst e9
            exact jE_ret hC rfl
          · rw [if_neg hc] at h
            refine jE_ifF 60 hC (by decide) hc ?_
            refine jE_blk (bs := [(.iconst (1), 1, 0), (.goto (4), 0, 0)]) (i := .ireturn) (a1 := 0) (a2 := 0) (pc1 := 61) (l1 := [(0, .ref 106), (1, .int x1), (2, .int x2)]) (st1 := [.int (1 : Int32)]) (σ1 := σ) (by decide +kernel) rfl (fun hC => ?_)
            have h9 := Option.some.inj h
            subst h9
            have e9 : ((some (.int (1 : Int32)), σ) : Option Value × jx_S) = res := hK
            subst e9
            exact jE_ret hC rfl
def p_r_isStrict_7 (x1 : Int32) (x2 : Int32) (σ : jx_S) : Option (Int32 × jx_S) := jx_loop 100000000 (fun s => p_r_isStrict_7_s s.1 s.2.1 (s.2.2)) (x1, x2, σ)
theorem x_r_isStrict_7 (d : Nat) (hd : 0 ≤ d) (x1 : Int32) (x2 : Int32) (σ : jx_S) (t : (Int32 × jx_S)) (res : Option Value × jx_S) (h : p_r_isStrict_7 x1 x2 σ = some t) (hK : kkI t res) : jE d 207 7 [(0, .ref 106), (1, .int x1), (2, .int x2)] [] σ res := by
  refine jx_loop_ok (E := fun s t => ∀ res, kkI t res → jE d 207 7 [(0, .ref 106), (1, .int s.1), (2, .int s.2.1)] [] s.2.2 res) (fun s t hs => ?_) _ _ _ h res hK
  cases t with
  | inl s1 => exact fun b hb res hk => x_r_isStrict_7_s d hd (s.1) (s.2.1) (s.2.2) _ res hs (hb res hk)
  | inr b => exact fun res hk => x_r_isStrict_7_s d hd (s.1) (s.2.1) (s.2.2) _ res hs hk
def p_r_isStrict (x1 : Int32) (σ : jx_S) : Option (Int32 × jx_S) := (p_r_isStrict_7 x1 (0 : Int32) (jx_i σ 106 2 (0 : Int32)))
theorem x_r_isStrict (d : Nat) (hd : 0 ≤ d) (x1 : Int32) (σ : jx_S) (t : (Int32 × jx_S)) (res : Option Value × jx_S) (h : p_r_isStrict x1 σ = some t) (hK : kkI t res) : jE d 207 0 [(0, .ref 106), (1, .int x1)] [] σ res := by
  unfold p_r_isStrict at h
  refine jE_blk (bs := [(.aload_n 0, 0, 0), (.iconst (0), 0, 0), (.putfield 209, 12, 2), (.iconst (0), 0, 0), (.istore_n 2, 3, 0)]) (i := .iload_n 2) (a1 := 0) (a2 := 0) (pc1 := 7) (l1 := [(2, .int (0 : Int32)), (0, .ref 106), (1, .int x1)]) (st1 := []) (σ1 := (jx_i σ 106 2 (0 : Int32))) (by decide +kernel) rfl (fun hC => ?_)
  exact jE_loc (l := [(0, .ref 106), (1, .int x1), (2, .int (0 : Int32))]) (ks := [0, 1, 2]) rfl (by decide) ⟨rfl, rfl, rfl, trivial⟩ (x_r_isStrict_7 d hd x1 (0 : Int32) (jx_i σ 106 2 (0 : Int32)) _ res h hK)
