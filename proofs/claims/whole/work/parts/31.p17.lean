def kk_r_go_0 (d : Nat) (t : ((jx_S) ⊕ jx_S)) (res : Option Value × jx_S) : Prop := match t with
  | .inl s => jE d 226 0 [(0, .ref 106)] [] s res
  | .inr t => kkV t res
def p_r_go_204 (σ : jx_S) : Option ((jx_S) ⊕ jx_S) := (some (.inl σ))
theorem x_r_go_204 (d : Nat) (hd : 5 ≤ d) (σ : jx_S) (t : ((jx_S) ⊕ jx_S)) (res : Option Value × jx_S) (h : p_r_go_204 σ = some t) (hK : kk_r_go_0 d t res) : jE d 226 204 [(0, .ref 106)] [] σ res := by
  unfold p_r_go_204 at h
  refine jE_blk (bs := [(.goto (-204), 0, 0)]) (i := .aload_n 0) (a1 := 0) (a2 := 0) (pc1 := 0) (l1 := [(0, .ref 106)]) (st1 := []) (σ1 := σ) (by decide +kernel) rfl (fun hC => ?_)
  have h9 := Option.some.inj h
  subst h9
  exact jE_loc (l := [(0, .ref 106)]) (ks := [0]) rfl (by decide) ⟨rfl, trivial⟩ hK
def p_r_go_168 (x1 : Int32) (x2 : Int32) (x3 : Int32) (σ : jx_S) : Option ((jx_S) ⊕ jx_S) := ((p_r_workChoice x1 x2 x3 σ).bind fun q6 => (p_r_go_204 q6))
theorem x_r_go_168 (d : Nat) (hd : 5 ≤ d) (x1 : Int32) (x2 : Int32) (x3 : Int32) (σ : jx_S) (t : ((jx_S) ⊕ jx_S)) (res : Option Value × jx_S) (h : p_r_go_168 x1 x2 x3 σ = some t) (hK : kk_r_go_0 d t res) : jE d 226 168 [(0, .ref 106), (1, .int x1), (2, .int x2), (3, .int x3)] [] σ res := by
  unfold p_r_go_168 at h
  refine jE_blk (bs := [(.aload_n 0, 0, 0), (.iload_n 1, 0, 0), (.iload_n 2, 0, 0), (.iload_n 3, 0, 0)]) (i := .invokevirtual 592) (a1 := 223) (a2 := 0) (pc1 := 172) (l1 := [(0, .ref 106), (1, .int x1), (2, .int x2), (3, .int x3)]) (st1 := [.int x3, .int x2, .int x1, .ref 106]) (σ1 := σ) (by decide +kernel) rfl (fun hC => ?_)
  obtain ⟨q6, hq, h⟩ := Option.bind_eq_some_iff.mp h
  refine jE_call (as := [.ref 106, .int x1, .int x2, .int x3]) (pc1 := 175) (st1 := []) hC rfl (by decide) (by omega) (x_r_workChoice (d - 1) (by omega) x1 x2 x3 σ q6 (none, q6) hq rfl) ?_
  refine jE_blk (bs := [(.goto (29), 0, 0)]) (i := .goto (-204)) (a1 := 0) (a2 := 0) (pc1 := 204) (l1 := [(0, .ref 106), (1, .int x1), (2, .int x2), (3, .int x3)]) (st1 := []) (σ1 := q6) (by decide +kernel) rfl (fun hC => ?_)
  exact jE_loc (l := [(0, .ref 106)]) (ks := [0]) rfl (by decide) ⟨rfl, trivial⟩ (x_r_go_204 d hd q6 _ res h hK)
def p_r_go_197 (x1 : Int32) (x2 : Int32) (x3 : Int32) (σ : jx_S) : Option ((jx_S) ⊕ jx_S) := ((p_r_workBinary x1 x2 x3 σ).bind fun q9 => (p_r_go_204 q9))
theorem x_r_go_197 (d : Nat) (hd : 5 ≤ d) (x1 : Int32) (x2 : Int32) (x3 : Int32) (σ : jx_S) (t : ((jx_S) ⊕ jx_S)) (res : Option Value × jx_S) (h : p_r_go_197 x1 x2 x3 σ = some t) (hK : kk_r_go_0 d t res) : jE d 226 197 [(0, .ref 106), (1, .int x1), (2, .int x2), (3, .int x3)] [] σ res := by
  unfold p_r_go_197 at h
  refine jE_blk (bs := [(.aload_n 0, 0, 0), (.iload_n 1, 0, 0), (.iload_n 2, 0, 0), (.iload_n 3, 0, 0)]) (i := .invokevirtual 601) (a1 := 222) (a2 := 0) (pc1 := 201) (l1 := [(0, .ref 106), (1, .int x1), (2, .int x2), (3, .int x3)]) (st1 := [.int x3, .int x2, .int x1, .ref 106]) (σ1 := σ) (by decide +kernel) rfl (fun hC => ?_)
  obtain ⟨q9, hq, h⟩ := Option.bind_eq_some_iff.mp h
  refine jE_call (as := [.ref 106, .int x1, .int x2, .int x3]) (pc1 := 204) (st1 := []) hC rfl (by decide) (by omega) (x_r_workBinary (d - 1) (by omega) x1 x2 x3 σ q9 (none, q9) hq rfl) ?_
  exact jE_loc (l := [(0, .ref 106)]) (ks := [0]) rfl (by decide) ⟨rfl, trivial⟩ (x_r_go_204 d hd q9 _ res h hK)
def p_r_go_0_s (σ : jx_S) : Option ((jx_S) ⊕ jx_S) := (if (σ.1 106 82) ≤ 0 then (Option.map Sum.inr (some (σ))) else (if ¬ (σ.1 106 87) = 0 then (Option.map Sum.inr (some (σ))) else (if ((σ.1 106 82) - (1 : Int32)) < 0 ∨ 251 ≤ (((σ.1 106 82) - (1 : Int32))).toNatClampNeg then none else (if ((σ.1 106 82) - (1 : Int32)) < 0 ∨ 251 ≤ (((σ.1 106 82) - (1 : Int32))).toNatClampNeg then none else (if ((σ.1 161) (((σ.1 106 82) - (1 : Int32))).toNatClampNeg) < 0 ∨ 3000 ≤ (((σ.1 161) (((σ.1 106 82) - (1 : Int32))).toNatClampNeg)).toNatClampNeg then none else (if ((σ.1 112) (((σ.1 161) (((σ.1 106 82) - (1 : Int32))).toNatClampNeg)).toNatClampNeg) = 1 then ((p_r_workName ((σ.1 106 82) - (1 : Int32)) ((σ.1 161) (((σ.1 106 82) - (1 : Int32))).toNatClampNeg) ((σ.1 162) (((σ.1 106 82) - (1 : Int32))).toNatClampNeg) σ).bind fun q3 => (p_r_go_204 q3)) else (if ((σ.1 112) (((σ.1 161) (((σ.1 106 82) - (1 : Int32))).toNatClampNeg)).toNatClampNeg) = 2 then (if ((σ.1 161) (((σ.1 106 82) - (1 : Int32))).toNatClampNeg) < 0 ∨ 3000 ≤ (((σ.1 161) (((σ.1 106 82) - (1 : Int32))).toNatClampNeg)).toNatClampNeg then none else (if ((σ.1 113) (((σ.1 161) (((σ.1 106 82) - (1 : Int32))).toNatClampNeg)).toNatClampNeg) < 0 ∨ 1202 ≤ (((σ.1 113) (((σ.1 161) (((σ.1 106 82) - (1 : Int32))).toNatClampNeg)).toNatClampNeg)).toNatClampNeg then none else ((p_r_finish (v_r_tagged (0 : Int64) ((σ.1 111) (((σ.1 113) (((σ.1 161) (((σ.1 106 82) - (1 : Int32))).toNatClampNeg)).toNatClampNeg)).toNatClampNeg) σ) σ).bind fun q4 => (p_r_go_204 q4)))) else (if ((σ.1 112) (((σ.1 161) (((σ.1 106 82) - (1 : Int32))).toNatClampNeg)).toNatClampNeg) = 5 then ((p_r_workLet ((σ.1 106 82) - (1 : Int32)) ((σ.1 161) (((σ.1 106 82) - (1 : Int32))).toNatClampNeg) ((σ.1 162) (((σ.1 106 82) - (1 : Int32))).toNatClampNeg) σ).bind fun q5 => (p_r_go_204 q5)) else (if ((σ.1 112) (((σ.1 161) (((σ.1 106 82) - (1 : Int32))).toNatClampNeg)).toNatClampNeg) = 7 then (p_r_go_168 ((σ.1 106 82) - (1 : Int32)) ((σ.1 161) (((σ.1 106 82) - (1 : Int32))).toNatClampNeg) ((σ.1 162) (((σ.1 106 82) - (1 : Int32))).toNatClampNeg) σ) else (if ((σ.1 112) (((σ.1 161) (((σ.1 106 82) - (1 : Int32))).toNatClampNeg)).toNatClampNeg) = 10 then (p_r_go_168 ((σ.1 106 82) - (1 : Int32)) ((σ.1 161) (((σ.1 106 82) - (1 : Int32))).toNatClampNeg) ((σ.1 162) (((σ.1 106 82) - (1 : Int32))).toNatClampNeg) σ) else (if ((σ.1 112) (((σ.1 161) (((σ.1 106 82) - (1 : Int32))).toNatClampNeg)).toNatClampNeg) = 13 then ((p_r_finish (v_r_tagged (1 : Int64) (0 : Int32) σ) σ).bind fun q7 => (p_r_go_204 q7)) else (if ((σ.1 112) (((σ.1 161) (((σ.1 106 82) - (1 : Int32))).toNatClampNeg)).toNatClampNeg) = 14 then ((p_r_workCons ((σ.1 161) (((σ.1 106 82) - (1 : Int32))).toNatClampNeg) ((σ.1 162) (((σ.1 106 82) - (1 : Int32))).toNatClampNeg) σ).bind fun q8 => (p_r_go_204 q8)) else (if ((σ.1 112) (((σ.1 161) (((σ.1 106 82) - (1 : Int32))).toNatClampNeg)).toNatClampNeg) = 15 then (p_r_go_204 (jx_i σ 106 87 (2 : Int32))) else (p_r_go_197 ((σ.1 106 82) - (1 : Int32)) ((σ.1 161) (((σ.1 106 82) - (1 : Int32))).toNatClampNeg) ((σ.1 162) (((σ.1 106 82) - (1 : Int32))).toNatClampNeg) σ))))))))))))))
theorem x_r_go_0_s (d : Nat) (hd : 5 ≤ d) (σ : jx_S) (t : ((jx_S) ⊕ jx_S)) (res : Option Value × jx_S) (h : p_r_go_0_s σ = some t) (hK : kk_r_go_0 d t res) : jE d 226 0 [(0, .ref 106)] [] σ res := by
  unfold p_r_go_0_s at h
  refine jE_blk (bs := [(.aload_n 0, 0, 0), (.getfield 494, 12, 82)]) (i := .ifCond .le (203)) (a1 := 0) (a2 := 0) (pc1 := 4) (l1 := [(0, .ref 106)]) (st1 := [.int (σ.1 106 82)]) (σ1 := σ) (by decide +kernel) rfl (fun hC => ?_)
  rcases Classical.em ((σ.1 106 82) ≤ 0) with hc | hc
  · rw [if_pos hc] at h
    refine jE_ifT 207 hC (by decide) hc ?_
    obtain ⟨t9_1, h9_1, h8_1⟩ := Option.map_eq_some_iff.mp h
    clear h
    subst h8_1
    have h := h9_1
    clear h9_1
    refine jE_blk (bs := []) (i := .return_) (a1 := 0) (a2 := 0) (pc1 := 207) (l1 := [(0, .ref 106)]) (st1 := []) (σ1 := σ) (by decide +kernel) rfl (fun hC => ?_)
    have h9 := Option.some.inj h
    subst h9
    have e9 : ((none, σ) : Option Value × jx_S) = res := hK
    subst e9
    exact jE_ret hC rfl
  · rw [if_neg hc] at h
    refine jE_ifF 207 hC (by decide) hc ?_
    refine jE_blk (bs := [(.aload_n 0, 0, 0), (.getfield 521, 12, 87)]) (i := .ifCond .ne (196)) (a1 := 0) (a2 := 0) (pc1 := 11) (l1 := [(0, .ref 106)]) (st1 := [.int (σ.1 106 87)]) (σ1 := σ) (by decide +kernel) rfl (fun hC => ?_)
    rcases Classical.em (¬ (σ.1 106 87) = 0) with hc | hc
    · rw [if_pos hc] at h
      refine jE_ifT 207 hC (by decide) hc ?_
      obtain ⟨t9_2, h9_2, h8_2⟩ := Option.map_eq_some_iff.mp h
      clear h
      subst h8_2
      have h := h9_2
      clear h9_2
      refine jE_blk (bs := []) (i := .return_) (a1 := 0) (a2 := 0) (pc1 := 207) (l1 := [(0, .ref 106)]) (st1 := []) (σ1 := σ) (by decide +kernel) rfl (fun hC => ?_)
      have h9 := Option.some.inj h
      subst h9
      have e9 : ((none, σ) : Option Value × jx_S) = res := hK
      subst e9
      exact jE_ret hC rfl
    · rw [if_neg hc] at h
      refine jE_ifF 207 hC (by decide) hc ?_
      refine jE_blk (bs := [(.aload_n 0, 0, 0), (.getfield 494, 12, 82), (.iconst (1), 1, 0), (.isub, 0, 0), (.istore_n 1, 4, 0), (.aload_n 0, 0, 0), (.getfield 179, 12, 77), (.iload_n 1, 0, 0)]) (i := .iaload) (a1 := 0) (a2 := 0) (pc1 := 26) (l1 := [(1, .int ((σ.1 106 82) - (1 : Int32))), (0, .ref 106)]) (st1 := [.int ((σ.1 106 82) - (1 : Int32)), .ref 161]) (σ1 := σ) (by decide +kernel) rfl (fun hC => ?_)
      obtain ⟨hi, h⟩ := jx_ite0_inv h
      refine jE_iald (n := 251) hC (by decide) rfl hi ?_
      refine jE_blk (bs := [(.istore_n 2, 4, 0), (.aload_n 0, 0, 0), (.getfield 182, 12, 78), (.iload_n 1, 0, 0)]) (i := .iaload) (a1 := 0) (a2 := 0) (pc1 := 33) (l1 := [(2, .int ((σ.1 161) (((σ.1 106 82) - (1 : Int32))).toNatClampNeg)), (1, .int ((σ.1 106 82) - (1 : Int32))), (0, .ref 106)]) (st1 := [.int ((σ.1 106 82) - (1 : Int32)), .ref 162]) (σ1 := σ) (by decide +kernel) rfl (fun hC => ?_)
      obtain ⟨hi, h⟩ := jx_ite0_inv h
      refine jE_iald (n := 251) hC (by decide) rfl hi ?_
      refine jE_blk (bs := [(.istore_n 3, 4, 0), (.aload_n 0, 0, 0), (.getfield 29, 12, 11), (.iload_n 2, 0, 0)]) (i := .iaload) (a1 := 0) (a2 := 0) (pc1 := 40) (l1 := [(3, .int ((σ.1 162) (((σ.1 106 82) - (1 : Int32))).toNatClampNeg)), (2, .int ((σ.1 161) (((σ.1 106 82) - (1 : Int32))).toNatClampNeg)), (1, .int ((σ.1 106 82) - (1 : Int32))), (0, .ref 106)]) (st1 := [.int ((σ.1 161) (((σ.1 106 82) - (1 : Int32))).toNatClampNeg), .ref 112]) (σ1 := σ) (by decide +kernel) rfl (fun hC => ?_)
      obtain ⟨hi, h⟩ := jx_ite0_inv h
      refine jE_iald (n := 3000) hC (by decide) rfl hi ?_
      refine jE_blk (bs := []) (i := .tableswitch (156) (1) (15) #[117, 75, 156, 156, 137, 156, 127, 156, 156, 127, 156, 156, 97, 147, 109]) (a1 := 0) (a2 := 0) (pc1 := 41) (l1 := [(3, .int ((σ.1 162) (((σ.1 106 82) - (1 : Int32))).toNatClampNeg)), (2, .int ((σ.1 161) (((σ.1 106 82) - (1 : Int32))).toNatClampNeg)), (1, .int ((σ.1 106 82) - (1 : Int32))), (0, .ref 106)]) (st1 := [.int ((σ.1 112) (((σ.1 161) (((σ.1 106 82) - (1 : Int32))).toNatClampNeg)).toNatClampNeg)]) (σ1 := σ) (by decide +kernel) rfl (fun hC => ?_)
      rcases Classical.em (((σ.1 112) (((σ.1 161) (((σ.1 106 82) - (1 : Int32))).toNatClampNeg)).toNatClampNeg) = 1) with hc0 | hc0
      · rw [if_pos hc0] at h
        refine jE_tsw 158 1 hC hc0 (by decide +kernel) ?_
        refine jE_blk (bs := [(.aload_n 0, 0, 0), (.iload_n 1, 0, 0), (.iload_n 2, 0, 0), (.iload_n 3, 0, 0)]) (i := .invokevirtual 589) (a1 := 219) (a2 := 0) (pc1 := 162) (l1 := [(3, .int ((σ.1 162) (((σ.1 106 82) - (1 : Int32))).toNatClampNeg)), (2, .int ((σ.1 161) (((σ.1 106 82) - (1 : Int32))).toNatClampNeg)), (1, .int ((σ.1 106 82) - (1 : Int32))), (0, .ref 106)]) (st1 := [.int ((σ.1 162) (((σ.1 106 82) - (1 : Int32))).toNatClampNeg), .int ((σ.1 161) (((σ.1 106 82) - (1 : Int32))).toNatClampNeg), .int ((σ.1 106 82) - (1 : Int32)), .ref 106]) (σ1 := σ) (by decide +kernel) rfl (fun hC => ?_)
        obtain ⟨q3, hq, h⟩ := Option.bind_eq_some_iff.mp h
        refine jE_call (as := [.ref 106, .int ((σ.1 106 82) - (1 : Int32)), .int ((σ.1 161) (((σ.1 106 82) - (1 : Int32))).toNatClampNeg), .int ((σ.1 162) (((σ.1 106 82) - (1 : Int32))).toNatClampNeg)]) (pc1 := 165) (st1 := []) hC rfl (by decide) (by omega) (x_r_workName (d - 1) (by omega) ((σ.1 106 82) - (1 : Int32)) ((σ.1 161) (((σ.1 106 82) - (1 : Int32))).toNatClampNeg) ((σ.1 162) (((σ.1 106 82) - (1 : Int32))).toNatClampNeg) σ q3 (none, q3) hq rfl) ?_
        refine jE_blk (bs := [(.goto (39), 0, 0)]) (i := .goto (-204)) (a1 := 0) (a2 := 0) (pc1 := 204) (l1 := [(3, .int ((σ.1 162) (((σ.1 106 82) - (1 : Int32))).toNatClampNeg)), (2, .int ((σ.1 161) (((σ.1 106 82) - (1 : Int32))).toNatClampNeg)), (1, .int ((σ.1 106 82) - (1 : Int32))), (0, .ref 106)]) (st1 := []) (σ1 := q3) (by decide +kernel) rfl (fun hC => ?_)
        exact jE_loc (l := [(0, .ref 106)]) (ks := [0]) rfl (by decide) ⟨rfl, trivial⟩ (x_r_go_204 d hd q3 _ res h hK)
      · rw [if_neg hc0] at h
        rcases Classical.em (((σ.1 112) (((σ.1 161) (((σ.1 106 82) - (1 : Int32))).toNatClampNeg)).toNatClampNeg) = 2) with hc1 | hc1
        · rw [if_pos hc1] at h
          refine jE_tsw 116 2 hC hc1 (by decide +kernel) ?_
          refine jE_blk (bs := [(.aload_n 0, 0, 0), (.lconst 0, 0, 0), (.aload_n 0, 0, 0), (.getfield 26, 12, 9), (.aload_n 0, 0, 0), (.getfield 32, 12, 12), (.iload_n 2, 0, 0)]) (i := .iaload) (a1 := 0) (a2 := 0) (pc1 := 127) (l1 := [(3, .int ((σ.1 162) (((σ.1 106 82) - (1 : Int32))).toNatClampNeg)), (2, .int ((σ.1 161) (((σ.1 106 82) - (1 : Int32))).toNatClampNeg)), (1, .int ((σ.1 106 82) - (1 : Int32))), (0, .ref 106)]) (st1 := [.int ((σ.1 161) (((σ.1 106 82) - (1 : Int32))).toNatClampNeg), .ref 113, .ref 111, .long (0 : Int64), .ref 106]) (σ1 := σ) (by decide +kernel) rfl (fun hC => ?_)
          obtain ⟨hi, h⟩ := jx_ite0_inv h
          refine jE_iald (n := 3000) hC (by decide) rfl hi ?_
          refine jE_blk (bs := []) (i := .iaload) (a1 := 0) (a2 := 0) (pc1 := 128) (l1 := [(3, .int ((σ.1 162) (((σ.1 106 82) - (1 : Int32))).toNatClampNeg)), (2, .int ((σ.1 161) (((σ.1 106 82) - (1 : Int32))).toNatClampNeg)), (1, .int ((σ.1 106 82) - (1 : Int32))), (0, .ref 106)]) (st1 := [.int ((σ.1 113) (((σ.1 161) (((σ.1 106 82) - (1 : Int32))).toNatClampNeg)).toNatClampNeg), .ref 111, .long (0 : Int64), .ref 106]) (σ1 := σ) (by decide +kernel) rfl (fun hC => ?_)
          obtain ⟨hi, h⟩ := jx_ite0_inv h
          refine jE_iald (n := 1202) hC (by decide) rfl hi ?_
          refine jE_blk (bs := []) (i := .invokestatic 533) (a1 := 209) (a2 := 0) (pc1 := 129) (l1 := [(3, .int ((σ.1 162) (((σ.1 106 82) - (1 : Int32))).toNatClampNeg)), (2, .int ((σ.1 161) (((σ.1 106 82) - (1 : Int32))).toNatClampNeg)), (1, .int ((σ.1 106 82) - (1 : Int32))), (0, .ref 106)]) (st1 := [.int ((σ.1 111) (((σ.1 113) (((σ.1 161) (((σ.1 106 82) - (1 : Int32))).toNatClampNeg)).toNatClampNeg)).toNatClampNeg), .long (0 : Int64), .ref 106]) (σ1 := σ) (by decide +kernel) rfl (fun hC => ?_)
          refine jE_call (as := [.long (0 : Int64), .int ((σ.1 111) (((σ.1 113) (((σ.1 161) (((σ.1 106 82) - (1 : Int32))).toNatClampNeg)).toNatClampNeg)).toNatClampNeg)]) (pc1 := 132) (st1 := [.ref 106]) hC rfl (by decide) (by omega) (xv_r_tagged (d - 1) (by omega) (0 : Int64) ((σ.1 111) (((σ.1 113) (((σ.1 161) (((σ.1 106 82) - (1 : Int32))).toNatClampNeg)).toNatClampNeg)).toNatClampNeg) σ) ?_
          refine jE_blk (bs := []) (i := .invokevirtual 564) (a1 := 212) (a2 := 0) (pc1 := 132) (l1 := [(3, .int ((σ.1 162) (((σ.1 106 82) - (1 : Int32))).toNatClampNeg)), (2, .int ((σ.1 161) (((σ.1 106 82) - (1 : Int32))).toNatClampNeg)), (1, .int ((σ.1 106 82) - (1 : Int32))), (0, .ref 106)]) (st1 := [.long (v_r_tagged (0 : Int64) ((σ.1 111) (((σ.1 113) (((σ.1 161) (((σ.1 106 82) - (1 : Int32))).toNatClampNeg)).toNatClampNeg)).toNatClampNeg) σ), .ref 106]) (σ1 := σ) (by decide +kernel) rfl (fun hC => ?_)
          obtain ⟨q4, hq, h⟩ := Option.bind_eq_some_iff.mp h
          refine jE_call (as := [.ref 106, .long (v_r_tagged (0 : Int64) ((σ.1 111) (((σ.1 113) (((σ.1 161) (((σ.1 106 82) - (1 : Int32))).toNatClampNeg)).toNatClampNeg)).toNatClampNeg) σ)]) (pc1 := 135) (st1 := []) hC rfl (by decide) (by omega) (x_r_finish (d - 1) (by omega) (v_r_tagged (0 : Int64) ((σ.1 111) (((σ.1 113) (((σ.1 161) (((σ.1 106 82) - (1 : Int32))).toNatClampNeg)).toNatClampNeg)).toNatClampNeg) σ) σ q4 (none, q4) hq rfl) ?_
          refine jE_blk (bs := [(.goto (69), 0, 0)]) (i := .goto (-204)) (a1 := 0) (a2 := 0) (pc1 := 204) (l1 := [(3, .int ((σ.1 162) (((σ.1 106 82) - (1 : Int32))).toNatClampNeg)), (2, .int ((σ.1 161) (((σ.1 106 82) - (1 : Int32))).toNatClampNeg)), (1, .int ((σ.1 106 82) - (1 : Int32))), (0, .ref 106)]) (st1 := []) (σ1 := q4) (by decide +kernel) rfl (fun hC => ?_)
          exact jE_loc (l := [(0, .ref 106)]) (ks := [0]) rfl (by decide) ⟨rfl, trivial⟩ (x_r_go_204 d hd q4 _ res h hK)
        · rw [if_neg hc1] at h
          rcases Classical.em (((σ.1 112) (((σ.1 161) (((σ.1 106 82) - (1 : Int32))).toNatClampNeg)).toNatClampNeg) = 5) with hc2 | hc2
          · rw [if_pos hc2] at h
            refine jE_tsw 178 5 hC hc2 (by decide +kernel) ?_
            refine jE_blk (bs := [(.aload_n 0, 0, 0), (.iload_n 1, 0, 0), (.iload_n 2, 0, 0), (.iload_n 3, 0, 0)]) (i := .invokevirtual 595) (a1 := 224) (a2 := 0) (pc1 := 182) (l1 := [(3, .int ((σ.1 162) (((σ.1 106 82) - (1 : Int32))).toNatClampNeg)), (2, .int ((σ.1 161) (((σ.1 106 82) - (1 : Int32))).toNatClampNeg)), (1, .int ((σ.1 106 82) - (1 : Int32))), (0, .ref 106)]) (st1 := [.int ((σ.1 162) (((σ.1 106 82) - (1 : Int32))).toNatClampNeg), .int ((σ.1 161) (((σ.1 106 82) - (1 : Int32))).toNatClampNeg), .int ((σ.1 106 82) - (1 : Int32)), .ref 106]) (σ1 := σ) (by decide +kernel) rfl (fun hC => ?_)
            obtain ⟨q5, hq, h⟩ := Option.bind_eq_some_iff.mp h
            refine jE_call (as := [.ref 106, .int ((σ.1 106 82) - (1 : Int32)), .int ((σ.1 161) (((σ.1 106 82) - (1 : Int32))).toNatClampNeg), .int ((σ.1 162) (((σ.1 106 82) - (1 : Int32))).toNatClampNeg)]) (pc1 := 185) (st1 := []) hC rfl (by decide) (by omega) (x_r_workLet (d - 1) (by omega) ((σ.1 106 82) - (1 : Int32)) ((σ.1 161) (((σ.1 106 82) - (1 : Int32))).toNatClampNeg) ((σ.1 162) (((σ.1 106 82) - (1 : Int32))).toNatClampNeg) σ q5 (none, q5) hq rfl) ?_
            refine jE_blk (bs := [(.goto (19), 0, 0)]) (i := .goto (-204)) (a1 := 0) (a2 := 0) (pc1 := 204) (l1 := [(3, .int ((σ.1 162) (((σ.1 106 82) - (1 : Int32))).toNatClampNeg)), (2, .int ((σ.1 161) (((σ.1 106 82) - (1 : Int32))).toNatClampNeg)), (1, .int ((σ.1 106 82) - (1 : Int32))), (0, .ref 106)]) (st1 := []) (σ1 := q5) (by decide +kernel) rfl (fun hC => ?_)
            exact jE_loc (l := [(0, .ref 106)]) (ks := [0]) rfl (by decide) ⟨rfl, trivial⟩ (x_r_go_204 d hd q5 _ res h hK)
          · rw [if_neg hc2] at h
            rcases Classical.em (((σ.1 112) (((σ.1 161) (((σ.1 106 82) - (1 : Int32))).toNatClampNeg)).toNatClampNeg) = 7) with hc3 | hc3
            · rw [if_pos hc3] at h
              refine jE_tsw 168 7 hC hc3 (by decide +kernel) ?_
              exact jE_loc (l := [(0, .ref 106), (1, .int ((σ.1 106 82) - (1 : Int32))), (2, .int ((σ.1 161) (((σ.1 106 82) - (1 : Int32))).toNatClampNeg)), (3, .int ((σ.1 162) (((σ.1 106 82) - (1 : Int32))).toNatClampNeg))]) (ks := [0, 1, 2, 3]) rfl (by decide) ⟨rfl, rfl, rfl, rfl, trivial⟩ (x_r_go_168 d hd ((σ.1 106 82) - (1 : Int32)) ((σ.1 161) (((σ.1 106 82) - (1 : Int32))).toNatClampNeg) ((σ.1 162) (((σ.1 106 82) - (1 : Int32))).toNatClampNeg) σ _ res h hK)
            · rw [if_neg hc3] at h
              rcases Classical.em (((σ.1 112) (((σ.1 161) (((σ.1 106 82) - (1 : Int32))).toNatClampNeg)).toNatClampNeg) = 10) with hc4 | hc4
              · rw [if_pos hc4] at h
                refine jE_tsw 168 10 hC hc4 (by decide +kernel) ?_
                exact jE_loc (l := [(0, .ref 106), (1, .int ((σ.1 106 82) - (1 : Int32))), (2, .int ((σ.1 161) (((σ.1 106 82) - (1 : Int32))).toNatClampNeg)), (3, .int ((σ.1 162) (((σ.1 106 82) - (1 : Int32))).toNatClampNeg))]) (ks := [0, 1, 2, 3]) rfl (by decide) ⟨rfl, rfl, rfl, rfl, trivial⟩ (x_r_go_168 d hd ((σ.1 106 82) - (1 : Int32)) ((σ.1 161) (((σ.1 106 82) - (1 : Int32))).toNatClampNeg) ((σ.1 162) (((σ.1 106 82) - (1 : Int32))).toNatClampNeg) σ _ res h hK)
              · rw [if_neg hc4] at h
                rcases Classical.em (((σ.1 112) (((σ.1 161) (((σ.1 106 82) - (1 : Int32))).toNatClampNeg)).toNatClampNeg) = 13) with hc5 | hc5
                · rw [if_pos hc5] at h
                  refine jE_tsw 138 13 hC hc5 (by decide +kernel) ?_
                  refine jE_blk (bs := [(.aload_n 0, 0, 0), (.lconst 1, 0, 0), (.iconst (0), 0, 0)]) (i := .invokestatic 533) (a1 := 209) (a2 := 0) (pc1 := 141) (l1 := [(3, .int ((σ.1 162) (((σ.1 106 82) - (1 : Int32))).toNatClampNeg)), (2, .int ((σ.1 161) (((σ.1 106 82) - (1 : Int32))).toNatClampNeg)), (1, .int ((σ.1 106 82) - (1 : Int32))), (0, .ref 106)]) (st1 := [.int (0 : Int32), .long (1 : Int64), .ref 106]) (σ1 := σ) (by decide +kernel) rfl (fun hC => ?_)
                  refine jE_call (as := [.long (1 : Int64), .int (0 : Int32)]) (pc1 := 144) (st1 := [.ref 106]) hC rfl (by decide) (by omega) (xv_r_tagged (d - 1) (by omega) (1 : Int64) (0 : Int32) σ) ?_
                  refine jE_blk (bs := []) (i := .invokevirtual 564) (a1 := 212) (a2 := 0) (pc1 := 144) (l1 := [(3, .int ((σ.1 162) (((σ.1 106 82) - (1 : Int32))).toNatClampNeg)), (2, .int ((σ.1 161) (((σ.1 106 82) - (1 : Int32))).toNatClampNeg)), (1, .int ((σ.1 106 82) - (1 : Int32))), (0, .ref 106)]) (st1 := [.long (v_r_tagged (1 : Int64) (0 : Int32) σ), .ref 106]) (σ1 := σ) (by decide +kernel) rfl (fun hC => ?_)
                  obtain ⟨q7, hq, h⟩ := Option.bind_eq_some_iff.mp h
                  refine jE_call (as := [.ref 106, .long (v_r_tagged (1 : Int64) (0 : Int32) σ)]) (pc1 := 147) (st1 := []) hC rfl (by decide) (by omega) (x_r_finish (d - 1) (by omega) (v_r_tagged (1 : Int64) (0 : Int32) σ) σ q7 (none, q7) hq rfl) ?_
                  refine jE_blk (bs := [(.goto (57), 0, 0)]) (i := .goto (-204)) (a1 := 0) (a2 := 0) (pc1 := 204) (l1 := [(3, .int ((σ.1 162) (((σ.1 106 82) - (1 : Int32))).toNatClampNeg)), (2, .int ((σ.1 161) (((σ.1 106 82) - (1 : Int32))).toNatClampNeg)), (1, .int ((σ.1 106 82) - (1 : Int32))), (0, .ref 106)]) (st1 := []) (σ1 := q7) (by decide +kernel) rfl (fun hC => ?_)
                  exact jE_loc (l := [(0, .ref 106)]) (ks := [0]) rfl (by decide) ⟨rfl, trivial⟩ (x_r_go_204 d hd q7 _ res h hK)
                · rw [if_neg hc5] at h
                  rcases Classical.em (((σ.1 112) (((σ.1 161) (((σ.1 106 82) - (1 : Int32))).toNatClampNeg)).toNatClampNeg) = 14) with hc6 | hc6
                  · rw [if_pos hc6] at h
                    refine jE_tsw 188 14 hC hc6 (by decide +kernel) ?_
                    refine jE_blk (bs := [(.aload_n 0, 0, 0), (.iload_n 2, 0, 0), (.iload_n 3, 0, 0)]) (i := .invokevirtual 598) (a1 := 225) (a2 := 0) (pc1 := 191) (l1 := [(3, .int ((σ.1 162) (((σ.1 106 82) - (1 : Int32))).toNatClampNeg)), (2, .int ((σ.1 161) (((σ.1 106 82) - (1 : Int32))).toNatClampNeg)), (1, .int ((σ.1 106 82) - (1 : Int32))), (0, .ref 106)]) (st1 := [.int ((σ.1 162) (((σ.1 106 82) - (1 : Int32))).toNatClampNeg), .int ((σ.1 161) (((σ.1 106 82) - (1 : Int32))).toNatClampNeg), .ref 106]) (σ1 := σ) (by decide +kernel) rfl (fun hC => ?_)
                    obtain ⟨q8, hq, h⟩ := Option.bind_eq_some_iff.mp h
                    refine jE_call (as := [.ref 106, .int ((σ.1 161) (((σ.1 106 82) - (1 : Int32))).toNatClampNeg), .int ((σ.1 162) (((σ.1 106 82) - (1 : Int32))).toNatClampNeg)]) (pc1 := 194) (st1 := []) hC rfl (by decide) (by omega) (x_r_workCons (d - 1) (by omega) ((σ.1 161) (((σ.1 106 82) - (1 : Int32))).toNatClampNeg) ((σ.1 162) (((σ.1 106 82) - (1 : Int32))).toNatClampNeg) σ q8 (none, q8) hq rfl) ?_
                    refine jE_blk (bs := [(.goto (10), 0, 0)]) (i := .goto (-204)) (a1 := 0) (a2 := 0) (pc1 := 204) (l1 := [(3, .int ((σ.1 162) (((σ.1 106 82) - (1 : Int32))).toNatClampNeg)), (2, .int ((σ.1 161) (((σ.1 106 82) - (1 : Int32))).toNatClampNeg)), (1, .int ((σ.1 106 82) - (1 : Int32))), (0, .ref 106)]) (st1 := []) (σ1 := q8) (by decide +kernel) rfl (fun hC => ?_)
                    exact jE_loc (l := [(0, .ref 106)]) (ks := [0]) rfl (by decide) ⟨rfl, trivial⟩ (x_r_go_204 d hd q8 _ res h hK)
                  · rw [if_neg hc6] at h
                    rcases Classical.em (((σ.1 112) (((σ.1 161) (((σ.1 106 82) - (1 : Int32))).toNatClampNeg)).toNatClampNeg) = 15) with hc7 | hc7
                    · rw [if_pos hc7] at h
                      refine jE_tsw 150 15 hC hc7 (by decide +kernel) ?_
                      refine jE_blk (bs := [(.aload_n 0, 0, 0), (.iconst (2), 2, 0), (.putfield 521, 12, 87), (.goto (49), 0, 0)]) (i := .goto (-204)) (a1 := 0) (a2 := 0) (pc1 := 204) (l1 := [(3, .int ((σ.1 162) (((σ.1 106 82) - (1 : Int32))).toNatClampNeg)), (2, .int ((σ.1 161) (((σ.1 106 82) - (1 : Int32))).toNatClampNeg)), (1, .int ((σ.1 106 82) - (1 : Int32))), (0, .ref 106)]) (st1 := []) (σ1 := (jx_i σ 106 87 (2 : Int32))) (by decide +kernel) rfl (fun hC => ?_)
                      exact jE_loc (l := [(0, .ref 106)]) (ks := [0]) rfl (by decide) ⟨rfl, trivial⟩ (x_r_go_204 d hd (jx_i σ 106 87 (2 : Int32)) _ res h hK)
                    · rw [if_neg hc7] at h
                      refine jE_tswD 197 [1, 2, 5, 7, 10, 13, 14, 15] hC (by decide +kernel) ⟨hc0, hc1, hc2, hc3, hc4, hc5, hc6, hc7, trivial⟩ ?_
                      exact jE_loc (l := [(0, .ref 106), (1, .int ((σ.1 106 82) - (1 : Int32))), (2, .int ((σ.1 161) (((σ.1 106 82) - (1 : Int32))).toNatClampNeg)), (3, .int ((σ.1 162) (((σ.1 106 82) - (1 : Int32))).toNatClampNeg))]) (ks := [0, 1, 2, 3]) rfl (by decide) ⟨rfl, rfl, rfl, rfl, trivial⟩ (x_r_go_197 d hd ((σ.1 106 82) - (1 : Int32)) ((σ.1 161) (((σ.1 106 82) - (1 : Int32))).toNatClampNeg) ((σ.1 162) (((σ.1 106 82) - (1 : Int32))).toNatClampNeg) σ _ res h hK)
def p_r_go_0 (σ : jx_S) : Option jx_S := jx_loop 100000000 (fun s => p_r_go_0_s (s)) σ
theorem x_r_go_0 (d : Nat) (hd : 5 ≤ d) (σ : jx_S) (t : jx_S) (res : Option Value × jx_S) (h : p_r_go_0 σ = some t) (hK : kkV t res) : jE d 226 0 [(0, .ref 106)] [] σ res := by
  refine jx_loop_ok (E := fun s t => ∀ res, kkV t res → jE d 226 0 [(0, .ref 106)] [] s res) (fun s t hs => ?_) _ _ _ h res hK
  cases t with
  | inl s1 => exact fun b hb res hk => x_r_go_0_s d hd (s) _ res hs (hb res hk)
  | inr b => exact fun res hk => x_r_go_0_s d hd (s) _ res hs hk
def p_r_go (σ : jx_S) : Option jx_S := (p_r_go_0 σ)
theorem x_r_go (d : Nat) (hd : 5 ≤ d) (σ : jx_S) (t : jx_S) (res : Option Value × jx_S) (h : p_r_go σ = some t) (hK : kkV t res) : jE d 226 0 [(0, .ref 106)] [] σ res := by
  unfold p_r_go at h
  exact jE_loc (l := [(0, .ref 106)]) (ks := [0]) rfl (by decide) ⟨rfl, trivial⟩ (x_r_go_0 d hd σ _ res h hK)
def p_r_worked (x1 : Int64) (σ : jx_S) : Option (Int64 × jx_S) := (if (v_r_tagOf x1 σ) = (3 : Int32) then (if (x1).toInt32 < 0 ∨ 3000 ≤ ((x1).toInt32).toNatClampNeg then none else (if ((σ.1 153) ((x1).toInt32).toNatClampNeg) = (2 : Int32) then (if (x1).toInt32 < 0 ∨ 3000 ≤ ((x1).toInt32).toNatClampNeg then none else (some ((((σ.2 154) ((x1).toInt32).toNatClampNeg), σ)))) else (if (x1).toInt32 < 0 ∨ 3000 ≤ ((x1).toInt32).toNatClampNeg then none else (if (x1).toInt32 < 0 ∨ 3000 ≤ ((x1).toInt32).toNatClampNeg then none else (if (x1).toInt32 < 0 ∨ 3000 ≤ ((x1).toInt32).toNatClampNeg then none else ((p_r_begin ((σ.1 151) ((x1).toInt32).toNatClampNeg) ((σ.1 152) ((x1).toInt32).toNatClampNeg) (x1).toInt32 (jx_i σ 153 ((x1).toInt32).toNatClampNeg (1 : Int32))).bind fun q1 => ((p_r_go q1).bind fun q2 => (some (((q2.2 106 90), q2)))))))))) else (some ((x1, σ))))
theorem x_r_worked (d : Nat) (hd : 6 ≤ d) (x1 : Int64) (σ : jx_S) (t : (Int64 × jx_S)) (res : Option Value × jx_S) (h : p_r_worked x1 σ = some t) (hK : kkJ t res) : jE d 227 0 [(0, .ref 106), (1, .long x1)] [] σ res := by
  unfold p_r_worked at h
  refine jE_blk (bs := [(.lload_n 1, 0, 0)]) (i := .invokestatic 553) (a1 := 210) (a2 := 0) (pc1 := 1) (l1 := [(0, .ref 106), (1, .long x1)]) (st1 := [.long x1]) (σ1 := σ) (by decide +kernel) rfl (fun hC => ?_)
  refine jE_call (as := [.long x1]) (pc1 := 4) (st1 := []) hC rfl (by decide) (by omega) (xv_r_tagOf (d - 1) (by omega) x1 σ) ?_
  refine jE_blk (bs := [(.iconst (3), 3, 0)]) (i := .if_icmp .eq (5)) (a1 := 0) (a2 := 0) (pc1 := 5) (l1 := [(0, .ref 106), (1, .long x1)]) (st1 := [.int (3 : Int32), .int (v_r_tagOf x1 σ)]) (σ1 := σ) (by decide +kernel) rfl (fun hC => ?_)
  rcases Classical.em ((v_r_tagOf x1 σ) = (3 : Int32)) with hc | hc
  · rw [if_pos hc] at h
    refine jE_icT 10 hC (by decide) hc ?_
    refine jE_blk (bs := [(.lload_n 1, 0, 0), (.l2i, 0, 0), (.istore_n 3, 4, 0), (.aload_n 0, 0, 0), (.getfield 155, 12, 65), (.iload_n 3, 0, 0)]) (i := .iaload) (a1 := 0) (a2 := 0) (pc1 := 18) (l1 := [(3, .int (x1).toInt32), (0, .ref 106), (1, .long x1)]) (st1 := [.int (x1).toInt32, .ref 153]) (σ1 := σ) (by decide +kernel) rfl (fun hC => ?_)
    obtain ⟨hi, h⟩ := jx_ite0_inv h
    refine jE_iald (n := 3000) hC (by decide) rfl hi ?_
    refine jE_blk (bs := [(.iconst (2), 2, 0)]) (i := .if_icmp .eq (36)) (a1 := 0) (a2 := 0) (pc1 := 20) (l1 := [(3, .int (x1).toInt32), (0, .ref 106), (1, .long x1)]) (st1 := [.int (2 : Int32), .int ((σ.1 153) ((x1).toInt32).toNatClampNeg)]) (σ1 := σ) (by decide +kernel) rfl (fun hC => ?_)
    rcases Classical.em (((σ.1 153) ((x1).toInt32).toNatClampNeg) = (2 : Int32)) with hc | hc
    · rw [if_pos hc] at h
      refine jE_icT 56 hC (by decide) hc ?_
      refine jE_blk (bs := [(.aload_n 0, 0, 0), (.getfield 158, 12, 66), (.iload_n 3, 0, 0)]) (i := .laload) (a1 := 0) (a2 := 0) (pc1 := 61) (l1 := [(3, .int (x1).toInt32), (0, .ref 106), (1, .long x1)]) (st1 := [.int (x1).toInt32, .ref 154]) (σ1 := σ) (by decide +kernel) rfl (fun hC => ?_)
      obtain ⟨hi, h⟩ := jx_ite0_inv h
      refine jE_lald (n := 3000) hC (by decide) rfl hi ?_
      refine jE_blk (bs := []) (i := .lreturn) (a1 := 0) (a2 := 0) (pc1 := 62) (l1 := [(3, .int (x1).toInt32), (0, .ref 106), (1, .long x1)]) (st1 := [.long ((σ.2 154) ((x1).toInt32).toNatClampNeg)]) (σ1 := σ) (by decide +kernel) rfl (fun hC => ?_)
      have h9 := Option.some.inj h
      subst h9
      have e9 : ((some (.long ((σ.2 154) ((x1).toInt32).toNatClampNeg)), σ) : Option Value × jx_S) = res := hK
      subst e9
      exact jE_ret hC rfl
    · rw [if_neg hc] at h
      refine jE_icF 56 hC (by decide) hc ?_
      refine jE_blk (bs := [(.aload_n 0, 0, 0), (.getfield 155, 12, 65), (.iload_n 3, 0, 0), (.iconst (1), 1, 0)]) (i := .iastore) (a1 := 0) (a2 := 0) (pc1 := 29) (l1 := [(3, .int (x1).toInt32), (0, .ref 106), (1, .long x1)]) (st1 := [.int (1 : Int32), .int (x1).toInt32, .ref 153]) (σ1 := σ) (by decide +kernel) rfl (fun hC => ?_)
      obtain ⟨hi, h⟩ := jx_ite0_inv h
      refine jE_iast (n := 3000) hC (by decide) rfl hi ?_
      refine jE_blk (bs := [(.aload_n 0, 0, 0), (.aload_n 0, 0, 0), (.getfield 149, 12, 63), (.iload_n 3, 0, 0)]) (i := .iaload) (a1 := 0) (a2 := 0) (pc1 := 36) (l1 := [(3, .int (x1).toInt32), (0, .ref 106), (1, .long x1)]) (st1 := [.int (x1).toInt32, .ref 151, .ref 106]) (σ1 := (jx_i σ 153 ((x1).toInt32).toNatClampNeg (1 : Int32))) (by decide +kernel) rfl (fun hC => ?_)
      obtain ⟨hi, h⟩ := jx_ite0_inv h
      refine jE_iald (n := 3000) hC (by decide) rfl hi ?_
      refine jE_blk (bs := [(.aload_n 0, 0, 0), (.getfield 152, 12, 64), (.iload_n 3, 0, 0)]) (i := .iaload) (a1 := 0) (a2 := 0) (pc1 := 42) (l1 := [(3, .int (x1).toInt32), (0, .ref 106), (1, .long x1)]) (st1 := [.int (x1).toInt32, .ref 152, .int ((σ.1 151) ((x1).toInt32).toNatClampNeg), .ref 106]) (σ1 := (jx_i σ 153 ((x1).toInt32).toNatClampNeg (1 : Int32))) (by decide +kernel) rfl (fun hC => ?_)
      obtain ⟨hi, h⟩ := jx_ite0_inv h
      refine jE_iald (n := 3000) hC (by decide) rfl hi ?_
      refine jE_blk (bs := [(.iload_n 3, 0, 0)]) (i := .invokevirtual 571) (a1 := 211) (a2 := 0) (pc1 := 44) (l1 := [(3, .int (x1).toInt32), (0, .ref 106), (1, .long x1)]) (st1 := [.int (x1).toInt32, .int ((σ.1 152) ((x1).toInt32).toNatClampNeg), .int ((σ.1 151) ((x1).toInt32).toNatClampNeg), .ref 106]) (σ1 := (jx_i σ 153 ((x1).toInt32).toNatClampNeg (1 : Int32))) (by decide +kernel) rfl (fun hC => ?_)
      obtain ⟨q1, hq, h⟩ := Option.bind_eq_some_iff.mp h
      refine jE_call (as := [.ref 106, .int ((σ.1 151) ((x1).toInt32).toNatClampNeg), .int ((σ.1 152) ((x1).toInt32).toNatClampNeg), .int (x1).toInt32]) (pc1 := 47) (st1 := []) hC rfl (by decide) (by omega) (x_r_begin (d - 1) (by omega) ((σ.1 151) ((x1).toInt32).toNatClampNeg) ((σ.1 152) ((x1).toInt32).toNatClampNeg) (x1).toInt32 (jx_i σ 153 ((x1).toInt32).toNatClampNeg (1 : Int32)) q1 (none, q1) hq rfl) ?_
      refine jE_blk (bs := [(.aload_n 0, 0, 0)]) (i := .invokevirtual 604) (a1 := 226) (a2 := 0) (pc1 := 48) (l1 := [(3, .int (x1).toInt32), (0, .ref 106), (1, .long x1)]) (st1 := [.ref 106]) (σ1 := q1) (by decide +kernel) rfl (fun hC => ?_)
      obtain ⟨q2, hq, h⟩ := Option.bind_eq_some_iff.mp h
      refine jE_call (as := [.ref 106]) (pc1 := 51) (st1 := []) hC rfl (by decide) (by omega) (x_r_go (d - 1) (by omega) q1 q2 (none, q2) hq rfl) ?_
      refine jE_blk (bs := [(.aload_n 0, 0, 0), (.getfield 529, 12, 90)]) (i := .lreturn) (a1 := 0) (a2 := 0) (pc1 := 55) (l1 := [(3, .int (x1).toInt32), (0, .ref 106), (1, .long x1)]) (st1 := [.long (q2.2 106 90)]) (σ1 := q2) (by decide +kernel) rfl (fun hC => ?_)
      have h9 := Option.some.inj h
      subst h9
      have e9 : ((some (.long (q2.2 106 90)), q2) : Option Value × jx_S) = res := hK
      subst e9
      exact jE_ret hC rfl
  · rw [if_neg hc] at h
    refine jE_icF 10 hC (by decide) hc ?_
    refine jE_blk (bs := [(.lload_n 1, 0, 0)]) (i := .lreturn) (a1 := 0) (a2 := 0) (pc1 := 9) (l1 := [(0, .ref 106), (1, .long x1)]) (st1 := [.long x1]) (σ1 := σ) (by decide +kernel) rfl (fun hC => ?_)
    have h9 := Option.some.inj h
    subst h9
    have e9 : ((some (.long x1), σ) : Option Value × jx_S) = res := hK
    subst e9
    exact jE_ret hC rfl
def kk_r_goAlong_5 (d : Nat) (t : ((Int64 × jx_S) ⊕ jx_S)) (res : Option Value × jx_S) : Prop := match t with
  | .inl s => jE d 228 5 [(0, .ref 106), (1, .long s.1)] [] s.2 res
  | .inr t => kkV t res
def p_r_goAlong_96 (x1 : Int64) (σ : jx_S) : Option jx_S := (if ¬ (σ.1 106 87) = 0 then (some ((jx_i σ 106 96 (0 : Int32)))) else (if ¬ (v_r_tagOf x1 σ) = (1 : Int32) then (some ((jx_i σ 106 96 (0 : Int32)))) else (some ((jx_i σ 106 96 (1 : Int32))))))
theorem x_r_goAlong_96 (d : Nat) (hd : 7 ≤ d) (x1 : Int64) (σ : jx_S) (t : jx_S) (res : Option Value × jx_S) (h : p_r_goAlong_96 x1 σ = some t) (hK : kkV t res) : jE d 228 96 [(0, .ref 106), (1, .long x1)] [] σ res := by
  unfold p_r_goAlong_96 at h
  refine jE_blk (bs := [(.aload_n 0, 0, 0), (.aload_n 0, 0, 0), (.getfield 521, 12, 87)]) (i := .ifCond .ne (15)) (a1 := 0) (a2 := 0) (pc1 := 101) (l1 := [(0, .ref 106), (1, .long x1)]) (st1 := [.int (σ.1 106 87), .ref 106]) (σ1 := σ) (by decide +kernel) rfl (fun hC => ?_)
  rcases Classical.em (¬ (σ.1 106 87) = 0) with hc | hc
  · rw [if_pos hc] at h
    refine jE_ifT 116 hC (by decide) hc ?_
    refine jE_blk (bs := [(.iconst (0), 0, 0), (.putfield 518, 12, 96)]) (i := .return_) (a1 := 0) (a2 := 0) (pc1 := 120) (l1 := [(0, .ref 106), (1, .long x1)]) (st1 := []) (σ1 := (jx_i σ 106 96 (0 : Int32))) (by decide +kernel) rfl (fun hC => ?_)
    have h9 := Option.some.inj h
    subst h9
    have e9 : ((none, (jx_i σ 106 96 (0 : Int32))) : Option Value × jx_S) = res := hK
    subst e9
    exact jE_ret hC rfl
  · rw [if_neg hc] at h
    refine jE_ifF 116 hC (by decide) hc ?_
    refine jE_blk (bs := [(.lload_n 1, 0, 0)]) (i := .invokestatic 553) (a1 := 210) (a2 := 0) (pc1 := 105) (l1 := [(0, .ref 106), (1, .long x1)]) (st1 := [.long x1, .ref 106]) (σ1 := σ) (by decide +kernel) rfl (fun hC => ?_)
    refine jE_call (as := [.long x1]) (pc1 := 108) (st1 := [.ref 106]) hC rfl (by decide) (by omega) (xv_r_tagOf (d - 1) (by omega) x1 σ) ?_
    refine jE_blk (bs := [(.iconst (1), 1, 0)]) (i := .if_icmp .ne (7)) (a1 := 0) (a2 := 0) (pc1 := 109) (l1 := [(0, .ref 106), (1, .long x1)]) (st1 := [.int (1 : Int32), .int (v_r_tagOf x1 σ), .ref 106]) (σ1 := σ) (by decide +kernel) rfl (fun hC => ?_)
    rcases Classical.em (¬ (v_r_tagOf x1 σ) = (1 : Int32)) with hc | hc
    · rw [if_pos hc] at h
      refine jE_icT 116 hC (by decide) hc ?_
      refine jE_blk (bs := [(.iconst (0), 0, 0), (.putfield 518, 12, 96)]) (i := .return_) (a1 := 0) (a2 := 0) (pc1 := 120) (l1 := [(0, .ref 106), (1, .long x1)]) (st1 := []) (σ1 := (jx_i σ 106 96 (0 : Int32))) (by decide +kernel) rfl (fun hC => ?_)
      have h9 := Option.some.inj h
      subst h9
      have e9 : ((none, (jx_i σ 106 96 (0 : Int32))) : Option Value × jx_S) = res := hK
      subst e9
      exact jE_ret hC rfl
    · rw [if_neg hc] at h
      refine jE_icF 116 hC (by decide) hc ?_
      refine jE_blk (bs := [(.iconst (1), 1, 0), (.goto (4), 0, 0), (.putfield 518, 12, 96)]) (i := .return_) (a1 := 0) (a2 := 0) (pc1 := 120) (l1 := [(0, .ref 106), (1, .long x1)]) (st1 := []) (σ1 := (jx_i σ 106 96 (1 : Int32))) (by decide +kernel) rfl (fun hC => ?_)
      have h9 := Option.some.inj h
      subst h9
      have e9 : ((none, (jx_i σ 106 96 (1 : Int32))) : Option Value × jx_S) = res := hK
      subst e9
      exact jE_ret hC rfl
def p_r_goAlong_93 (x1 : Int64) (σ : jx_S) : Option ((Int64 × jx_S) ⊕ jx_S) := (some (.inl (x1, σ)))
theorem x_r_goAlong_93 (d : Nat) (hd : 7 ≤ d) (x1 : Int64) (σ : jx_S) (t : ((Int64 × jx_S) ⊕ jx_S)) (res : Option Value × jx_S) (h : p_r_goAlong_93 x1 σ = some t) (hK : kk_r_goAlong_5 d t res) : jE d 228 93 [(0, .ref 106), (1, .long x1)] [] σ res := by
  unfold p_r_goAlong_93 at h
  refine jE_blk (bs := [(.goto (-88), 0, 0)]) (i := .aload_n 0) (a1 := 0) (a2 := 0) (pc1 := 5) (l1 := [(0, .ref 106), (1, .long x1)]) (st1 := []) (σ1 := σ) (by decide +kernel) rfl (fun hC => ?_)
  have h9 := Option.some.inj h
  subst h9
  exact jE_loc (l := [(0, .ref 106), (1, .long x1)]) (ks := [0, 1]) rfl (by decide) ⟨rfl, rfl, trivial⟩ hK
def p_r_goAlong_5_s (x1 : Int64) (σ : jx_S) : Option ((Int64 × jx_S) ⊕ jx_S) := (if ¬ (σ.1 106 87) = 0 then (Option.map Sum.inr (p_r_goAlong_96 x1 σ)) else (if ¬ (v_r_tagOf x1 σ) = (2 : Int32) then (Option.map Sum.inr (p_r_goAlong_96 x1 σ)) else (if (50 : Int32) ≤ (σ.1 106 95) then (Option.map Sum.inr (p_r_goAlong_96 x1 σ)) else (if (x1).toInt32 < 0 ∨ 3000 ≤ ((x1).toInt32).toNatClampNeg then none else ((p_r_worked ((σ.2 155) ((x1).toInt32).toNatClampNeg) σ).bind fun q4 => (if ¬ (q4.2.1 106 87) = 0 then (p_r_goAlong_93 x1 q4.2) else (if (q4.2.1 106 95) < 0 ∨ 50 ≤ ((q4.2.1 106 95)).toNatClampNeg then none else (if (50 : Int32) ≤ ((q4.2.1 106 95) + (1 : Int32)) then (p_r_goAlong_93 x1 (jx_i (jx_i q4.2 167 ((q4.2.1 106 95)).toNatClampNeg (q4.1).toInt32) 106 95 ((q4.2.1 106 95) + (1 : Int32)))) else (if (x1).toInt32 < 0 ∨ 3000 ≤ ((x1).toInt32).toNatClampNeg then none else ((p_r_worked ((q4.2.2 156) ((x1).toInt32).toNatClampNeg) (jx_i (jx_i q4.2 167 ((q4.2.1 106 95)).toNatClampNeg (q4.1).toInt32) 106 95 ((q4.2.1 106 95) + (1 : Int32)))).bind fun q5 => (p_r_goAlong_93 q5.1 q5.2)))))))))))
theorem x_r_goAlong_5_s (d : Nat) (hd : 7 ≤ d) (x1 : Int64) (σ : jx_S) (t : ((Int64 × jx_S) ⊕ jx_S)) (res : Option Value × jx_S) (h : p_r_goAlong_5_s x1 σ = some t) (hK : kk_r_goAlong_5 d t res) : jE d 228 5 [(0, .ref 106), (1, .long x1)] [] σ res := by
  unfold p_r_goAlong_5_s at h
  refine jE_blk (bs := [(.aload_n 0, 0, 0), (.getfield 521, 12, 87)]) (i := .ifCond .ne (87)) (a1 := 0) (a2 := 0) (pc1 := 9) (l1 := [(0, .ref 106), (1, .long x1)]) (st1 := [.int (σ.1 106 87)]) (σ1 := σ) (by decide +kernel) rfl (fun hC => ?_)
  rcases Classical.em (¬ (σ.1 106 87) = 0) with hc | hc
  · rw [if_pos hc] at h
    refine jE_ifT 96 hC (by decide) hc ?_
    obtain ⟨t9_1, h9_1, h8_1⟩ := Option.map_eq_some_iff.mp h
    clear h
    subst h8_1
    have h := h9_1
    clear h9_1
    exact jE_loc (l := [(0, .ref 106), (1, .long x1)]) (ks := [0, 1]) rfl (by decide) ⟨rfl, rfl, trivial⟩ (x_r_goAlong_96 d hd x1 σ _ res h hK)
  · rw [if_neg hc] at h
    refine jE_ifF 96 hC (by decide) hc ?_
    refine jE_blk (bs := [(.lload_n 1, 0, 0)]) (i := .invokestatic 553) (a1 := 210) (a2 := 0) (pc1 := 13) (l1 := [(0, .ref 106), (1, .long x1)]) (st1 := [.long x1]) (σ1 := σ) (by decide +kernel) rfl (fun hC => ?_)
    refine jE_call (as := [.long x1]) (pc1 := 16) (st1 := []) hC rfl (by decide) (by omega) (xv_r_tagOf (d - 1) (by omega) x1 σ) ?_
    refine jE_blk (bs := [(.iconst (2), 2, 0)]) (i := .if_icmp .ne (79)) (a1 := 0) (a2 := 0) (pc1 := 17) (l1 := [(0, .ref 106), (1, .long x1)]) (st1 := [.int (2 : Int32), .int (v_r_tagOf x1 σ)]) (σ1 := σ) (by decide +kernel) rfl (fun hC => ?_)
    rcases Classical.em (¬ (v_r_tagOf x1 σ) = (2 : Int32)) with hc | hc
    · rw [if_pos hc] at h
      refine jE_icT 96 hC (by decide) hc ?_
      obtain ⟨t9_2, h9_2, h8_2⟩ := Option.map_eq_some_iff.mp h
      clear h
      subst h8_2
      have h := h9_2
      clear h9_2
      exact jE_loc (l := [(0, .ref 106), (1, .long x1)]) (ks := [0, 1]) rfl (by decide) ⟨rfl, rfl, trivial⟩ (x_r_goAlong_96 d hd x1 σ _ res h hK)
    · rw [if_neg hc] at h
      refine jE_icF 96 hC (by decide) hc ?_
      refine jE_blk (bs := [(.aload_n 0, 0, 0), (.getfield 515, 12, 95), (.bipush (50), 50, 0)]) (i := .if_icmp .ge (70)) (a1 := 0) (a2 := 0) (pc1 := 26) (l1 := [(0, .ref 106), (1, .long x1)]) (st1 := [.int (50 : Int32), .int (σ.1 106 95)]) (σ1 := σ) (by decide +kernel) rfl (fun hC => ?_)
      rcases Classical.em ((50 : Int32) ≤ (σ.1 106 95)) with hc | hc
      · rw [if_pos hc] at h
        refine jE_icT 96 hC (by decide) hc ?_
        obtain ⟨t9_3, h9_3, h8_3⟩ := Option.map_eq_some_iff.mp h
        clear h
        subst h8_3
        have h := h9_3
        clear h9_3
        exact jE_loc (l := [(0, .ref 106), (1, .long x1)]) (ks := [0, 1]) rfl (by decide) ⟨rfl, rfl, trivial⟩ (x_r_goAlong_96 d hd x1 σ _ res h hK)
      · rw [if_neg hc] at h
        refine jE_icF 96 hC (by decide) hc ?_
        refine jE_blk (bs := [(.lload_n 1, 0, 0), (.l2i, 0, 0), (.istore_n 3, 6, 0), (.aload_n 0, 0, 0), (.aload_n 0, 0, 0), (.getfield 161, 12, 68), (.iload_n 3, 0, 0)]) (i := .laload) (a1 := 0) (a2 := 0) (pc1 := 38) (l1 := [(3, .int (x1).toInt32), (0, .ref 106), (1, .long x1)]) (st1 := [.int (x1).toInt32, .ref 155, .ref 106]) (σ1 := σ) (by decide +kernel) rfl (fun hC => ?_)
        obtain ⟨hi, h⟩ := jx_ite0_inv h
        refine jE_lald (n := 3000) hC (by decide) rfl hi ?_
        refine jE_blk (bs := []) (i := .invokevirtual 607) (a1 := 227) (a2 := 0) (pc1 := 39) (l1 := [(3, .int (x1).toInt32), (0, .ref 106), (1, .long x1)]) (st1 := [.long ((σ.2 155) ((x1).toInt32).toNatClampNeg), .ref 106]) (σ1 := σ) (by decide +kernel) rfl (fun hC => ?_)
        obtain ⟨q4, hq, h⟩ := Option.bind_eq_some_iff.mp h
        refine jE_call (as := [.ref 106, .long ((σ.2 155) ((x1).toInt32).toNatClampNeg)]) (pc1 := 42) (st1 := []) hC rfl (by decide) (by omega) (x_r_worked (d - 1) (by omega) ((σ.2 155) ((x1).toInt32).toNatClampNeg) σ q4 (some (.long q4.1), q4.2) hq rfl) ?_
        refine jE_blk (bs := [(.lstore 4, 6, 0), (.aload_n 0, 0, 0), (.getfield 521, 12, 87)]) (i := .ifCond .ne (45)) (a1 := 0) (a2 := 0) (pc1 := 48) (l1 := [(4, .long q4.1), (3, .int (x1).toInt32), (0, .ref 106), (1, .long x1)]) (st1 := [.int (q4.2.1 106 87)]) (σ1 := q4.2) (by decide +kernel) rfl (fun hC => ?_)
        rcases Classical.em (¬ (q4.2.1 106 87) = 0) with hc | hc
        · rw [if_pos hc] at h
          refine jE_ifT 93 hC (by decide) hc ?_
          exact jE_loc (l := [(0, .ref 106), (1, .long x1)]) (ks := [0, 1]) rfl (by decide) ⟨rfl, rfl, trivial⟩ (x_r_goAlong_93 d hd x1 q4.2 _ res h hK)
        · rw [if_neg hc] at h
          refine jE_ifF 93 hC (by decide) hc ?_
          refine jE_blk (bs := [(.aload_n 0, 0, 0), (.getfield 197, 12, 94), (.aload_n 0, 0, 0), (.getfield 515, 12, 95), (.lload 4, 0, 0), (.l2i, 0, 0)]) (i := .iastore) (a1 := 0) (a2 := 0) (pc1 := 62) (l1 := [(4, .long q4.1), (3, .int (x1).toInt32), (0, .ref 106), (1, .long x1)]) (st1 := [.int (q4.1).toInt32, .int (q4.2.1 106 95), .ref 167]) (σ1 := q4.2) (by decide +kernel) rfl (fun hC => ?_)
          obtain ⟨hi, h⟩ := jx_ite0_inv h
          refine jE_iast (n := 50) hC (by decide) rfl hi ?_
          refine jE_blk (bs := [(.aload_n 0, 0, 0), (.dup, 0, 0), (.getfield 515, 12, 95), (.iconst (1), 1, 0), (.iadd, 0, 0), (.putfield 515, 12, 95), (.aload_n 0, 0, 0), (.getfield 515, 12, 95), (.bipush (50), 50, 0)]) (i := .if_icmp .ge (14)) (a1 := 0) (a2 := 0) (pc1 := 79) (l1 := [(4, .long q4.1), (3, .int (x1).toInt32), (0, .ref 106), (1, .long x1)]) (st1 := [.int (50 : Int32), .int ((q4.2.1 106 95) + (1 : Int32))]) (σ1 := (jx_i (jx_i q4.2 167 ((q4.2.1 106 95)).toNatClampNeg (q4.1).toInt32) 106 95 ((q4.2.1 106 95) + (1 : Int32)))) (by decide +kernel) rfl (fun hC => ?_)
          rcases Classical.em ((50 : Int32) ≤ ((q4.2.1 106 95) + (1 : Int32))) with hc | hc
          · rw [if_pos hc] at h
            refine jE_icT 93 hC (by decide) hc ?_
            exact jE_loc (l := [(0, .ref 106), (1, .long x1)]) (ks := [0, 1]) rfl (by decide) ⟨rfl, rfl, trivial⟩ (x_r_goAlong_93 d hd x1 (jx_i (jx_i q4.2 167 ((q4.2.1 106 95)).toNatClampNeg (q4.1).toInt32) 106 95 ((q4.2.1 106 95) + (1 : Int32))) _ res h hK)
          · rw [if_neg hc] at h
            refine jE_icF 93 hC (by decide) hc ?_
            refine jE_blk (bs := [(.aload_n 0, 0, 0), (.aload_n 0, 0, 0), (.getfield 164, 12, 69), (.iload_n 3, 0, 0)]) (i := .laload) (a1 := 0) (a2 := 0) (pc1 := 88) (l1 := [(4, .long q4.1), (3, .int (x1).toInt32), (0, .ref 106), (1, .long x1)]) (st1 := [.int (x1).toInt32, .ref 156, .ref 106]) (σ1 := (jx_i (jx_i q4.2 167 ((q4.2.1 106 95)).toNatClampNeg (q4.1).toInt32) 106 95 ((q4.2.1 106 95) + (1 : Int32)))) (by decide +kernel) rfl (fun hC => ?_)
            obtain ⟨hi, h⟩ := jx_ite0_inv h
            refine jE_lald (n := 3000) hC (by decide) rfl hi ?_
            refine jE_blk (bs := []) (i := .invokevirtual 607) (a1 := 227) (a2 := 0) (pc1 := 89) (l1 := [(4, .long q4.1), (3, .int (x1).toInt32), (0, .ref 106), (1, .long x1)]) (st1 := [.long ((q4.2.2 156) ((x1).toInt32).toNatClampNeg), .ref 106]) (σ1 := (jx_i (jx_i q4.2 167 ((q4.2.1 106 95)).toNatClampNeg (q4.1).toInt32) 106 95 ((q4.2.1 106 95) + (1 : Int32)))) (by decide +kernel) rfl (fun hC => ?_)
            obtain ⟨q5, hq, h⟩ := Option.bind_eq_some_iff.mp h
            refine jE_call (as := [.ref 106, .long ((q4.2.2 156) ((x1).toInt32).toNatClampNeg)]) (pc1 := 92) (st1 := []) hC rfl (by decide) (by omega) (x_r_worked (d - 1) (by omega) ((q4.2.2 156) ((x1).toInt32).toNatClampNeg) (jx_i (jx_i q4.2 167 ((q4.2.1 106 95)).toNatClampNeg (q4.1).toInt32) 106 95 ((q4.2.1 106 95) + (1 : Int32))) q5 (some (.long q5.1), q5.2) hq rfl) ?_
            refine jE_blk (bs := [(.lstore_n 1, 6, 0)]) (i := .goto (-88)) (a1 := 0) (a2 := 0) (pc1 := 93) (l1 := [(1, .long q5.1), (4, .long q4.1), (3, .int (x1).toInt32), (0, .ref 106)]) (st1 := []) (σ1 := q5.2) (by decide +kernel) rfl (fun hC => ?_)
            exact jE_loc (l := [(0, .ref 106), (1, .long q5.1)]) (ks := [0, 1]) rfl (by decide) ⟨rfl, rfl, trivial⟩ (x_r_goAlong_93 d hd q5.1 q5.2 _ res h hK)
def p_r_goAlong_5 (x1 : Int64) (σ : jx_S) : Option jx_S := jx_loop 100000000 (fun s => p_r_goAlong_5_s s.1 (s.2)) (x1, σ)
theorem x_r_goAlong_5 (d : Nat) (hd : 7 ≤ d) (x1 : Int64) (σ : jx_S) (t : jx_S) (res : Option Value × jx_S) (h : p_r_goAlong_5 x1 σ = some t) (hK : kkV t res) : jE d 228 5 [(0, .ref 106), (1, .long x1)] [] σ res := by
  refine jx_loop_ok (E := fun s t => ∀ res, kkV t res → jE d 228 5 [(0, .ref 106), (1, .long s.1)] [] s.2 res) (fun s t hs => ?_) _ _ _ h res hK
  cases t with
  | inl s1 => exact fun b hb res hk => x_r_goAlong_5_s d hd (s.1) (s.2) _ res hs (hb res hk)
  | inr b => exact fun res hk => x_r_goAlong_5_s d hd (s.1) (s.2) _ res hs hk
def p_r_goAlong (σ : jx_S) : Option jx_S := (p_r_goAlong_5 (σ.2 106 90) σ)
theorem x_r_goAlong (d : Nat) (hd : 7 ≤ d) (σ : jx_S) (t : jx_S) (res : Option Value × jx_S) (h : p_r_goAlong σ = some t) (hK : kkV t res) : jE d 228 0 [(0, .ref 106)] [] σ res := by
  unfold p_r_goAlong at h
  refine jE_blk (bs := [(.aload_n 0, 0, 0), (.getfield 529, 12, 90), (.lstore_n 1, 6, 0)]) (i := .aload_n 0) (a1 := 0) (a2 := 0) (pc1 := 5) (l1 := [(1, .long (σ.2 106 90)), (0, .ref 106)]) (st1 := []) (σ1 := σ) (by decide +kernel) rfl (fun hC => ?_)
  exact jE_loc (l := [(0, .ref 106), (1, .long (σ.2 106 90))]) (ks := [0, 1]) rfl (by decide) ⟨rfl, rfl, trivial⟩ (x_r_goAlong_5 d hd (σ.2 106 90) σ _ res h hK)
def p_r_argument_15 (x1 : Int32) (y0 : Int32) (σ : jx_S) : Option (Int32 × jx_S) := (if y0 ≤ 0 then (if (σ.1 106 98) < 0 ∨ 8 ≤ ((σ.1 106 98)).toNatClampNeg then none else (some ((((σ.1 106 98) + (1 : Int32)), (jx_i (jx_i (jx_i σ 106 2 y0) 168 ((σ.1 106 98)).toNatClampNeg x1) 106 98 ((σ.1 106 98) + (1 : Int32))))))) else (some (((0 : Int32), (jx_i σ 106 2 y0)))))
theorem x_r_argument_15 (d : Nat) (hd : 0 ≤ d) (x1 : Int32) (y0 : Int32) (σ : jx_S) (t : (Int32 × jx_S)) (res : Option Value × jx_S) (h : p_r_argument_15 x1 y0 σ = some t) (hK : kkI t res) : jE d 229 15 [(0, .ref 106), (1, .int x1)] [.int y0, .ref 106] σ res := by
  unfold p_r_argument_15 at h
  refine jE_blk (bs := [(.putfield 209, 12, 2), (.aload_n 0, 0, 0), (.getfield 209, 12, 2)]) (i := .ifCond .le (5)) (a1 := 0) (a2 := 0) (pc1 := 22) (l1 := [(0, .ref 106), (1, .int x1)]) (st1 := [.int y0]) (σ1 := (jx_i σ 106 2 y0)) (by decide +kernel) rfl (fun hC => ?_)
  rcases Classical.em (y0 ≤ 0) with hc | hc
  · rw [if_pos hc] at h
    refine jE_ifT 27 hC (by decide) hc ?_
    refine jE_blk (bs := [(.aload_n 0, 0, 0), (.getfield 200, 12, 97), (.aload_n 0, 0, 0), (.getfield 225, 12, 98), (.iload_n 1, 0, 0)]) (i := .iastore) (a1 := 0) (a2 := 0) (pc1 := 36) (l1 := [(0, .ref 106), (1, .int x1)]) (st1 := [.int x1, .int (σ.1 106 98), .ref 168]) (σ1 := (jx_i σ 106 2 y0)) (by decide +kernel) rfl (fun hC => ?_)
    obtain ⟨hi, h⟩ := jx_ite0_inv h
    refine jE_iast (n := 8) hC (by decide) rfl hi ?_
    refine jE_blk (bs := [(.aload_n 0, 0, 0), (.dup, 0, 0), (.getfield 225, 12, 98), (.iconst (1), 1, 0), (.iadd, 0, 0), (.putfield 225, 12, 98), (.aload_n 0, 0, 0), (.getfield 225, 12, 98)]) (i := .ireturn) (a1 := 0) (a2 := 0) (pc1 := 51) (l1 := [(0, .ref 106), (1, .int x1)]) (st1 := [.int ((σ.1 106 98) + (1 : Int32))]) (σ1 := (jx_i (jx_i (jx_i σ 106 2 y0) 168 ((σ.1 106 98)).toNatClampNeg x1) 106 98 ((σ.1 106 98) + (1 : Int32)))) (by decide +kernel) rfl (fun hC => ?_)
    have h9 := Option.some.inj h
    subst h9
    have e9 : ((some (.int ((σ.1 106 98) + (1 : Int32))), (jx_i (jx_i (jx_i σ 106 2 y0) 168 ((σ.1 106 98)).toNatClampNeg x1) 106 98 ((σ.1 106 98) + (1 : Int32)))) : Option Value × jx_S) = res := hK
    subst e9
    exact jE_ret hC rfl
  · rw [if_neg hc] at h
    refine jE_ifF 27 hC (by decide) hc ?_
    refine jE_blk (bs := [(.iconst (0), 0, 0)]) (i := .ireturn) (a1 := 0) (a2 := 0) (pc1 := 26) (l1 := [(0, .ref 106), (1, .int x1)]) (st1 := [.int (0 : Int32)]) (σ1 := (jx_i σ 106 2 y0)) (by decide +kernel) rfl (fun hC => ?_)
    have h9 := Option.some.inj h
    subst h9
    have e9 : ((some (.int (0 : Int32)), (jx_i σ 106 2 y0)) : Option Value × jx_S) = res := hK
    subst e9
    exact jE_ret hC rfl
def p_r_argument (x1 : Int32) (σ : jx_S) : Option (Int32 × jx_S) := (if ¬ (σ.1 106 98) = (8 : Int32) then (p_r_argument_15 x1 (0 : Int32) σ) else (p_r_argument_15 x1 (1 : Int32) σ))
theorem x_r_argument (d : Nat) (hd : 0 ≤ d) (x1 : Int32) (σ : jx_S) (t : (Int32 × jx_S)) (res : Option Value × jx_S) (h : p_r_argument x1 σ = some t) (hK : kkI t res) : jE d 229 0 [(0, .ref 106), (1, .int x1)] [] σ res := by
  unfold p_r_argument at h
  refine jE_blk (bs := [(.aload_n 0, 0, 0), (.aload_n 0, 0, 0), (.getfield 225, 12, 98), (.bipush (8), 8, 0)]) (i := .if_icmp .ne (7)) (a1 := 0) (a2 := 0) (pc1 := 7) (l1 := [(0, .ref 106), (1, .int x1)]) (st1 := [.int (8 : Int32), .int (σ.1 106 98), .ref 106]) (σ1 := σ) (by decide +kernel) rfl (fun hC => ?_)
  rcases Classical.em (¬ (σ.1 106 98) = (8 : Int32)) with hc | hc
  · rw [if_pos hc] at h
    refine jE_icT 14 hC (by decide) hc ?_
    refine jE_blk (bs := [(.iconst (0), 0, 0)]) (i := .putfield 209) (a1 := 12) (a2 := 2) (pc1 := 15) (l1 := [(0, .ref 106), (1, .int x1)]) (st1 := [.int (0 : Int32), .ref 106]) (σ1 := σ) (by decide +kernel) rfl (fun hC => ?_)
    exact jE_loc (l := [(0, .ref 106), (1, .int x1)]) (ks := [0, 1]) rfl (by decide) ⟨rfl, rfl, trivial⟩ (x_r_argument_15 d hd x1 (0 : Int32) σ _ res h hK)
  · rw [if_neg hc] at h
    refine jE_icF 14 hC (by decide) hc ?_
    refine jE_blk (bs := [(.iconst (1), 1, 0), (.goto (4), 0, 0)]) (i := .putfield 209) (a1 := 12) (a2 := 2) (pc1 := 15) (l1 := [(0, .ref 106), (1, .int x1)]) (st1 := [.int (1 : Int32), .ref 106]) (σ1 := σ) (by decide +kernel) rfl (fun hC => ?_)
    exact jE_loc (l := [(0, .ref 106), (1, .int x1)]) (ks := [0, 1]) rfl (by decide) ⟨rfl, rfl, trivial⟩ (x_r_argument_15 d hd x1 (1 : Int32) σ _ res h hK)
def kk_r_run_42 (d : Nat) (t : ((Int32 × Int32 × Int32 × Int32 × Int32 × jx_S) ⊕ (Int32 × jx_S))) (res : Option Value × jx_S) : Prop := match t with
  | .inl s => jE d 230 42 [(0, .ref 106), (1, .int s.1), (2, .int s.2.1), (3, .int s.2.2.1), (4, .int s.2.2.2.1), (5, .int s.2.2.2.2.1)] [] s.2.2.2.2.2 res
  | .inr t => kkI t res
def kk_r_run_138 (d : Nat) (t : ((Int32 × Int32 × jx_S) ⊕ (Int32 × jx_S))) (res : Option Value × jx_S) : Prop := match t with
  | .inl s => jE d 230 138 [(0, .ref 106), (1, .int s.1), (5, .int s.2.1)] [] s.2.2 res
  | .inr t => kkI t res
def p_r_run_246 (σ : jx_S) : Option (Int32 × jx_S) := (if ¬ (σ.1 106 87) = 0 then (some (((σ.1 106 87), (jx_i σ 106 87 (σ.1 106 87))))) else (some (((1 : Int32), (jx_i σ 106 87 (1 : Int32))))))
theorem x_r_run_246 (d : Nat) (hd : 8 ≤ d) (σ : jx_S) (t : (Int32 × jx_S)) (res : Option Value × jx_S) (h : p_r_run_246 σ = some t) (hK : kkI t res) : jE d 230 246 [(0, .ref 106)] [] σ res := by
  unfold p_r_run_246 at h
  refine jE_blk (bs := [(.aload_n 0, 0, 0), (.aload_n 0, 0, 0), (.getfield 521, 12, 87)]) (i := .ifCond .ne (7)) (a1 := 0) (a2 := 0) (pc1 := 251) (l1 := [(0, .ref 106)]) (st1 := [.int (σ.1 106 87), .ref 106]) (σ1 := σ) (by decide +kernel) rfl (fun hC => ?_)
  rcases Classical.em (¬ (σ.1 106 87) = 0) with hc | hc
  · rw [if_pos hc] at h
    refine jE_ifT 258 hC (by decide) hc ?_
    refine jE_blk (bs := [(.aload_n 0, 0, 0), (.getfield 521, 12, 87), (.putfield 521, 12, 87), (.aload_n 0, 0, 0), (.getfield 521, 12, 87)]) (i := .ireturn) (a1 := 0) (a2 := 0) (pc1 := 269) (l1 := [(0, .ref 106)]) (st1 := [.int (σ.1 106 87)]) (σ1 := (jx_i σ 106 87 (σ.1 106 87))) (by decide +kernel) rfl (fun hC => ?_)
    have h9 := Option.some.inj h
    subst h9
    have e9 : ((some (.int (σ.1 106 87)), (jx_i σ 106 87 (σ.1 106 87))) : Option Value × jx_S) = res := hK
    subst e9
    exact jE_ret hC rfl
  · rw [if_neg hc] at h
    refine jE_ifF 258 hC (by decide) hc ?_
    refine jE_blk (bs := [(.iconst (1), 1, 0), (.goto (7), 0, 0), (.putfield 521, 12, 87), (.aload_n 0, 0, 0), (.getfield 521, 12, 87)]) (i := .ireturn) (a1 := 0) (a2 := 0) (pc1 := 269) (l1 := [(0, .ref 106)]) (st1 := [.int (1 : Int32)]) (σ1 := (jx_i σ 106 87 (1 : Int32))) (by decide +kernel) rfl (fun hC => ?_)
    have h9 := Option.some.inj h
    subst h9
    have e9 : ((some (.int (1 : Int32)), (jx_i σ 106 87 (1 : Int32))) : Option Value × jx_S) = res := hK
    subst e9
    exact jE_ret hC rfl
def p_r_run_235 (σ : jx_S) : Option (Int32 × jx_S) := (if ¬ (σ.1 106 87) = 0 then (p_r_run_246 σ) else ((p_r_goAlong σ).bind fun q4 => (p_r_run_246 q4)))
theorem x_r_run_235 (d : Nat) (hd : 8 ≤ d) (σ : jx_S) (t : (Int32 × jx_S)) (res : Option Value × jx_S) (h : p_r_run_235 σ = some t) (hK : kkI t res) : jE d 230 235 [(0, .ref 106)] [] σ res := by
  unfold p_r_run_235 at h
  refine jE_blk (bs := [(.aload_n 0, 0, 0), (.getfield 521, 12, 87)]) (i := .ifCond .ne (7)) (a1 := 0) (a2 := 0) (pc1 := 239) (l1 := [(0, .ref 106)]) (st1 := [.int (σ.1 106 87)]) (σ1 := σ) (by decide +kernel) rfl (fun hC => ?_)
  rcases Classical.em (¬ (σ.1 106 87) = 0) with hc | hc
  · rw [if_pos hc] at h
    refine jE_ifT 246 hC (by decide) hc ?_
    exact jE_loc (l := [(0, .ref 106)]) (ks := [0]) rfl (by decide) ⟨rfl, trivial⟩ (x_r_run_246 d hd σ _ res h hK)
  · rw [if_neg hc] at h
    refine jE_ifF 246 hC (by decide) hc ?_
    refine jE_blk (bs := [(.aload_n 0, 0, 0)]) (i := .invokevirtual 612) (a1 := 228) (a2 := 0) (pc1 := 243) (l1 := [(0, .ref 106)]) (st1 := [.ref 106]) (σ1 := σ) (by decide +kernel) rfl (fun hC => ?_)
    obtain ⟨q4, hq, h⟩ := Option.bind_eq_some_iff.mp h
    refine jE_call (as := [.ref 106]) (pc1 := 246) (st1 := []) hC rfl (by decide) (by omega) (x_r_goAlong (d - 1) (by omega) σ q4 (none, q4) hq rfl) ?_
    exact jE_loc (l := [(0, .ref 106)]) (ks := [0]) rfl (by decide) ⟨rfl, trivial⟩ (x_r_run_246 d hd q4 _ res h hK)
def p_r_run_138_s (x1 : Int32) (x5 : Int32) (σ : jx_S) : Option ((Int32 × Int32 × jx_S) ⊕ (Int32 × jx_S)) := (if (σ.1 106 98) ≤ x5 then (Option.map Sum.inr ((p_r_call (v_r_tagged (4 : Int64) x1 (jx_i (jx_i σ 106 85 (σ.1 106 98)) 106 98 (0 : Int32))) (σ.1 106 98) (jx_i (jx_i σ 106 85 (σ.1 106 98)) 106 98 (0 : Int32))).bind fun q2 => ((p_r_go q2).bind fun q3 => (if ¬ (q3.1 106 87) = 0 then (p_r_run_235 q3) else (if x1 < 0 ∨ 40 ≤ (x1).toNatClampNeg then none else (if ¬ ((q3.1 128) (x1).toNatClampNeg) = 0 then (p_r_run_235 q3) else (p_r_run_246 (jx_i q3 106 93 ((q3.2 106 90)).toInt32)))))))) else (if x5 < 0 ∨ 8 ≤ (x5).toNatClampNeg then none else (if x5 < 0 ∨ 4000 ≤ (x5).toNatClampNeg then none else (some (.inl (x1, (x5 + 1), (jx_l σ 166 (x5).toNatClampNeg (v_r_tagged (0 : Int64) ((σ.1 168) (x5).toNatClampNeg) σ))))))))
theorem x_r_run_138_s (d : Nat) (hd : 8 ≤ d) (x1 : Int32) (x5 : Int32) (σ : jx_S) (t : ((Int32 × Int32 × jx_S) ⊕ (Int32 × jx_S))) (res : Option Value × jx_S) (h : p_r_run_138_s x1 x5 σ = some t) (hK : kk_r_run_138 d t res) : jE d 230 138 [(0, .ref 106), (1, .int x1), (5, .int x5)] [] σ res := by
  unfold p_r_run_138_s at h
  refine jE_blk (bs := [(.iload 5, 0, 0), (.aload_n 0, 0, 0), (.getfield 225, 12, 98)]) (i := .if_icmp .ge (27)) (a1 := 0) (a2 := 0) (pc1 := 144) (l1 := [(0, .ref 106), (1, .int x1), (5, .int x5)]) (st1 := [.int (σ.1 106 98), .int x5]) (σ1 := σ) (by decide +kernel) rfl (fun hC => ?_)
  rcases Classical.em ((σ.1 106 98) ≤ x5) with hc | hc
  · rw [if_pos hc] at h
    refine jE_icT 171 hC (by decide) hc ?_
    obtain ⟨t9_5, h9_5, h8_5⟩ := Option.map_eq_some_iff.mp h
    clear h
    subst h8_5
    have h := h9_5
    clear h9_5
    refine jE_blk (bs := [(.aload_n 0, 0, 0), (.aload_n 0, 0, 0), (.getfield 225, 12, 98), (.putfield 500, 12, 85), (.aload_n 0, 0, 0), (.getfield 225, 12, 98), (.istore 5, 6, 0), (.aload_n 0, 0, 0), (.iconst (0), 0, 0), (.putfield 225, 12, 98), (.aload_n 0, 0, 0), (.ldc2_w 537, 4, 0), (.iload_n 1, 0, 0)]) (i := .invokestatic 533) (a1 := 209) (a2 := 0) (pc1 := 195) (l1 := [(5, .int (σ.1 106 98)), (0, .ref 106), (1, .int x1)]) (st1 := [.int x1, .long (4 : Int64), .ref 106]) (σ1 := (jx_i (jx_i σ 106 85 (σ.1 106 98)) 106 98 (0 : Int32))) (by decide +kernel) rfl (fun hC => ?_)
    refine jE_call (as := [.long (4 : Int64), .int x1]) (pc1 := 198) (st1 := [.ref 106]) hC rfl (by decide) (by omega) (xv_r_tagged (d - 1) (by omega) (4 : Int64) x1 (jx_i (jx_i σ 106 85 (σ.1 106 98)) 106 98 (0 : Int32))) ?_
    refine jE_blk (bs := [(.iload 5, 0, 0)]) (i := .invokevirtual 577) (a1 := 220) (a2 := 0) (pc1 := 200) (l1 := [(5, .int (σ.1 106 98)), (0, .ref 106), (1, .int x1)]) (st1 := [.int (σ.1 106 98), .long (v_r_tagged (4 : Int64) x1 (jx_i (jx_i σ 106 85 (σ.1 106 98)) 106 98 (0 : Int32))), .ref 106]) (σ1 := (jx_i (jx_i σ 106 85 (σ.1 106 98)) 106 98 (0 : Int32))) (by decide +kernel) rfl (fun hC => ?_)
    obtain ⟨q2, hq, h⟩ := Option.bind_eq_some_iff.mp h
    refine jE_call (as := [.ref 106, .long (v_r_tagged (4 : Int64) x1 (jx_i (jx_i σ 106 85 (σ.1 106 98)) 106 98 (0 : Int32))), .int (σ.1 106 98)]) (pc1 := 203) (st1 := []) hC rfl (by decide) (by omega) (x_r_call (d - 1) (by omega) (v_r_tagged (4 : Int64) x1 (jx_i (jx_i σ 106 85 (σ.1 106 98)) 106 98 (0 : Int32))) (σ.1 106 98) (jx_i (jx_i σ 106 85 (σ.1 106 98)) 106 98 (0 : Int32)) q2 (none, q2) hq rfl) ?_
    refine jE_blk (bs := [(.aload_n 0, 0, 0)]) (i := .invokevirtual 604) (a1 := 226) (a2 := 0) (pc1 := 204) (l1 := [(5, .int (σ.1 106 98)), (0, .ref 106), (1, .int x1)]) (st1 := [.ref 106]) (σ1 := q2) (by decide +kernel) rfl (fun hC => ?_)
    obtain ⟨q3, hq, h⟩ := Option.bind_eq_some_iff.mp h
    refine jE_call (as := [.ref 106]) (pc1 := 207) (st1 := []) hC rfl (by decide) (by omega) (x_r_go (d - 1) (by omega) q2 q3 (none, q3) hq rfl) ?_
    refine jE_blk (bs := [(.aload_n 0, 0, 0), (.getfield 521, 12, 87)]) (i := .ifCond .ne (24)) (a1 := 0) (a2 := 0) (pc1 := 211) (l1 := [(5, .int (σ.1 106 98)), (0, .ref 106), (1, .int x1)]) (st1 := [.int (q3.1 106 87)]) (σ1 := q3) (by decide +kernel) rfl (fun hC => ?_)
    rcases Classical.em (¬ (q3.1 106 87) = 0) with hc | hc
    · rw [if_pos hc] at h
      refine jE_ifT 235 hC (by decide) hc ?_
      exact jE_loc (l := [(0, .ref 106)]) (ks := [0]) rfl (by decide) ⟨rfl, trivial⟩ (x_r_run_235 d hd q3 _ res h hK)
    · rw [if_neg hc] at h
      refine jE_ifF 235 hC (by decide) hc ?_
      refine jE_blk (bs := [(.aload_n 0, 0, 0), (.getfield 78, 12, 28), (.iload_n 1, 0, 0)]) (i := .iaload) (a1 := 0) (a2 := 0) (pc1 := 219) (l1 := [(5, .int (σ.1 106 98)), (0, .ref 106), (1, .int x1)]) (st1 := [.int x1, .ref 128]) (σ1 := q3) (by decide +kernel) rfl (fun hC => ?_)
      obtain ⟨hi, h⟩ := jx_ite0_inv h
      refine jE_iald (n := 40) hC (by decide) rfl hi ?_
      refine jE_blk (bs := []) (i := .ifCond .ne (15)) (a1 := 0) (a2 := 0) (pc1 := 220) (l1 := [(5, .int (σ.1 106 98)), (0, .ref 106), (1, .int x1)]) (st1 := [.int ((q3.1 128) (x1).toNatClampNeg)]) (σ1 := q3) (by decide +kernel) rfl (fun hC => ?_)
      rcases Classical.em (¬ ((q3.1 128) (x1).toNatClampNeg) = 0) with hc | hc
      · rw [if_pos hc] at h
        refine jE_ifT 235 hC (by decide) hc ?_
        exact jE_loc (l := [(0, .ref 106)]) (ks := [0]) rfl (by decide) ⟨rfl, trivial⟩ (x_r_run_235 d hd q3 _ res h hK)
      · rw [if_neg hc] at h
        refine jE_ifF 235 hC (by decide) hc ?_
        refine jE_blk (bs := [(.aload_n 0, 0, 0), (.aload_n 0, 0, 0), (.getfield 529, 12, 90), (.l2i, 0, 0), (.putfield 512, 12, 93), (.goto (14), 0, 0)]) (i := .aload_n 0) (a1 := 0) (a2 := 0) (pc1 := 246) (l1 := [(5, .int (σ.1 106 98)), (0, .ref 106), (1, .int x1)]) (st1 := []) (σ1 := (jx_i q3 106 93 ((q3.2 106 90)).toInt32)) (by decide +kernel) rfl (fun hC => ?_)
        exact jE_loc (l := [(0, .ref 106)]) (ks := [0]) rfl (by decide) ⟨rfl, trivial⟩ (x_r_run_246 d hd (jx_i q3 106 93 ((q3.2 106 90)).toInt32) _ res h hK)
  · rw [if_neg hc] at h
    refine jE_icF 171 hC (by decide) hc ?_
    refine jE_blk (bs := [(.aload_n 0, 0, 0), (.getfield 194, 12, 84), (.iload 5, 0, 0), (.lconst 0, 0, 0), (.aload_n 0, 0, 0), (.getfield 200, 12, 97), (.iload 5, 0, 0)]) (i := .iaload) (a1 := 0) (a2 := 0) (pc1 := 160) (l1 := [(0, .ref 106), (1, .int x1), (5, .int x5)]) (st1 := [.int x5, .ref 168, .long (0 : Int64), .int x5, .ref 166]) (σ1 := σ) (by decide +kernel) rfl (fun hC => ?_)
    obtain ⟨hi, h⟩ := jx_ite0_inv h
    refine jE_iald (n := 8) hC (by decide) rfl hi ?_
    refine jE_blk (bs := []) (i := .invokestatic 533) (a1 := 209) (a2 := 0) (pc1 := 161) (l1 := [(0, .ref 106), (1, .int x1), (5, .int x5)]) (st1 := [.int ((σ.1 168) (x5).toNatClampNeg), .long (0 : Int64), .int x5, .ref 166]) (σ1 := σ) (by decide +kernel) rfl (fun hC => ?_)
    refine jE_call (as := [.long (0 : Int64), .int ((σ.1 168) (x5).toNatClampNeg)]) (pc1 := 164) (st1 := [.int x5, .ref 166]) hC rfl (by decide) (by omega) (xv_r_tagged (d - 1) (by omega) (0 : Int64) ((σ.1 168) (x5).toNatClampNeg) σ) ?_
    refine jE_blk (bs := []) (i := .lastore) (a1 := 0) (a2 := 0) (pc1 := 164) (l1 := [(0, .ref 106), (1, .int x1), (5, .int x5)]) (st1 := [.long (v_r_tagged (0 : Int64) ((σ.1 168) (x5).toNatClampNeg) σ), .int x5, .ref 166]) (σ1 := σ) (by decide +kernel) rfl (fun hC => ?_)
    obtain ⟨hi, h⟩ := jx_ite0_inv h
    refine jE_last (n := 4000) hC (by decide) rfl hi ?_
    refine jE_blk (bs := [(.iinc 5 (1), 6, 2), (.goto (-30), 0, 0)]) (i := .iload 5) (a1 := 0) (a2 := 0) (pc1 := 138) (l1 := [(5, .int (x5 + 1)), (0, .ref 106), (1, .int x1)]) (st1 := []) (σ1 := (jx_l σ 166 (x5).toNatClampNeg (v_r_tagged (0 : Int64) ((σ.1 168) (x5).toNatClampNeg) σ))) (by decide +kernel) rfl (fun hC => ?_)
    have h9 := Option.some.inj h
    subst h9
    exact jE_loc (l := [(0, .ref 106), (1, .int x1), (5, .int (x5 + 1))]) (ks := [0, 1, 5]) rfl (by decide) ⟨rfl, rfl, rfl, trivial⟩ hK
def p_r_run_138 (x1 : Int32) (x5 : Int32) (σ : jx_S) : Option (Int32 × jx_S) := jx_loop 100000000 (fun s => p_r_run_138_s s.1 s.2.1 (s.2.2)) (x1, x5, σ)
theorem x_r_run_138 (d : Nat) (hd : 8 ≤ d) (x1 : Int32) (x5 : Int32) (σ : jx_S) (t : (Int32 × jx_S)) (res : Option Value × jx_S) (h : p_r_run_138 x1 x5 σ = some t) (hK : kkI t res) : jE d 230 138 [(0, .ref 106), (1, .int x1), (5, .int x5)] [] σ res := by
  refine jx_loop_ok (E := fun s t => ∀ res, kkI t res → jE d 230 138 [(0, .ref 106), (1, .int s.1), (5, .int s.2.1)] [] s.2.2 res) (fun s t hs => ?_) _ _ _ h res hK
  cases t with
  | inl s1 => exact fun b hb res hk => x_r_run_138_s d hd (s.1) (s.2.1) (s.2.2) _ res hs (hb res hk)
  | inr b => exact fun res hk => x_r_run_138_s d hd (s.1) (s.2.1) (s.2.2) _ res hs hk
def p_r_run_109 (x1 : Int32) (x2 : Int32) (x3 : Int32) (y0 : Int32) (σ : jx_S) : Option (Int32 × jx_S) := (if y0 ≤ 0 then ((p_r_clearRun (jx_i σ 106 2 y0)).bind fun q1 => (if x3 = 0 ∨ x3 = 1 then (p_r_run_138 x1 (0 : Int32) (jx_i (jx_i q1 106 89 x2) 106 86 x3)) else none)) else (some (((0 : Int32), (jx_i σ 106 2 y0)))))
theorem x_r_run_109 (d : Nat) (hd : 8 ≤ d) (x1 : Int32) (x2 : Int32) (x3 : Int32) (y0 : Int32) (σ : jx_S) (t : (Int32 × jx_S)) (res : Option Value × jx_S) (h : p_r_run_109 x1 x2 x3 y0 σ = some t) (hK : kkI t res) : jE d 230 109 [(0, .ref 106), (1, .int x1), (2, .int x2), (3, .int x3)] [.int y0, .ref 106] σ res := by
  unfold p_r_run_109 at h
  refine jE_blk (bs := [(.putfield 209, 12, 2), (.aload_n 0, 0, 0), (.getfield 209, 12, 2)]) (i := .ifCond .le (5)) (a1 := 0) (a2 := 0) (pc1 := 116) (l1 := [(0, .ref 106), (1, .int x1), (2, .int x2), (3, .int x3)]) (st1 := [.int y0]) (σ1 := (jx_i σ 106 2 y0)) (by decide +kernel) rfl (fun hC => ?_)
  rcases Classical.em (y0 ≤ 0) with hc | hc
  · rw [if_pos hc] at h
    refine jE_ifT 121 hC (by decide) hc ?_
    refine jE_blk (bs := [(.aload_n 0, 0, 0)]) (i := .invokevirtual 228) (a1 := 208) (a2 := 0) (pc1 := 122) (l1 := [(0, .ref 106), (1, .int x1), (2, .int x2), (3, .int x3)]) (st1 := [.ref 106]) (σ1 := (jx_i σ 106 2 y0)) (by decide +kernel) rfl (fun hC => ?_)
    obtain ⟨q1, hq, h⟩ := Option.bind_eq_some_iff.mp h
    refine jE_call (as := [.ref 106]) (pc1 := 125) (st1 := []) hC rfl (by decide) (by omega) (x_r_clearRun (d - 1) (by omega) (jx_i σ 106 2 y0) q1 (none, q1) hq rfl) ?_
    refine jE_blk (bs := [(.aload_n 0, 0, 0), (.iload_n 2, 0, 0), (.putfield 526, 12, 89), (.aload_n 0, 0, 0), (.iload_n 3, 0, 0)]) (i := .putfield 568) (a1 := 12) (a2 := 86) (pc1 := 132) (l1 := [(0, .ref 106), (1, .int x1), (2, .int x2), (3, .int x3)]) (st1 := [.int x3, .ref 106]) (σ1 := (jx_i q1 106 89 x2)) (by decide +kernel) rfl (fun hC => ?_)
    obtain ⟨hb, h⟩ := jx_ite_inv h
    refine jE_putz hC (by decide) rfl rfl hb ?_
    refine jE_blk (bs := [(.iconst (0), 0, 0), (.istore 5, 6, 0)]) (i := .iload 5) (a1 := 0) (a2 := 0) (pc1 := 138) (l1 := [(5, .int (0 : Int32)), (0, .ref 106), (1, .int x1), (2, .int x2), (3, .int x3)]) (st1 := []) (σ1 := (jx_i (jx_i q1 106 89 x2) 106 86 x3)) (by decide +kernel) rfl (fun hC => ?_)
    exact jE_loc (l := [(0, .ref 106), (1, .int x1), (5, .int (0 : Int32))]) (ks := [0, 1, 5]) rfl (by decide) ⟨rfl, rfl, rfl, trivial⟩ (x_r_run_138 d hd x1 (0 : Int32) (jx_i (jx_i q1 106 89 x2) 106 86 x3) _ res h hK)
  · rw [if_neg hc] at h
    refine jE_ifF 121 hC (by decide) hc ?_
    refine jE_blk (bs := [(.iconst (0), 0, 0)]) (i := .ireturn) (a1 := 0) (a2 := 0) (pc1 := 120) (l1 := [(0, .ref 106), (1, .int x1), (2, .int x2), (3, .int x3)]) (st1 := [.int (0 : Int32)]) (σ1 := (jx_i σ 106 2 y0)) (by decide +kernel) rfl (fun hC => ?_)
    have h9 := Option.some.inj h
    subst h9
    have e9 : ((some (.int (0 : Int32)), (jx_i σ 106 2 y0)) : Option Value × jx_S) = res := hK
    subst e9
    exact jE_ret hC rfl
def p_r_run_86 (x1 : Int32) (x2 : Int32) (x3 : Int32) (x4 : Int32) (σ : jx_S) : Option (Int32 × jx_S) := (if (v_r_noFunction x1 σ) = 0 then (if ¬ x4 = 0 then (p_r_run_109 x1 x2 x3 (0 : Int32) σ) else (p_r_run_109 x1 x2 x3 (2 : Int32) σ)) else (p_r_run_109 x1 x2 x3 (1 : Int32) σ))
theorem x_r_run_86 (d : Nat) (hd : 8 ≤ d) (x1 : Int32) (x2 : Int32) (x3 : Int32) (x4 : Int32) (σ : jx_S) (t : (Int32 × jx_S)) (res : Option Value × jx_S) (h : p_r_run_86 x1 x2 x3 x4 σ = some t) (hK : kkI t res) : jE d 230 86 [(0, .ref 106), (1, .int x1), (2, .int x2), (3, .int x3), (4, .int x4)] [] σ res := by
  unfold p_r_run_86 at h
  refine jE_blk (bs := [(.aload_n 0, 0, 0), (.aload_n 0, 0, 0), (.iload_n 1, 0, 0)]) (i := .invokevirtual 476) (a1 := 202) (a2 := 0) (pc1 := 89) (l1 := [(0, .ref 106), (1, .int x1), (2, .int x2), (3, .int x3), (4, .int x4)]) (st1 := [.int x1, .ref 106, .ref 106]) (σ1 := σ) (by decide +kernel) rfl (fun hC => ?_)
  refine jE_call (as := [.ref 106, .int x1]) (pc1 := 92) (st1 := [.ref 106]) hC rfl (by decide) (by omega) (xv_r_noFunction (d - 1) (by omega) x1 σ) ?_
  refine jE_blk (bs := []) (i := .ifCond .eq (7)) (a1 := 0) (a2 := 0) (pc1 := 92) (l1 := [(0, .ref 106), (1, .int x1), (2, .int x2), (3, .int x3), (4, .int x4)]) (st1 := [.int (v_r_noFunction x1 σ), .ref 106]) (σ1 := σ) (by decide +kernel) rfl (fun hC => ?_)
  rcases Classical.em ((v_r_noFunction x1 σ) = 0) with hc | hc
  · rw [if_pos hc] at h
    refine jE_ifT 99 hC (by decide) hc ?_
    refine jE_blk (bs := [(.iload 4, 0, 0)]) (i := .ifCond .ne (7)) (a1 := 0) (a2 := 0) (pc1 := 101) (l1 := [(0, .ref 106), (1, .int x1), (2, .int x2), (3, .int x3), (4, .int x4)]) (st1 := [.int x4, .ref 106]) (σ1 := σ) (by decide +kernel) rfl (fun hC => ?_)
    rcases Classical.em (¬ x4 = 0) with hc | hc
    · rw [if_pos hc] at h
      refine jE_ifT 108 hC (by decide) hc ?_
      refine jE_blk (bs := [(.iconst (0), 0, 0)]) (i := .putfield 209) (a1 := 12) (a2 := 2) (pc1 := 109) (l1 := [(0, .ref 106), (1, .int x1), (2, .int x2), (3, .int x3), (4, .int x4)]) (st1 := [.int (0 : Int32), .ref 106]) (σ1 := σ) (by decide +kernel) rfl (fun hC => ?_)
      exact jE_loc (l := [(0, .ref 106), (1, .int x1), (2, .int x2), (3, .int x3)]) (ks := [0, 1, 2, 3]) rfl (by decide) ⟨rfl, rfl, rfl, rfl, trivial⟩ (x_r_run_109 d hd x1 x2 x3 (0 : Int32) σ _ res h hK)
    · rw [if_neg hc] at h
      refine jE_ifF 108 hC (by decide) hc ?_
      refine jE_blk (bs := [(.iconst (2), 2, 0), (.goto (4), 0, 0)]) (i := .putfield 209) (a1 := 12) (a2 := 2) (pc1 := 109) (l1 := [(0, .ref 106), (1, .int x1), (2, .int x2), (3, .int x3), (4, .int x4)]) (st1 := [.int (2 : Int32), .ref 106]) (σ1 := σ) (by decide +kernel) rfl (fun hC => ?_)
      exact jE_loc (l := [(0, .ref 106), (1, .int x1), (2, .int x2), (3, .int x3)]) (ks := [0, 1, 2, 3]) rfl (by decide) ⟨rfl, rfl, rfl, rfl, trivial⟩ (x_r_run_109 d hd x1 x2 x3 (2 : Int32) σ _ res h hK)
  · rw [if_neg hc] at h
    refine jE_ifF 99 hC (by decide) hc ?_
    refine jE_blk (bs := [(.iconst (1), 1, 0), (.goto (13), 0, 0)]) (i := .putfield 209) (a1 := 12) (a2 := 2) (pc1 := 109) (l1 := [(0, .ref 106), (1, .int x1), (2, .int x2), (3, .int x3), (4, .int x4)]) (st1 := [.int (1 : Int32), .ref 106]) (σ1 := σ) (by decide +kernel) rfl (fun hC => ?_)
    exact jE_loc (l := [(0, .ref 106), (1, .int x1), (2, .int x2), (3, .int x3)]) (ks := [0, 1, 2, 3]) rfl (by decide) ⟨rfl, rfl, rfl, rfl, trivial⟩ (x_r_run_109 d hd x1 x2 x3 (1 : Int32) σ _ res h hK)
def p_r_run_78 (x1 : Int32) (x2 : Int32) (x3 : Int32) (x5 : Int32) (y0 : Int32) (σ : jx_S) : Option ((Int32 × Int32 × Int32 × Int32 × Int32 × jx_S) ⊕ (Int32 × jx_S)) := (some (.inl (x1, x2, x3, y0, (x5 + 1), σ)))
theorem x_r_run_78 (d : Nat) (hd : 8 ≤ d) (x1 : Int32) (x2 : Int32) (x3 : Int32) (x5 : Int32) (y0 : Int32) (σ : jx_S) (t : ((Int32 × Int32 × Int32 × Int32 × Int32 × jx_S) ⊕ (Int32 × jx_S))) (res : Option Value × jx_S) (h : p_r_run_78 x1 x2 x3 x5 y0 σ = some t) (hK : kk_r_run_42 d t res) : jE d 230 78 [(0, .ref 106), (1, .int x1), (2, .int x2), (3, .int x3), (5, .int x5)] [.int y0] σ res := by
  unfold p_r_run_78 at h
  refine jE_blk (bs := [(.istore 4, 6, 0), (.iinc 5 (1), 6, 2), (.goto (-41), 0, 0)]) (i := .iload 4) (a1 := 0) (a2 := 0) (pc1 := 42) (l1 := [(5, .int (x5 + 1)), (4, .int y0), (0, .ref 106), (1, .int x1), (2, .int x2), (3, .int x3)]) (st1 := []) (σ1 := σ) (by decide +kernel) rfl (fun hC => ?_)
  have h9 := Option.some.inj h
  subst h9
  exact jE_loc (l := [(0, .ref 106), (1, .int x1), (2, .int x2), (3, .int x3), (4, .int y0), (5, .int (x5 + 1))]) (ks := [0, 1, 2, 3, 4, 5]) rfl (by decide) ⟨rfl, rfl, rfl, rfl, rfl, rfl, trivial⟩ hK
def p_r_run_42_s (x1 : Int32) (x2 : Int32) (x3 : Int32) (x4 : Int32) (x5 : Int32) (σ : jx_S) : Option ((Int32 × Int32 × Int32 × Int32 × Int32 × jx_S) ⊕ (Int32 × jx_S)) := (if x4 = 0 then (Option.map Sum.inr (p_r_run_86 x1 x2 x3 x4 σ)) else (if x1 < 0 ∨ 40 ≤ (x1).toNatClampNeg then none else (if ((σ.1 127) (x1).toNatClampNeg) ≤ x5 then (Option.map Sum.inr (p_r_run_86 x1 x2 x3 x4 σ)) else (if (((8 : Int32) * x1) + x5) < 0 ∨ 320 ≤ ((((8 : Int32) * x1) + x5)).toNatClampNeg then none else (if ¬ ((σ.1 135) ((((8 : Int32) * x1) + x5)).toNatClampNeg) = 0 then (p_r_run_78 x1 x2 x3 x5 (0 : Int32) σ) else (p_r_run_78 x1 x2 x3 x5 (1 : Int32) σ))))))
theorem x_r_run_42_s (d : Nat) (hd : 8 ≤ d) (x1 : Int32) (x2 : Int32) (x3 : Int32) (x4 : Int32) (x5 : Int32) (σ : jx_S) (t : ((Int32 × Int32 × Int32 × Int32 × Int32 × jx_S) ⊕ (Int32 × jx_S))) (res : Option Value × jx_S) (h : p_r_run_42_s x1 x2 x3 x4 x5 σ = some t) (hK : kk_r_run_42 d t res) : jE d 230 42 [(0, .ref 106), (1, .int x1), (2, .int x2), (3, .int x3), (4, .int x4), (5, .int x5)] [] σ res := by
  unfold p_r_run_42_s at h
  refine jE_blk (bs := [(.iload 4, 0, 0)]) (i := .ifCond .eq (42)) (a1 := 0) (a2 := 0) (pc1 := 44) (l1 := [(0, .ref 106), (1, .int x1), (2, .int x2), (3, .int x3), (4, .int x4), (5, .int x5)]) (st1 := [.int x4]) (σ1 := σ) (by decide +kernel) rfl (fun hC => ?_)
  rcases Classical.em (x4 = 0) with hc | hc
  · rw [if_pos hc] at h
    refine jE_ifT 86 hC (by decide) hc ?_
    obtain ⟨t9_6, h9_6, h8_6⟩ := Option.map_eq_some_iff.mp h
    clear h
    subst h8_6
    have h := h9_6
    clear h9_6
    exact jE_loc (l := [(0, .ref 106), (1, .int x1), (2, .int x2), (3, .int x3), (4, .int x4)]) (ks := [0, 1, 2, 3, 4]) rfl (by decide) ⟨rfl, rfl, rfl, rfl, rfl, trivial⟩ (x_r_run_86 d hd x1 x2 x3 x4 σ _ res h hK)
  · rw [if_neg hc] at h
    refine jE_ifF 86 hC (by decide) hc ?_
    refine jE_blk (bs := [(.iload 5, 0, 0), (.aload_n 0, 0, 0), (.getfield 75, 12, 27), (.iload_n 1, 0, 0)]) (i := .iaload) (a1 := 0) (a2 := 0) (pc1 := 54) (l1 := [(0, .ref 106), (1, .int x1), (2, .int x2), (3, .int x3), (4, .int x4), (5, .int x5)]) (st1 := [.int x1, .ref 127, .int x5]) (σ1 := σ) (by decide +kernel) rfl (fun hC => ?_)
    obtain ⟨hi, h⟩ := jx_ite0_inv h
    refine jE_iald (n := 40) hC (by decide) rfl hi ?_
    refine jE_blk (bs := []) (i := .if_icmp .ge (31)) (a1 := 0) (a2 := 0) (pc1 := 55) (l1 := [(0, .ref 106), (1, .int x1), (2, .int x2), (3, .int x3), (4, .int x4), (5, .int x5)]) (st1 := [.int ((σ.1 127) (x1).toNatClampNeg), .int x5]) (σ1 := σ) (by decide +kernel) rfl (fun hC => ?_)
    rcases Classical.em (((σ.1 127) (x1).toNatClampNeg) ≤ x5) with hc | hc
    · rw [if_pos hc] at h
      refine jE_icT 86 hC (by decide) hc ?_
      obtain ⟨t9_7, h9_7, h8_7⟩ := Option.map_eq_some_iff.mp h
      clear h
      subst h8_7
      have h := h9_7
      clear h9_7
      exact jE_loc (l := [(0, .ref 106), (1, .int x1), (2, .int x2), (3, .int x3), (4, .int x4)]) (ks := [0, 1, 2, 3, 4]) rfl (by decide) ⟨rfl, rfl, rfl, rfl, rfl, trivial⟩ (x_r_run_86 d hd x1 x2 x3 x4 σ _ res h hK)
    · rw [if_neg hc] at h
      refine jE_icF 86 hC (by decide) hc ?_
      refine jE_blk (bs := [(.aload_n 0, 0, 0), (.getfield 99, 12, 35), (.bipush (8), 8, 0), (.iload_n 1, 0, 0), (.imul, 0, 0), (.iload 5, 0, 0), (.iadd, 0, 0)]) (i := .iaload) (a1 := 0) (a2 := 0) (pc1 := 69) (l1 := [(0, .ref 106), (1, .int x1), (2, .int x2), (3, .int x3), (4, .int x4), (5, .int x5)]) (st1 := [.int (((8 : Int32) * x1) + x5), .ref 135]) (σ1 := σ) (by decide +kernel) rfl (fun hC => ?_)
      obtain ⟨hi, h⟩ := jx_ite0_inv h
      refine jE_iald (n := 320) hC (by decide) rfl hi ?_
      refine jE_blk (bs := []) (i := .ifCond .ne (7)) (a1 := 0) (a2 := 0) (pc1 := 70) (l1 := [(0, .ref 106), (1, .int x1), (2, .int x2), (3, .int x3), (4, .int x4), (5, .int x5)]) (st1 := [.int ((σ.1 135) ((((8 : Int32) * x1) + x5)).toNatClampNeg)]) (σ1 := σ) (by decide +kernel) rfl (fun hC => ?_)
      rcases Classical.em (¬ ((σ.1 135) ((((8 : Int32) * x1) + x5)).toNatClampNeg) = 0) with hc | hc
      · rw [if_pos hc] at h
        refine jE_ifT 77 hC (by decide) hc ?_
        refine jE_blk (bs := [(.iconst (0), 0, 0)]) (i := .istore 4) (a1 := 6) (a2 := 0) (pc1 := 78) (l1 := [(0, .ref 106), (1, .int x1), (2, .int x2), (3, .int x3), (4, .int x4), (5, .int x5)]) (st1 := [.int (0 : Int32)]) (σ1 := σ) (by decide +kernel) rfl (fun hC => ?_)
        exact jE_loc (l := [(0, .ref 106), (1, .int x1), (2, .int x2), (3, .int x3), (5, .int x5)]) (ks := [0, 1, 2, 3, 5]) rfl (by decide) ⟨rfl, rfl, rfl, rfl, rfl, trivial⟩ (x_r_run_78 d hd x1 x2 x3 x5 (0 : Int32) σ _ res h hK)
      · rw [if_neg hc] at h
        refine jE_ifF 77 hC (by decide) hc ?_
        refine jE_blk (bs := [(.iconst (1), 1, 0), (.goto (4), 0, 0)]) (i := .istore 4) (a1 := 6) (a2 := 0) (pc1 := 78) (l1 := [(0, .ref 106), (1, .int x1), (2, .int x2), (3, .int x3), (4, .int x4), (5, .int x5)]) (st1 := [.int (1 : Int32)]) (σ1 := σ) (by decide +kernel) rfl (fun hC => ?_)
        exact jE_loc (l := [(0, .ref 106), (1, .int x1), (2, .int x2), (3, .int x3), (5, .int x5)]) (ks := [0, 1, 2, 3, 5]) rfl (by decide) ⟨rfl, rfl, rfl, rfl, rfl, trivial⟩ (x_r_run_78 d hd x1 x2 x3 x5 (1 : Int32) σ _ res h hK)
def p_r_run_42 (x1 : Int32) (x2 : Int32) (x3 : Int32) (x4 : Int32) (x5 : Int32) (σ : jx_S) : Option (Int32 × jx_S) := jx_loop 100000000 (fun s => p_r_run_42_s s.1 s.2.1 s.2.2.1 s.2.2.2.1 s.2.2.2.2.1 (s.2.2.2.2.2)) (x1, x2, x3, x4, x5, σ)
theorem x_r_run_42 (d : Nat) (hd : 8 ≤ d) (x1 : Int32) (x2 : Int32) (x3 : Int32) (x4 : Int32) (x5 : Int32) (σ : jx_S) (t : (Int32 × jx_S)) (res : Option Value × jx_S) (h : p_r_run_42 x1 x2 x3 x4 x5 σ = some t) (hK : kkI t res) : jE d 230 42 [(0, .ref 106), (1, .int x1), (2, .int x2), (3, .int x3), (4, .int x4), (5, .int x5)] [] σ res := by
  refine jx_loop_ok (E := fun s t => ∀ res, kkI t res → jE d 230 42 [(0, .ref 106), (1, .int s.1), (2, .int s.2.1), (3, .int s.2.2.1), (4, .int s.2.2.2.1), (5, .int s.2.2.2.2.1)] [] s.2.2.2.2.2 res) (fun s t hs => ?_) _ _ _ h res hK
  cases t with
  | inl s1 => exact fun b hb res hk => x_r_run_42_s d hd (s.1) (s.2.1) (s.2.2.1) (s.2.2.2.1) (s.2.2.2.2.1) (s.2.2.2.2.2) _ res hs (hb res hk)
  | inr b => exact fun res hk => x_r_run_42_s d hd (s.1) (s.2.1) (s.2.2.1) (s.2.2.2.1) (s.2.2.2.2.1) (s.2.2.2.2.2) _ res hs hk
def p_r_run_37 (x1 : Int32) (x2 : Int32) (x3 : Int32) (y0 : Int32) (σ : jx_S) : Option (Int32 × jx_S) := (p_r_run_42 x1 x2 x3 y0 (0 : Int32) σ)
theorem x_r_run_37 (d : Nat) (hd : 8 ≤ d) (x1 : Int32) (x2 : Int32) (x3 : Int32) (y0 : Int32) (σ : jx_S) (t : (Int32 × jx_S)) (res : Option Value × jx_S) (h : p_r_run_37 x1 x2 x3 y0 σ = some t) (hK : kkI t res) : jE d 230 37 [(0, .ref 106), (1, .int x1), (2, .int x2), (3, .int x3)] [.int y0] σ res := by
  unfold p_r_run_37 at h
  refine jE_blk (bs := [(.istore 4, 6, 0), (.iconst (0), 0, 0), (.istore 5, 6, 0)]) (i := .iload 4) (a1 := 0) (a2 := 0) (pc1 := 42) (l1 := [(5, .int (0 : Int32)), (4, .int y0), (0, .ref 106), (1, .int x1), (2, .int x2), (3, .int x3)]) (st1 := []) (σ1 := σ) (by decide +kernel) rfl (fun hC => ?_)
  exact jE_loc (l := [(0, .ref 106), (1, .int x1), (2, .int x2), (3, .int x3), (4, .int y0), (5, .int (0 : Int32))]) (ks := [0, 1, 2, 3, 4, 5]) rfl (by decide) ⟨rfl, rfl, rfl, rfl, rfl, rfl, trivial⟩ (x_r_run_42 d hd x1 x2 x3 y0 (0 : Int32) σ _ res h hK)
def p_r_run_36 (x1 : Int32) (x2 : Int32) (x3 : Int32) (σ : jx_S) : Option (Int32 × jx_S) := (p_r_run_37 x1 x2 x3 (0 : Int32) σ)
theorem x_r_run_36 (d : Nat) (hd : 8 ≤ d) (x1 : Int32) (x2 : Int32) (x3 : Int32) (σ : jx_S) (t : (Int32 × jx_S)) (res : Option Value × jx_S) (h : p_r_run_36 x1 x2 x3 σ = some t) (hK : kkI t res) : jE d 230 36 [(0, .ref 106), (1, .int x1), (2, .int x2), (3, .int x3)] [] σ res := by
  unfold p_r_run_36 at h
  refine jE_blk (bs := [(.iconst (0), 0, 0)]) (i := .istore 4) (a1 := 6) (a2 := 0) (pc1 := 37) (l1 := [(0, .ref 106), (1, .int x1), (2, .int x2), (3, .int x3)]) (st1 := [.int (0 : Int32)]) (σ1 := σ) (by decide +kernel) rfl (fun hC => ?_)
  exact jE_loc (l := [(0, .ref 106), (1, .int x1), (2, .int x2), (3, .int x3)]) (ks := [0, 1, 2, 3]) rfl (by decide) ⟨rfl, rfl, rfl, rfl, trivial⟩ (x_r_run_37 d hd x1 x2 x3 (0 : Int32) σ _ res h hK)
def p_r_run (x1 : Int32) (x2 : Int32) (x3 : Int32) (σ : jx_S) : Option (Int32 × jx_S) := (if ¬ (v_r_noFunction x1 σ) = 0 then (p_r_run_36 x1 x2 x3 σ) else (if x2 < 0 then (p_r_run_36 x1 x2 x3 σ) else (if (50000 : Int32) < x2 then (p_r_run_36 x1 x2 x3 σ) else (if x1 < 0 ∨ 40 ≤ (x1).toNatClampNeg then none else (if ¬ ((σ.1 127) (x1).toNatClampNeg) = (σ.1 106 98) then (p_r_run_36 x1 x2 x3 σ) else (p_r_run_37 x1 x2 x3 (1 : Int32) σ))))))
theorem x_r_run (d : Nat) (hd : 8 ≤ d) (x1 : Int32) (x2 : Int32) (x3 : Int32) (σ : jx_S) (t : (Int32 × jx_S)) (res : Option Value × jx_S) (h : p_r_run x1 x2 x3 σ = some t) (hK : kkI t res) : jE d 230 0 [(0, .ref 106), (1, .int x1), (2, .int x2), (3, .int x3)] [] σ res := by
  unfold p_r_run at h
  refine jE_blk (bs := [(.aload_n 0, 0, 0), (.iload_n 1, 0, 0)]) (i := .invokevirtual 476) (a1 := 202) (a2 := 0) (pc1 := 2) (l1 := [(0, .ref 106), (1, .int x1), (2, .int x2), (3, .int x3)]) (st1 := [.int x1, .ref 106]) (σ1 := σ) (by decide +kernel) rfl (fun hC => ?_)
  refine jE_call (as := [.ref 106, .int x1]) (pc1 := 5) (st1 := []) hC rfl (by decide) (by omega) (xv_r_noFunction (d - 1) (by omega) x1 σ) ?_
  refine jE_blk (bs := []) (i := .ifCond .ne (31)) (a1 := 0) (a2 := 0) (pc1 := 5) (l1 := [(0, .ref 106), (1, .int x1), (2, .int x2), (3, .int x3)]) (st1 := [.int (v_r_noFunction x1 σ)]) (σ1 := σ) (by decide +kernel) rfl (fun hC => ?_)
  rcases Classical.em (¬ (v_r_noFunction x1 σ) = 0) with hc | hc
  · rw [if_pos hc] at h
    refine jE_ifT 36 hC (by decide) hc ?_
    exact jE_loc (l := [(0, .ref 106), (1, .int x1), (2, .int x2), (3, .int x3)]) (ks := [0, 1, 2, 3]) rfl (by decide) ⟨rfl, rfl, rfl, rfl, trivial⟩ (x_r_run_36 d hd x1 x2 x3 σ _ res h hK)
  · rw [if_neg hc] at h
    refine jE_ifF 36 hC (by decide) hc ?_
    refine jE_blk (bs := [(.iload_n 2, 0, 0)]) (i := .ifCond .lt (27)) (a1 := 0) (a2 := 0) (pc1 := 9) (l1 := [(0, .ref 106), (1, .int x1), (2, .int x2), (3, .int x3)]) (st1 := [.int x2]) (σ1 := σ) (by decide +kernel) rfl (fun hC => ?_)
    rcases Classical.em (x2 < 0) with hc | hc
    · rw [if_pos hc] at h
      refine jE_ifT 36 hC (by decide) hc ?_
      exact jE_loc (l := [(0, .ref 106), (1, .int x1), (2, .int x2), (3, .int x3)]) (ks := [0, 1, 2, 3]) rfl (by decide) ⟨rfl, rfl, rfl, rfl, trivial⟩ (x_r_run_36 d hd x1 x2 x3 σ _ res h hK)
    · rw [if_neg hc] at h
      refine jE_ifF 36 hC (by decide) hc ?_
      refine jE_blk (bs := [(.iload_n 2, 0, 0), (.ldc_w 611, 50000, 0)]) (i := .if_icmp .gt (20)) (a1 := 0) (a2 := 0) (pc1 := 16) (l1 := [(0, .ref 106), (1, .int x1), (2, .int x2), (3, .int x3)]) (st1 := [.int (50000 : Int32), .int x2]) (σ1 := σ) (by decide +kernel) rfl (fun hC => ?_)
      rcases Classical.em ((50000 : Int32) < x2) with hc | hc
      · rw [if_pos hc] at h
        refine jE_icT 36 hC (by decide) hc ?_
        exact jE_loc (l := [(0, .ref 106), (1, .int x1), (2, .int x2), (3, .int x3)]) (ks := [0, 1, 2, 3]) rfl (by decide) ⟨rfl, rfl, rfl, rfl, trivial⟩ (x_r_run_36 d hd x1 x2 x3 σ _ res h hK)
      · rw [if_neg hc] at h
        refine jE_icF 36 hC (by decide) hc ?_
        refine jE_blk (bs := [(.aload_n 0, 0, 0), (.getfield 75, 12, 27), (.iload_n 1, 0, 0)]) (i := .iaload) (a1 := 0) (a2 := 0) (pc1 := 24) (l1 := [(0, .ref 106), (1, .int x1), (2, .int x2), (3, .int x3)]) (st1 := [.int x1, .ref 127]) (σ1 := σ) (by decide +kernel) rfl (fun hC => ?_)
        obtain ⟨hi, h⟩ := jx_ite0_inv h
        refine jE_iald (n := 40) hC (by decide) rfl hi ?_
        refine jE_blk (bs := [(.aload_n 0, 0, 0), (.getfield 225, 12, 98)]) (i := .if_icmp .ne (7)) (a1 := 0) (a2 := 0) (pc1 := 29) (l1 := [(0, .ref 106), (1, .int x1), (2, .int x2), (3, .int x3)]) (st1 := [.int (σ.1 106 98), .int ((σ.1 127) (x1).toNatClampNeg)]) (σ1 := σ) (by decide +kernel) rfl (fun hC => ?_)
        rcases Classical.em (¬ ((σ.1 127) (x1).toNatClampNeg) = (σ.1 106 98)) with hc | hc
        · rw [if_pos hc] at h
          refine jE_icT 36 hC (by decide) hc ?_
          exact jE_loc (l := [(0, .ref 106), (1, .int x1), (2, .int x2), (3, .int x3)]) (ks := [0, 1, 2, 3]) rfl (by decide) ⟨rfl, rfl, rfl, rfl, trivial⟩ (x_r_run_36 d hd x1 x2 x3 σ _ res h hK)
        · rw [if_neg hc] at h
          refine jE_icF 36 hC (by decide) hc ?_
          refine jE_blk (bs := [(.iconst (1), 1, 0), (.goto (4), 0, 0)]) (i := .istore 4) (a1 := 6) (a2 := 0) (pc1 := 37) (l1 := [(0, .ref 106), (1, .int x1), (2, .int x2), (3, .int x3)]) (st1 := [.int (1 : Int32)]) (σ1 := σ) (by decide +kernel) rfl (fun hC => ?_)
          exact jE_loc (l := [(0, .ref 106), (1, .int x1), (2, .int x2), (3, .int x3)]) (ks := [0, 1, 2, 3]) rfl (by decide) ⟨rfl, rfl, rfl, rfl, trivial⟩ (x_r_run_37 d hd x1 x2 x3 (1 : Int32) σ _ res h hK)
def kk_r_told_32 (d : Nat) (t : ((Int32 × Int32 × Int32 × jx_S) ⊕ (Int32 × jx_S))) (res : Option Value × jx_S) : Prop := match t with
  | .inl s => jE d 231 32 [(0, .ref 106), (1, .int s.1), (2, .int s.2.1), (3, .int s.2.2.1)] [] s.2.2.2 res
  | .inr t => kkI t res
def p_r_told_56 (x1 : Int32) (x3 : Int32) (y0 : Int32) (y1 : Int32) (σ : jx_S) : Option ((Int32 × Int32 × Int32 × jx_S) ⊕ (Int32 × jx_S)) := (some (.inl (x1, (y1 + y0), (x3 + 1), σ)))
theorem x_r_told_56 (d : Nat) (hd : 0 ≤ d) (x1 : Int32) (x3 : Int32) (y0 : Int32) (y1 : Int32) (σ : jx_S) (t : ((Int32 × Int32 × Int32 × jx_S) ⊕ (Int32 × jx_S))) (res : Option Value × jx_S) (h : p_r_told_56 x1 x3 y0 y1 σ = some t) (hK : kk_r_told_32 d t res) : jE d 231 56 [(0, .ref 106), (1, .int x1), (3, .int x3)] [.int y0, .int y1] σ res := by
  unfold p_r_told_56 at h
  refine jE_blk (bs := [(.iadd, 0, 0), (.istore_n 2, 4, 0), (.iinc 3 (1), 4, 2), (.goto (-29), 0, 0)]) (i := .iload_n 3) (a1 := 0) (a2 := 0) (pc1 := 32) (l1 := [(3, .int (x3 + 1)), (2, .int (y1 + y0)), (0, .ref 106), (1, .int x1)]) (st1 := []) (σ1 := σ) (by decide +kernel) rfl (fun hC => ?_)
  have h9 := Option.some.inj h
  subst h9
  exact jE_loc (l := [(0, .ref 106), (1, .int x1), (2, .int (y1 + y0)), (3, .int (x3 + 1))]) (ks := [0, 1, 2, 3]) rfl (by decide) ⟨rfl, rfl, rfl, rfl, trivial⟩ hK
def p_r_told_32_s (x1 : Int32) (x2 : Int32) (x3 : Int32) (σ : jx_S) : Option ((Int32 × Int32 × Int32 × jx_S) ⊕ (Int32 × jx_S)) := (if (σ.1 106 67) ≤ x3 then (Option.map Sum.inr (if x1 = 0 then (some (((σ.1 106 88), σ))) else (if x1 = 1 then (some (((σ.1 106 67), σ))) else (if x1 = 2 then (some ((x2, σ))) else (if x1 = 3 then (some (((σ.1 106 70), σ))) else (if x1 = 4 then (some (((σ.1 106 83), σ))) else (if x1 = 5 then (some (((σ.1 106 93), σ))) else (if x1 = 6 then (some (((σ.1 106 95), σ))) else (if x1 = 7 then (if (σ.1 106 96) = 0 then (some (((0 : Int32), σ))) else (some (((1 : Int32), σ)))) else (if x1 = 8 then (some (((σ.1 106 91), σ))) else (some (((σ.1 106 92), σ))))))))))))) else (if x3 < 0 ∨ 3000 ≤ (x3).toNatClampNeg then none else (if ¬ ((σ.1 153) (x3).toNatClampNeg) = (2 : Int32) then (p_r_told_56 x1 x3 (1 : Int32) x2 σ) else (p_r_told_56 x1 x3 (0 : Int32) x2 σ))))
theorem x_r_told_32_s (d : Nat) (hd : 0 ≤ d) (x1 : Int32) (x2 : Int32) (x3 : Int32) (σ : jx_S) (t : ((Int32 × Int32 × Int32 × jx_S) ⊕ (Int32 × jx_S))) (res : Option Value × jx_S) (h : p_r_told_32_s x1 x2 x3 σ = some t) (hK : kk_r_told_32 d t res) : jE d 231 32 [(0, .ref 106), (1, .int x1), (2, .int x2), (3, .int x3)] [] σ res := by
  unfold p_r_told_32_s at h
  refine jE_blk (bs := [(.iload_n 3, 0, 0), (.aload_n 0, 0, 0), (.getfield 482, 12, 67)]) (i := .if_icmp .ge (27)) (a1 := 0) (a2 := 0) (pc1 := 37) (l1 := [(0, .ref 106), (1, .int x1), (2, .int x2), (3, .int x3)]) (st1 := [.int (σ.1 106 67), .int x3]) (σ1 := σ) (by decide +kernel) rfl (fun hC => ?_)
  rcases Classical.em ((σ.1 106 67) ≤ x3) with hc | hc
  · rw [if_pos hc] at h
    refine jE_icT 64 hC (by decide) hc ?_
    obtain ⟨t9_1, h9_1, h8_1⟩ := Option.map_eq_some_iff.mp h
    clear h
    subst h8_1
    have h := h9_1
    clear h9_1
    refine jE_blk (bs := [(.iload_n 1, 0, 0)]) (i := .tableswitch (101) (0) (8) #[51, 56, 61, 63, 68, 73, 78, 83, 96]) (a1 := 0) (a2 := 0) (pc1 := 65) (l1 := [(0, .ref 106), (1, .int x1), (2, .int x2), (3, .int x3)]) (st1 := [.int x1]) (σ1 := σ) (by decide +kernel) rfl (fun hC => ?_)
    rcases Classical.em (x1 = 0) with hc0 | hc0
    · rw [if_pos hc0] at h
      refine jE_tsw 116 0 hC hc0 (by decide +kernel) ?_
      refine jE_blk (bs := [(.aload_n 0, 0, 0), (.getfield 503, 12, 88)]) (i := .ireturn) (a1 := 0) (a2 := 0) (pc1 := 120) (l1 := [(0, .ref 106), (1, .int x1), (2, .int x2), (3, .int x3)]) (st1 := [.int (σ.1 106 88)]) (σ1 := σ) (by decide +kernel) rfl (fun hC => ?_)
      have h9 := Option.some.inj h
      subst h9
      have e9 : ((some (.int (σ.1 106 88)), σ) : Option Value × jx_S) = res := hK
      subst e9
      exact jE_ret hC rfl
    · rw [if_neg hc0] at h
      rcases Classical.em (x1 = 1) with hc1 | hc1
      · rw [if_pos hc1] at h
        refine jE_tsw 121 1 hC hc1 (by decide +kernel) ?_
        refine jE_blk (bs := [(.aload_n 0, 0, 0), (.getfield 482, 12, 67)]) (i := .ireturn) (a1 := 0) (a2 := 0) (pc1 := 125) (l1 := [(0, .ref 106), (1, .int x1), (2, .int x2), (3, .int x3)]) (st1 := [.int (σ.1 106 67)]) (σ1 := σ) (by decide +kernel) rfl (fun hC => ?_)
        have h9 := Option.some.inj h
        subst h9
        have e9 : ((some (.int (σ.1 106 67)), σ) : Option Value × jx_S) = res := hK
        subst e9
        exact jE_ret hC rfl
      · rw [if_neg hc1] at h
        rcases Classical.em (x1 = 2) with hc2 | hc2
        · rw [if_pos hc2] at h
          refine jE_tsw 126 2 hC hc2 (by decide +kernel) ?_
          refine jE_blk (bs := [(.iload_n 2, 0, 0)]) (i := .ireturn) (a1 := 0) (a2 := 0) (pc1 := 127) (l1 := [(0, .ref 106), (1, .int x1), (2, .int x2), (3, .int x3)]) (st1 := [.int x2]) (σ1 := σ) (by decide +kernel) rfl (fun hC => ?_)
          have h9 := Option.some.inj h
          subst h9
          have e9 : ((some (.int x2), σ) : Option Value × jx_S) = res := hK
          subst e9
          exact jE_ret hC rfl
        · rw [if_neg hc2] at h
          rcases Classical.em (x1 = 3) with hc3 | hc3
          · rw [if_pos hc3] at h
            refine jE_tsw 128 3 hC hc3 (by decide +kernel) ?_
            refine jE_blk (bs := [(.aload_n 0, 0, 0), (.getfield 485, 12, 70)]) (i := .ireturn) (a1 := 0) (a2 := 0) (pc1 := 132) (l1 := [(0, .ref 106), (1, .int x1), (2, .int x2), (3, .int x3)]) (st1 := [.int (σ.1 106 70)]) (σ1 := σ) (by decide +kernel) rfl (fun hC => ?_)
            have h9 := Option.some.inj h
            subst h9
            have e9 : ((some (.int (σ.1 106 70)), σ) : Option Value × jx_S) = res := hK
            subst e9
            exact jE_ret hC rfl
          · rw [if_neg hc3] at h
            rcases Classical.em (x1 = 4) with hc4 | hc4
            · rw [if_pos hc4] at h
              refine jE_tsw 133 4 hC hc4 (by decide +kernel) ?_
              refine jE_blk (bs := [(.aload_n 0, 0, 0), (.getfield 497, 12, 83)]) (i := .ireturn) (a1 := 0) (a2 := 0) (pc1 := 137) (l1 := [(0, .ref 106), (1, .int x1), (2, .int x2), (3, .int x3)]) (st1 := [.int (σ.1 106 83)]) (σ1 := σ) (by decide +kernel) rfl (fun hC => ?_)
              have h9 := Option.some.inj h
              subst h9
              have e9 : ((some (.int (σ.1 106 83)), σ) : Option Value × jx_S) = res := hK
              subst e9
              exact jE_ret hC rfl
            · rw [if_neg hc4] at h
              rcases Classical.em (x1 = 5) with hc5 | hc5
              · rw [if_pos hc5] at h
                refine jE_tsw 138 5 hC hc5 (by decide +kernel) ?_
                refine jE_blk (bs := [(.aload_n 0, 0, 0), (.getfield 512, 12, 93)]) (i := .ireturn) (a1 := 0) (a2 := 0) (pc1 := 142) (l1 := [(0, .ref 106), (1, .int x1), (2, .int x2), (3, .int x3)]) (st1 := [.int (σ.1 106 93)]) (σ1 := σ) (by decide +kernel) rfl (fun hC => ?_)
                have h9 := Option.some.inj h
                subst h9
                have e9 : ((some (.int (σ.1 106 93)), σ) : Option Value × jx_S) = res := hK
                subst e9
                exact jE_ret hC rfl
              · rw [if_neg hc5] at h
                rcases Classical.em (x1 = 6) with hc6 | hc6
                · rw [if_pos hc6] at h
                  refine jE_tsw 143 6 hC hc6 (by decide +kernel) ?_
                  refine jE_blk (bs := [(.aload_n 0, 0, 0), (.getfield 515, 12, 95)]) (i := .ireturn) (a1 := 0) (a2 := 0) (pc1 := 147) (l1 := [(0, .ref 106), (1, .int x1), (2, .int x2), (3, .int x3)]) (st1 := [.int (σ.1 106 95)]) (σ1 := σ) (by decide +kernel) rfl (fun hC => ?_)
                  have h9 := Option.some.inj h
                  subst h9
                  have e9 : ((some (.int (σ.1 106 95)), σ) : Option Value × jx_S) = res := hK
                  subst e9
                  exact jE_ret hC rfl
                · rw [if_neg hc6] at h
                  rcases Classical.em (x1 = 7) with hc7 | hc7
                  · rw [if_pos hc7] at h
                    refine jE_tsw 148 7 hC hc7 (by decide +kernel) ?_
                    refine jE_blk (bs := [(.aload_n 0, 0, 0), (.getfield 518, 12, 96)]) (i := .ifCond .eq (7)) (a1 := 0) (a2 := 0) (pc1 := 152) (l1 := [(0, .ref 106), (1, .int x1), (2, .int x2), (3, .int x3)]) (st1 := [.int (σ.1 106 96)]) (σ1 := σ) (by decide +kernel) rfl (fun hC => ?_)
                    rcases Classical.em ((σ.1 106 96) = 0) with hc | hc
                    · rw [if_pos hc] at h
                      refine jE_ifT 159 hC (by decide) hc ?_
                      refine jE_blk (bs := [(.iconst (0), 0, 0)]) (i := .ireturn) (a1 := 0) (a2 := 0) (pc1 := 160) (l1 := [(0, .ref 106), (1, .int x1), (2, .int x2), (3, .int x3)]) (st1 := [.int (0 : Int32)]) (σ1 := σ) (by decide +kernel) rfl (fun hC => ?_)
                      have h9 := Option.some.inj h
                      subst h9
                      have e9 : ((some (.int (0 : Int32)), σ) : Option Value × jx_S) = res := hK
                      subst e9
                      exact jE_ret hC rfl
                    · rw [if_neg hc] at h
                      refine jE_ifF 159 hC (by decide) hc ?_
                      refine jE_blk (bs := [(.iconst (1), 1, 0), (.goto (4), 0, 0)]) (i := .ireturn) (a1 := 0) (a2 := 0) (pc1 := 160) (l1 := [(0, .ref 106), (1, .int x1), (2, .int x2), (3, .int x3)]) (st1 := [.int (1 : Int32)]) (σ1 := σ) (by decide +kernel) rfl (fun hC => ?_)
                      have h9 := Option.some.inj h
                      subst h9
                      have e9 : ((some (.int (1 : Int32)), σ) : Option Value × jx_S) = res := hK
                      subst e9
                      exact jE_ret hC rfl
                  · rw [if_neg hc7] at h
                    rcases Classical.em (x1 = 8) with hc8 | hc8
                    · rw [if_pos hc8] at h
                      refine jE_tsw 161 8 hC hc8 (by decide +kernel) ?_
                      refine jE_blk (bs := [(.aload_n 0, 0, 0), (.getfield 506, 12, 91)]) (i := .ireturn) (a1 := 0) (a2 := 0) (pc1 := 165) (l1 := [(0, .ref 106), (1, .int x1), (2, .int x2), (3, .int x3)]) (st1 := [.int (σ.1 106 91)]) (σ1 := σ) (by decide +kernel) rfl (fun hC => ?_)
                      have h9 := Option.some.inj h
                      subst h9
                      have e9 : ((some (.int (σ.1 106 91)), σ) : Option Value × jx_S) = res := hK
                      subst e9
                      exact jE_ret hC rfl
                    · rw [if_neg hc8] at h
                      refine jE_tswD 166 [0, 1, 2, 3, 4, 5, 6, 7, 8] hC (by decide +kernel) ⟨hc0, hc1, hc2, hc3, hc4, hc5, hc6, hc7, hc8, trivial⟩ ?_
                      refine jE_blk (bs := [(.aload_n 0, 0, 0), (.getfield 509, 12, 92)]) (i := .ireturn) (a1 := 0) (a2 := 0) (pc1 := 170) (l1 := [(0, .ref 106), (1, .int x1), (2, .int x2), (3, .int x3)]) (st1 := [.int (σ.1 106 92)]) (σ1 := σ) (by decide +kernel) rfl (fun hC => ?_)
                      have h9 := Option.some.inj h
                      subst h9
                      have e9 : ((some (.int (σ.1 106 92)), σ) : Option Value × jx_S) = res := hK
                      subst e9
                      exact jE_ret hC rfl
  · rw [if_neg hc] at h
    refine jE_icF 64 hC (by decide) hc ?_
    refine jE_blk (bs := [(.iload_n 2, 0, 0), (.aload_n 0, 0, 0), (.getfield 155, 12, 65), (.iload_n 3, 0, 0)]) (i := .iaload) (a1 := 0) (a2 := 0) (pc1 := 46) (l1 := [(0, .ref 106), (1, .int x1), (2, .int x2), (3, .int x3)]) (st1 := [.int x3, .ref 153, .int x2]) (σ1 := σ) (by decide +kernel) rfl (fun hC => ?_)
    obtain ⟨hi, h⟩ := jx_ite0_inv h
    refine jE_iald (n := 3000) hC (by decide) rfl hi ?_
    refine jE_blk (bs := [(.iconst (2), 2, 0)]) (i := .if_icmp .ne (7)) (a1 := 0) (a2 := 0) (pc1 := 48) (l1 := [(0, .ref 106), (1, .int x1), (2, .int x2), (3, .int x3)]) (st1 := [.int (2 : Int32), .int ((σ.1 153) (x3).toNatClampNeg), .int x2]) (σ1 := σ) (by decide +kernel) rfl (fun hC => ?_)
    rcases Classical.em (¬ ((σ.1 153) (x3).toNatClampNeg) = (2 : Int32)) with hc | hc
    · rw [if_pos hc] at h
      refine jE_icT 55 hC (by decide) hc ?_
      refine jE_blk (bs := [(.iconst (1), 1, 0)]) (i := .iadd) (a1 := 0) (a2 := 0) (pc1 := 56) (l1 := [(0, .ref 106), (1, .int x1), (2, .int x2), (3, .int x3)]) (st1 := [.int (1 : Int32), .int x2]) (σ1 := σ) (by decide +kernel) rfl (fun hC => ?_)
      exact jE_loc (l := [(0, .ref 106), (1, .int x1), (3, .int x3)]) (ks := [0, 1, 3]) rfl (by decide) ⟨rfl, rfl, rfl, trivial⟩ (x_r_told_56 d hd x1 x3 (1 : Int32) x2 σ _ res h hK)
    · rw [if_neg hc] at h
      refine jE_icF 55 hC (by decide) hc ?_
      refine jE_blk (bs := [(.iconst (0), 0, 0), (.goto (4), 0, 0)]) (i := .iadd) (a1 := 0) (a2 := 0) (pc1 := 56) (l1 := [(0, .ref 106), (1, .int x1), (2, .int x2), (3, .int x3)]) (st1 := [.int (0 : Int32), .int x2]) (σ1 := σ) (by decide +kernel) rfl (fun hC => ?_)
      exact jE_loc (l := [(0, .ref 106), (1, .int x1), (3, .int x3)]) (ks := [0, 1, 3]) rfl (by decide) ⟨rfl, rfl, rfl, trivial⟩ (x_r_told_56 d hd x1 x3 (0 : Int32) x2 σ _ res h hK)
def p_r_told_32 (x1 : Int32) (x2 : Int32) (x3 : Int32) (σ : jx_S) : Option (Int32 × jx_S) := jx_loop 100000000 (fun s => p_r_told_32_s s.1 s.2.1 s.2.2.1 (s.2.2.2)) (x1, x2, x3, σ)
theorem x_r_told_32 (d : Nat) (hd : 0 ≤ d) (x1 : Int32) (x2 : Int32) (x3 : Int32) (σ : jx_S) (t : (Int32 × jx_S)) (res : Option Value × jx_S) (h : p_r_told_32 x1 x2 x3 σ = some t) (hK : kkI t res) : jE d 231 32 [(0, .ref 106), (1, .int x1), (2, .int x2), (3, .int x3)] [] σ res := by
  refine jx_loop_ok (E := fun s t => ∀ res, kkI t res → jE d 231 32 [(0, .ref 106), (1, .int s.1), (2, .int s.2.1), (3, .int s.2.2.1)] [] s.2.2.2 res) (fun s t hs => ?_) _ _ _ h res hK
  cases t with
  | inl s1 => exact fun b hb res hk => x_r_told_32_s d hd (s.1) (s.2.1) (s.2.2.1) (s.2.2.2) _ res hs (hb res hk)
  | inr b => exact fun res hk => x_r_told_32_s d hd (s.1) (s.2.1) (s.2.2.1) (s.2.2.2) _ res hs hk
def p_r_told_16 (x1 : Int32) (y0 : Int32) (σ : jx_S) : Option (Int32 × jx_S) := (if y0 ≤ 0 then (p_r_told_32 x1 (0 : Int32) (0 : Int32) (jx_i σ 106 2 y0)) else (some (((0 : Int32), (jx_i σ 106 2 y0)))))
theorem x_r_told_16 (d : Nat) (hd : 0 ≤ d) (x1 : Int32) (y0 : Int32) (σ : jx_S) (t : (Int32 × jx_S)) (res : Option Value × jx_S) (h : p_r_told_16 x1 y0 σ = some t) (hK : kkI t res) : jE d 231 16 [(0, .ref 106), (1, .int x1)] [.int y0, .ref 106] σ res := by
  unfold p_r_told_16 at h
  refine jE_blk (bs := [(.putfield 209, 12, 2), (.aload_n 0, 0, 0), (.getfield 209, 12, 2)]) (i := .ifCond .le (5)) (a1 := 0) (a2 := 0) (pc1 := 23) (l1 := [(0, .ref 106), (1, .int x1)]) (st1 := [.int y0]) (σ1 := (jx_i σ 106 2 y0)) (by decide +kernel) rfl (fun hC => ?_)
  rcases Classical.em (y0 ≤ 0) with hc | hc
  · rw [if_pos hc] at h
    refine jE_ifT 28 hC (by decide) hc ?_
    refine jE_blk (bs := [(.iconst (0), 0, 0), (.istore_n 2, 4, 0), (.iconst (0), 0, 0), (.istore_n 3, 4, 0)]) (i := .iload_n 3) (a1 := 0) (a2 := 0) (pc1 := 32) (l1 := [(3, .int (0 : Int32)), (2, .int (0 : Int32)), (0, .ref 106), (1, .int x1)]) (st1 := []) (σ1 := (jx_i σ 106 2 y0)) (by decide +kernel) rfl (fun hC => ?_)
    exact jE_loc (l := [(0, .ref 106), (1, .int x1), (2, .int (0 : Int32)), (3, .int (0 : Int32))]) (ks := [0, 1, 2, 3]) rfl (by decide) ⟨rfl, rfl, rfl, rfl, trivial⟩ (x_r_told_32 d hd x1 (0 : Int32) (0 : Int32) (jx_i σ 106 2 y0) _ res h hK)
  · rw [if_neg hc] at h
    refine jE_ifF 28 hC (by decide) hc ?_
    refine jE_blk (bs := [(.iconst (0), 0, 0)]) (i := .ireturn) (a1 := 0) (a2 := 0) (pc1 := 27) (l1 := [(0, .ref 106), (1, .int x1)]) (st1 := [.int (0 : Int32)]) (σ1 := (jx_i σ 106 2 y0)) (by decide +kernel) rfl (fun hC => ?_)
    have h9 := Option.some.inj h
    subst h9
    have e9 : ((some (.int (0 : Int32)), (jx_i σ 106 2 y0)) : Option Value × jx_S) = res := hK
    subst e9
    exact jE_ret hC rfl
def p_r_told_11 (x1 : Int32) (σ : jx_S) : Option (Int32 × jx_S) := (p_r_told_16 x1 (1 : Int32) σ)
theorem x_r_told_11 (d : Nat) (hd : 0 ≤ d) (x1 : Int32) (σ : jx_S) (t : (Int32 × jx_S)) (res : Option Value × jx_S) (h : p_r_told_11 x1 σ = some t) (hK : kkI t res) : jE d 231 11 [(0, .ref 106), (1, .int x1)] [.ref 106] σ res := by
  unfold p_r_told_11 at h
  refine jE_blk (bs := [(.iconst (1), 1, 0), (.goto (4), 0, 0)]) (i := .putfield 209) (a1 := 12) (a2 := 2) (pc1 := 16) (l1 := [(0, .ref 106), (1, .int x1)]) (st1 := [.int (1 : Int32), .ref 106]) (σ1 := σ) (by decide +kernel) rfl (fun hC => ?_)
  exact jE_loc (l := [(0, .ref 106), (1, .int x1)]) (ks := [0, 1]) rfl (by decide) ⟨rfl, rfl, trivial⟩ (x_r_told_16 d hd x1 (1 : Int32) σ _ res h hK)
def p_r_told (x1 : Int32) (σ : jx_S) : Option (Int32 × jx_S) := (if x1 < 0 then (p_r_told_11 x1 σ) else (if x1 ≤ (9 : Int32) then (p_r_told_16 x1 (0 : Int32) σ) else (p_r_told_11 x1 σ)))
theorem x_r_told (d : Nat) (hd : 0 ≤ d) (x1 : Int32) (σ : jx_S) (t : (Int32 × jx_S)) (res : Option Value × jx_S) (h : p_r_told x1 σ = some t) (hK : kkI t res) : jE d 231 0 [(0, .ref 106), (1, .int x1)] [] σ res := by
  unfold p_r_told at h
  refine jE_blk (bs := [(.aload_n 0, 0, 0), (.iload_n 1, 0, 0)]) (i := .ifCond .lt (9)) (a1 := 0) (a2 := 0) (pc1 := 2) (l1 := [(0, .ref 106), (1, .int x1)]) (st1 := [.int x1, .ref 106]) (σ1 := σ) (by decide +kernel) rfl (fun hC => ?_)
  rcases Classical.em (x1 < 0) with hc | hc
  · rw [if_pos hc] at h
    refine jE_ifT 11 hC (by decide) hc ?_
    exact jE_loc (l := [(0, .ref 106), (1, .int x1)]) (ks := [0, 1]) rfl (by decide) ⟨rfl, rfl, trivial⟩ (x_r_told_11 d hd x1 σ _ res h hK)
  · rw [if_neg hc] at h
    refine jE_ifF 11 hC (by decide) hc ?_
    refine jE_blk (bs := [(.iload_n 1, 0, 0), (.bipush (9), 9, 0)]) (i := .if_icmp .le (7)) (a1 := 0) (a2 := 0) (pc1 := 8) (l1 := [(0, .ref 106), (1, .int x1)]) (st1 := [.int (9 : Int32), .int x1, .ref 106]) (σ1 := σ) (by decide +kernel) rfl (fun hC => ?_)
    rcases Classical.em (x1 ≤ (9 : Int32)) with hc | hc
    · rw [if_pos hc] at h
      refine jE_icT 15 hC (by decide) hc ?_
      refine jE_blk (bs := [(.iconst (0), 0, 0)]) (i := .putfield 209) (a1 := 12) (a2 := 2) (pc1 := 16) (l1 := [(0, .ref 106), (1, .int x1)]) (st1 := [.int (0 : Int32), .ref 106]) (σ1 := σ) (by decide +kernel) rfl (fun hC => ?_)
      exact jE_loc (l := [(0, .ref 106), (1, .int x1)]) (ks := [0, 1]) rfl (by decide) ⟨rfl, rfl, trivial⟩ (x_r_told_16 d hd x1 (0 : Int32) σ _ res h hK)
    · rw [if_neg hc] at h
      refine jE_icF 15 hC (by decide) hc ?_
      exact jE_loc (l := [(0, .ref 106), (1, .int x1)]) (ks := [0, 1]) rfl (by decide) ⟨rfl, rfl, trivial⟩ (x_r_told_11 d hd x1 σ _ res h hK)
def p_r_element_18 (x1 : Int32) (y0 : Int32) (σ : jx_S) : Option (Int32 × jx_S) := (if y0 ≤ 0 then (if x1 < 0 ∨ 50 ≤ (x1).toNatClampNeg then none else (some ((((σ.1 167) (x1).toNatClampNeg), (jx_i σ 106 2 y0))))) else (some (((0 : Int32), (jx_i σ 106 2 y0)))))
theorem x_r_element_18 (d : Nat) (hd : 0 ≤ d) (x1 : Int32) (y0 : Int32) (σ : jx_S) (t : (Int32 × jx_S)) (res : Option Value × jx_S) (h : p_r_element_18 x1 y0 σ = some t) (hK : kkI t res) : jE d 232 18 [(0, .ref 106), (1, .int x1)] [.int y0, .ref 106] σ res := by
  unfold p_r_element_18 at h
  refine jE_blk (bs := [(.putfield 209, 12, 2), (.aload_n 0, 0, 0), (.getfield 209, 12, 2)]) (i := .ifCond .le (7)) (a1 := 0) (a2 := 0) (pc1 := 25) (l1 := [(0, .ref 106), (1, .int x1)]) (st1 := [.int y0]) (σ1 := (jx_i σ 106 2 y0)) (by decide +kernel) rfl (fun hC => ?_)
  rcases Classical.em (y0 ≤ 0) with hc | hc
  · rw [if_pos hc] at h
    refine jE_ifT 32 hC (by decide) hc ?_
    refine jE_blk (bs := [(.aload_n 0, 0, 0), (.getfield 197, 12, 94), (.iload_n 1, 0, 0)]) (i := .iaload) (a1 := 0) (a2 := 0) (pc1 := 37) (l1 := [(0, .ref 106), (1, .int x1)]) (st1 := [.int x1, .ref 167]) (σ1 := (jx_i σ 106 2 y0)) (by decide +kernel) rfl (fun hC => ?_)
    obtain ⟨hi, h⟩ := jx_ite0_inv h
    refine jE_iald (n := 50) hC (by decide) rfl hi ?_
    refine jE_blk (bs := []) (i := .ireturn) (a1 := 0) (a2 := 0) (pc1 := 38) (l1 := [(0, .ref 106), (1, .int x1)]) (st1 := [.int ((σ.1 167) (x1).toNatClampNeg)]) (σ1 := (jx_i σ 106 2 y0)) (by decide +kernel) rfl (fun hC => ?_)
    have h9 := Option.some.inj h
    subst h9
    have e9 : ((some (.int ((σ.1 167) (x1).toNatClampNeg)), (jx_i σ 106 2 y0)) : Option Value × jx_S) = res := hK
    subst e9
    exact jE_ret hC rfl
  · rw [if_neg hc] at h
    refine jE_ifF 32 hC (by decide) hc ?_
    refine jE_blk (bs := [(.iconst (0), 0, 0), (.goto (9), 0, 0)]) (i := .ireturn) (a1 := 0) (a2 := 0) (pc1 := 38) (l1 := [(0, .ref 106), (1, .int x1)]) (st1 := [.int (0 : Int32)]) (σ1 := (jx_i σ 106 2 y0)) (by decide +kernel) rfl (fun hC => ?_)
    have h9 := Option.some.inj h
    subst h9
    have e9 : ((some (.int (0 : Int32)), (jx_i σ 106 2 y0)) : Option Value × jx_S) = res := hK
    subst e9
    exact jE_ret hC rfl
def p_r_element_13 (x1 : Int32) (σ : jx_S) : Option (Int32 × jx_S) := (p_r_element_18 x1 (1 : Int32) σ)
theorem x_r_element_13 (d : Nat) (hd : 0 ≤ d) (x1 : Int32) (σ : jx_S) (t : (Int32 × jx_S)) (res : Option Value × jx_S) (h : p_r_element_13 x1 σ = some t) (hK : kkI t res) : jE d 232 13 [(0, .ref 106), (1, .int x1)] [.ref 106] σ res := by
  unfold p_r_element_13 at h
  refine jE_blk (bs := [(.iconst (1), 1, 0), (.goto (4), 0, 0)]) (i := .putfield 209) (a1 := 12) (a2 := 2) (pc1 := 18) (l1 := [(0, .ref 106), (1, .int x1)]) (st1 := [.int (1 : Int32), .ref 106]) (σ1 := σ) (by decide +kernel) rfl (fun hC => ?_)
  exact jE_loc (l := [(0, .ref 106), (1, .int x1)]) (ks := [0, 1]) rfl (by decide) ⟨rfl, rfl, trivial⟩ (x_r_element_18 d hd x1 (1 : Int32) σ _ res h hK)
def p_r_element (x1 : Int32) (σ : jx_S) : Option (Int32 × jx_S) := (if x1 < 0 then (p_r_element_13 x1 σ) else (if x1 < (σ.1 106 95) then (p_r_element_18 x1 (0 : Int32) σ) else (p_r_element_13 x1 σ)))
theorem x_r_element (d : Nat) (hd : 0 ≤ d) (x1 : Int32) (σ : jx_S) (t : (Int32 × jx_S)) (res : Option Value × jx_S) (h : p_r_element x1 σ = some t) (hK : kkI t res) : jE d 232 0 [(0, .ref 106), (1, .int x1)] [] σ res := by
  unfold p_r_element at h
  refine jE_blk (bs := [(.aload_n 0, 0, 0), (.iload_n 1, 0, 0)]) (i := .ifCond .lt (11)) (a1 := 0) (a2 := 0) (pc1 := 2) (l1 := [(0, .ref 106), (1, .int x1)]) (st1 := [.int x1, .ref 106]) (σ1 := σ) (by decide +kernel) rfl (fun hC => ?_)
  rcases Classical.em (x1 < 0) with hc | hc
  · rw [if_pos hc] at h
    refine jE_ifT 13 hC (by decide) hc ?_
    exact jE_loc (l := [(0, .ref 106), (1, .int x1)]) (ks := [0, 1]) rfl (by decide) ⟨rfl, rfl, trivial⟩ (x_r_element_13 d hd x1 σ _ res h hK)
  · rw [if_neg hc] at h
    refine jE_ifF 13 hC (by decide) hc ?_
    refine jE_blk (bs := [(.iload_n 1, 0, 0), (.aload_n 0, 0, 0), (.getfield 515, 12, 95)]) (i := .if_icmp .lt (7)) (a1 := 0) (a2 := 0) (pc1 := 10) (l1 := [(0, .ref 106), (1, .int x1)]) (st1 := [.int (σ.1 106 95), .int x1, .ref 106]) (σ1 := σ) (by decide +kernel) rfl (fun hC => ?_)
    rcases Classical.em (x1 < (σ.1 106 95)) with hc | hc
    · rw [if_pos hc] at h
      refine jE_icT 17 hC (by decide) hc ?_
      refine jE_blk (bs := [(.iconst (0), 0, 0)]) (i := .putfield 209) (a1 := 12) (a2 := 2) (pc1 := 18) (l1 := [(0, .ref 106), (1, .int x1)]) (st1 := [.int (0 : Int32), .ref 106]) (σ1 := σ) (by decide +kernel) rfl (fun hC => ?_)
      exact jE_loc (l := [(0, .ref 106), (1, .int x1)]) (ks := [0, 1]) rfl (by decide) ⟨rfl, rfl, trivial⟩ (x_r_element_18 d hd x1 (0 : Int32) σ _ res h hK)
    · rw [if_neg hc] at h
      refine jE_icF 17 hC (by decide) hc ?_
      exact jE_loc (l := [(0, .ref 106), (1, .int x1)]) (ks := [0, 1]) rfl (by decide) ⟨rfl, rfl, trivial⟩ (x_r_element_13 d hd x1 σ _ res h hK)
