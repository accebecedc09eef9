def kk_r_function0_103 (d : Nat) (t : ((Int32 × jx_S) ⊕ jx_S)) (res : Option Value × jx_S) : Prop := match t with
  | .inl s => jE d 173 103 [(0, .ref 106), (1, .int s.1)] [] s.2 res
  | .inr t => kkV t res
def kk_r_function0_170 (d : Nat) (t : ((Int32 × jx_S) ⊕ jx_S)) (res : Option Value × jx_S) : Prop := match t with
  | .inl s => jE d 173 170 [(0, .ref 106), (1, .int s.1)] [] s.2 res
  | .inr t => kkV t res
def p_r_function0_245 (x1 : Int32) (σ : jx_S) : Option jx_S := ((p_r_expect (20 : Int32) σ).bind fun q5 => (if x1 < 0 ∨ 40 ≤ (x1).toNatClampNeg then none else (if (q5.1 106 41) = 0 then (some ((jx_i (jx_i q5 129 (x1).toNatClampNeg (q5.1 106 49)) 106 38 ((q5.1 106 38) + (0 : Int32))))) else (some ((jx_i (jx_i q5 129 (x1).toNatClampNeg (q5.1 106 49)) 106 38 ((q5.1 106 38) + (1 : Int32))))))))
theorem x_r_function0_245 (d : Nat) (hd : 6 ≤ d) (x1 : Int32) (σ : jx_S) (t : jx_S) (res : Option Value × jx_S) (h : p_r_function0_245 x1 σ = some t) (hK : kkV t res) : jE d 173 245 [(0, .ref 106), (1, .int x1)] [] σ res := by
  unfold p_r_function0_245 at h
  refine jE_blk (bs := [(.aload_n 0, 0, 0), (.bipush (20), 20, 0)]) (i := .invokevirtual 338) (a1 := 156) (a2 := 0) (pc1 := 248) (l1 := [(0, .ref 106), (1, .int x1)]) (st1 := [.int (20 : Int32), .ref 106]) (σ1 := σ) (by decide +kernel) rfl (fun hC => ?_)
  obtain ⟨q5, hq, h⟩ := Option.bind_eq_some_iff.mp h
  refine jE_call (as := [.ref 106, .int (20 : Int32)]) (pc1 := 251) (st1 := []) hC rfl (by decide) (by omega) (x_r_expect (d - 1) (by omega) (20 : Int32) σ q5 (none, q5) hq rfl) ?_
  refine jE_blk (bs := [(.aload_n 0, 0, 0), (.getfield 81, 12, 29), (.iload_n 1, 0, 0), (.aload_n 0, 0, 0), (.getfield 314, 12, 49)]) (i := .iastore) (a1 := 0) (a2 := 0) (pc1 := 260) (l1 := [(0, .ref 106), (1, .int x1)]) (st1 := [.int (q5.1 106 49), .int x1, .ref 129]) (σ1 := q5) (by decide +kernel) rfl (fun hC => ?_)
  obtain ⟨hi, h⟩ := jx_ite0_inv h
  refine jE_iast (n := 40) hC (by decide) rfl hi ?_
  refine jE_blk (bs := [(.aload_n 0, 0, 0), (.dup, 0, 0), (.getfield 219, 12, 38), (.aload_n 0, 0, 0), (.getfield 300, 12, 41)]) (i := .ifCond .eq (7)) (a1 := 0) (a2 := 0) (pc1 := 270) (l1 := [(0, .ref 106), (1, .int x1)]) (st1 := [.int (q5.1 106 41), .int (q5.1 106 38), .ref 106]) (σ1 := (jx_i q5 129 (x1).toNatClampNeg (q5.1 106 49))) (by decide +kernel) rfl (fun hC => ?_)
  rcases Classical.em ((q5.1 106 41) = 0) with hc | hc
  · rw [if_pos hc] at h
    refine jE_ifT 277 hC (by decide) hc ?_
    refine jE_blk (bs := [(.iconst (0), 0, 0), (.iadd, 0, 0), (.putfield 219, 12, 38)]) (i := .return_) (a1 := 0) (a2 := 0) (pc1 := 282) (l1 := [(0, .ref 106), (1, .int x1)]) (st1 := []) (σ1 := (jx_i (jx_i q5 129 (x1).toNatClampNeg (q5.1 106 49)) 106 38 ((q5.1 106 38) + (0 : Int32)))) (by decide +kernel) rfl (fun hC => ?_)
    have h9 := Option.some.inj h
    subst h9
    have e9 : ((none, (jx_i (jx_i q5 129 (x1).toNatClampNeg (q5.1 106 49)) 106 38 ((q5.1 106 38) + (0 : Int32)))) : Option Value × jx_S) = res := hK
    subst e9
    exact jE_ret hC rfl
  · rw [if_neg hc] at h
    refine jE_ifF 277 hC (by decide) hc ?_
    refine jE_blk (bs := [(.iconst (1), 1, 0), (.goto (4), 0, 0), (.iadd, 0, 0), (.putfield 219, 12, 38)]) (i := .return_) (a1 := 0) (a2 := 0) (pc1 := 282) (l1 := [(0, .ref 106), (1, .int x1)]) (st1 := []) (σ1 := (jx_i (jx_i q5 129 (x1).toNatClampNeg (q5.1 106 49)) 106 38 ((q5.1 106 38) + (1 : Int32)))) (by decide +kernel) rfl (fun hC => ?_)
    have h9 := Option.some.inj h
    subst h9
    have e9 : ((none, (jx_i (jx_i q5 129 (x1).toNatClampNeg (q5.1 106 49)) 106 38 ((q5.1 106 38) + (1 : Int32)))) : Option Value × jx_S) = res := hK
    subst e9
    exact jE_ret hC rfl
def p_r_function0_228 (x1 : Int32) (σ : jx_S) : Option jx_S := (if (σ.1 106 41) = 0 then (p_r_function0_245 x1 σ) else ((p_r_take σ).bind fun q6 => (if x1 < 0 ∨ 40 ≤ (x1).toNatClampNeg then none else (p_r_function0_245 x1 (jx_i q6.2 131 (x1).toNatClampNeg q6.1)))))
theorem x_r_function0_228 (d : Nat) (hd : 6 ≤ d) (x1 : Int32) (σ : jx_S) (t : jx_S) (res : Option Value × jx_S) (h : p_r_function0_228 x1 σ = some t) (hK : kkV t res) : jE d 173 228 [(0, .ref 106), (1, .int x1)] [] σ res := by
  unfold p_r_function0_228 at h
  refine jE_blk (bs := [(.aload_n 0, 0, 0), (.getfield 300, 12, 41)]) (i := .ifCond .eq (13)) (a1 := 0) (a2 := 0) (pc1 := 232) (l1 := [(0, .ref 106), (1, .int x1)]) (st1 := [.int (σ.1 106 41)]) (σ1 := σ) (by decide +kernel) rfl (fun hC => ?_)
  rcases Classical.em ((σ.1 106 41) = 0) with hc | hc
  · rw [if_pos hc] at h
    refine jE_ifT 245 hC (by decide) hc ?_
    exact jE_loc (l := [(0, .ref 106), (1, .int x1)]) (ks := [0, 1]) rfl (by decide) ⟨rfl, rfl, trivial⟩ (x_r_function0_245 d hd x1 σ _ res h hK)
  · rw [if_neg hc] at h
    refine jE_ifF 245 hC (by decide) hc ?_
    refine jE_blk (bs := [(.aload_n 0, 0, 0), (.getfield 87, 12, 31), (.iload_n 1, 0, 0), (.aload_n 0, 0, 0)]) (i := .invokevirtual 352) (a1 := 163) (a2 := 0) (pc1 := 241) (l1 := [(0, .ref 106), (1, .int x1)]) (st1 := [.ref 106, .int x1, .ref 131]) (σ1 := σ) (by decide +kernel) rfl (fun hC => ?_)
    obtain ⟨q6, hq, h⟩ := Option.bind_eq_some_iff.mp h
    refine jE_call (as := [.ref 106]) (pc1 := 244) (st1 := [.int x1, .ref 131]) hC rfl (by decide) (by omega) (x_r_take (d - 1) (by omega) σ q6 (some (.int q6.1), q6.2) hq rfl) ?_
    refine jE_blk (bs := []) (i := .iastore) (a1 := 0) (a2 := 0) (pc1 := 244) (l1 := [(0, .ref 106), (1, .int x1)]) (st1 := [.int q6.1, .int x1, .ref 131]) (σ1 := q6.2) (by decide +kernel) rfl (fun hC => ?_)
    obtain ⟨hi, h⟩ := jx_ite0_inv h
    refine jE_iast (n := 40) hC (by decide) rfl hi ?_
    exact jE_loc (l := [(0, .ref 106), (1, .int x1)]) (ks := [0, 1]) rfl (by decide) ⟨rfl, rfl, trivial⟩ (x_r_function0_245 d hd x1 (jx_i q6.2 131 (x1).toNatClampNeg q6.1) _ res h hK)
def p_r_function0_170_s (x1 : Int32) (σ : jx_S) : Option ((Int32 × jx_S) ⊕ jx_S) := (if (σ.1 106 41) = 0 then (Option.map Sum.inr (p_r_function0_228 x1 σ)) else (if (σ.1 106 45) ≤ 0 then (Option.map Sum.inr (p_r_function0_228 x1 σ)) else (if ((σ.1 106 45) - (1 : Int32)) < 0 ∨ 4000 ≤ (((σ.1 106 45) - (1 : Int32))).toNatClampNeg then none else (if ((σ.1 106 45) - (1 : Int32)) < 0 ∨ 4000 ≤ (((σ.1 106 45) - (1 : Int32))).toNatClampNeg then none else (if ((σ.1 106 45) - (1 : Int32)) < 0 ∨ 4000 ≤ (((σ.1 106 45) - (1 : Int32))).toNatClampNeg then none else ((p_r_readOne ((σ.1 138) (((σ.1 106 45) - (1 : Int32))).toNatClampNeg) ((σ.1 139) (((σ.1 106 45) - (1 : Int32))).toNatClampNeg) ((σ.1 140) (((σ.1 106 45) - (1 : Int32))).toNatClampNeg) (jx_i σ 106 45 ((σ.1 106 45) - (1 : Int32)))).bind fun q9 => (some (.inl (x1, q9)))))))))
theorem x_r_function0_170_s (d : Nat) (hd : 6 ≤ d) (x1 : Int32) (σ : jx_S) (t : ((Int32 × jx_S) ⊕ jx_S)) (res : Option Value × jx_S) (h : p_r_function0_170_s x1 σ = some t) (hK : kk_r_function0_170 d t res) : jE d 173 170 [(0, .ref 106), (1, .int x1)] [] σ res := by
  unfold p_r_function0_170_s at h
  refine jE_blk (bs := [(.aload_n 0, 0, 0), (.getfield 300, 12, 41)]) (i := .ifCond .eq (54)) (a1 := 0) (a2 := 0) (pc1 := 174) (l1 := [(0, .ref 106), (1, .int x1)]) (st1 := [.int (σ.1 106 41)]) (σ1 := σ) (by decide +kernel) rfl (fun hC => ?_)
  rcases Classical.em ((σ.1 106 41) = 0) with hc | hc
  · rw [if_pos hc] at h
    refine jE_ifT 228 hC (by decide) hc ?_
    obtain ⟨t9_7, h9_7, h8_7⟩ := Option.map_eq_some_iff.mp h
    clear h
    subst h8_7
    have h := h9_7
    clear h9_7
    exact jE_loc (l := [(0, .ref 106), (1, .int x1)]) (ks := [0, 1]) rfl (by decide) ⟨rfl, rfl, trivial⟩ (x_r_function0_228 d hd x1 σ _ res h hK)
  · rw [if_neg hc] at h
    refine jE_ifF 228 hC (by decide) hc ?_
    refine jE_blk (bs := [(.aload_n 0, 0, 0), (.getfield 323, 12, 45)]) (i := .ifCond .le (47)) (a1 := 0) (a2 := 0) (pc1 := 181) (l1 := [(0, .ref 106), (1, .int x1)]) (st1 := [.int (σ.1 106 45)]) (σ1 := σ) (by decide +kernel) rfl (fun hC => ?_)
    rcases Classical.em ((σ.1 106 45) ≤ 0) with hc | hc
    · rw [if_pos hc] at h
      refine jE_ifT 228 hC (by decide) hc ?_
      obtain ⟨t9_8, h9_8, h8_8⟩ := Option.map_eq_some_iff.mp h
      clear h
      subst h8_8
      have h := h9_8
      clear h9_8
      exact jE_loc (l := [(0, .ref 106), (1, .int x1)]) (ks := [0, 1]) rfl (by decide) ⟨rfl, rfl, trivial⟩ (x_r_function0_228 d hd x1 σ _ res h hK)
    · rw [if_neg hc] at h
      refine jE_ifF 228 hC (by decide) hc ?_
      refine jE_blk (bs := [(.aload_n 0, 0, 0), (.dup, 0, 0), (.getfield 323, 12, 45), (.iconst (1), 1, 0), (.isub, 0, 0), (.putfield 323, 12, 45), (.aload_n 0, 0, 0), (.aload_n 0, 0, 0), (.getfield 108, 12, 42), (.aload_n 0, 0, 0), (.getfield 323, 12, 45)]) (i := .iaload) (a1 := 0) (a2 := 0) (pc1 := 203) (l1 := [(0, .ref 106), (1, .int x1)]) (st1 := [.int ((σ.1 106 45) - (1 : Int32)), .ref 138, .ref 106]) (σ1 := (jx_i σ 106 45 ((σ.1 106 45) - (1 : Int32)))) (by decide +kernel) rfl (fun hC => ?_)
      obtain ⟨hi, h⟩ := jx_ite0_inv h
      refine jE_iald (n := 4000) hC (by decide) rfl hi ?_
      refine jE_blk (bs := [(.aload_n 0, 0, 0), (.getfield 111, 12, 43), (.aload_n 0, 0, 0), (.getfield 323, 12, 45)]) (i := .iaload) (a1 := 0) (a2 := 0) (pc1 := 212) (l1 := [(0, .ref 106), (1, .int x1)]) (st1 := [.int ((σ.1 106 45) - (1 : Int32)), .ref 139, .int ((σ.1 138) (((σ.1 106 45) - (1 : Int32))).toNatClampNeg), .ref 106]) (σ1 := (jx_i σ 106 45 ((σ.1 106 45) - (1 : Int32)))) (by decide +kernel) rfl (fun hC => ?_)
      obtain ⟨hi, h⟩ := jx_ite0_inv h
      refine jE_iald (n := 4000) hC (by decide) rfl hi ?_
      refine jE_blk (bs := [(.aload_n 0, 0, 0), (.getfield 114, 12, 44), (.aload_n 0, 0, 0), (.getfield 323, 12, 45)]) (i := .iaload) (a1 := 0) (a2 := 0) (pc1 := 221) (l1 := [(0, .ref 106), (1, .int x1)]) (st1 := [.int ((σ.1 106 45) - (1 : Int32)), .ref 140, .int ((σ.1 139) (((σ.1 106 45) - (1 : Int32))).toNatClampNeg), .int ((σ.1 138) (((σ.1 106 45) - (1 : Int32))).toNatClampNeg), .ref 106]) (σ1 := (jx_i σ 106 45 ((σ.1 106 45) - (1 : Int32)))) (by decide +kernel) rfl (fun hC => ?_)
      obtain ⟨hi, h⟩ := jx_ite0_inv h
      refine jE_iald (n := 4000) hC (by decide) rfl hi ?_
      refine jE_blk (bs := []) (i := .invokevirtual 383) (a1 := 167) (a2 := 0) (pc1 := 222) (l1 := [(0, .ref 106), (1, .int x1)]) (st1 := [.int ((σ.1 140) (((σ.1 106 45) - (1 : Int32))).toNatClampNeg), .int ((σ.1 139) (((σ.1 106 45) - (1 : Int32))).toNatClampNeg), .int ((σ.1 138) (((σ.1 106 45) - (1 : Int32))).toNatClampNeg), .ref 106]) (σ1 := (jx_i σ 106 45 ((σ.1 106 45) - (1 : Int32)))) (by decide +kernel) rfl (fun hC => ?_)
      obtain ⟨q9, hq, h⟩ := Option.bind_eq_some_iff.mp h
      refine jE_call (as := [.ref 106, .int ((σ.1 138) (((σ.1 106 45) - (1 : Int32))).toNatClampNeg), .int ((σ.1 139) (((σ.1 106 45) - (1 : Int32))).toNatClampNeg), .int ((σ.1 140) (((σ.1 106 45) - (1 : Int32))).toNatClampNeg)]) (pc1 := 225) (st1 := []) hC rfl (by decide) (by omega) (x_r_readOne (d - 1) (by omega) ((σ.1 138) (((σ.1 106 45) - (1 : Int32))).toNatClampNeg) ((σ.1 139) (((σ.1 106 45) - (1 : Int32))).toNatClampNeg) ((σ.1 140) (((σ.1 106 45) - (1 : Int32))).toNatClampNeg) (jx_i σ 106 45 ((σ.1 106 45) - (1 : Int32))) q9 (none, q9) hq rfl) ?_
      refine jE_blk (bs := [(.goto (-55), 0, 0)]) (i := .aload_n 0) (a1 := 0) (a2 := 0) (pc1 := 170) (l1 := [(0, .ref 106), (1, .int x1)]) (st1 := []) (σ1 := q9) (by decide +kernel) rfl (fun hC => ?_)
      have h9 := Option.some.inj h
      subst h9
      exact jE_loc (l := [(0, .ref 106), (1, .int x1)]) (ks := [0, 1]) rfl (by decide) ⟨rfl, rfl, trivial⟩ hK
def p_r_function0_170 (x1 : Int32) (σ : jx_S) : Option jx_S := jx_loop 100000000 (fun s => p_r_function0_170_s s.1 (s.2)) (x1, σ)
theorem x_r_function0_170 (d : Nat) (hd : 6 ≤ d) (x1 : Int32) (σ : jx_S) (t : jx_S) (res : Option Value × jx_S) (h : p_r_function0_170 x1 σ = some t) (hK : kkV t res) : jE d 173 170 [(0, .ref 106), (1, .int x1)] [] σ res := by
  refine jx_loop_ok (E := fun s t => ∀ res, kkV t res → jE d 173 170 [(0, .ref 106), (1, .int s.1)] [] s.2 res) (fun s t hs => ?_) _ _ _ h res hK
  cases t with
  | inl s1 => exact fun b hb res hk => x_r_function0_170_s d hd (s.1) (s.2) _ res hs (hb res hk)
  | inr b => exact fun res hk => x_r_function0_170_s d hd (s.1) (s.2) _ res hs hk
def p_r_function0_131 (x1 : Int32) (σ : jx_S) : Option jx_S := ((p_r_expect (18 : Int32) σ).bind fun q1 => ((p_r_baseType q1).bind fun q2 => (if x1 < 0 ∨ 40 ≤ (x1).toNatClampNeg then none else ((p_r_expect (19 : Int32) (jx_i q2.2 128 (x1).toNatClampNeg q2.1)).bind fun q3 => (if x1 < 0 ∨ 40 ≤ (x1).toNatClampNeg then none else ((p_r_later (1 : Int32) (0 : Int32) (0 : Int32) (jx_i q3 132 (x1).toNatClampNeg (q3.1 106 25))).bind fun q4 => (p_r_function0_170 x1 q4)))))))
theorem x_r_function0_131 (d : Nat) (hd : 6 ≤ d) (x1 : Int32) (σ : jx_S) (t : jx_S) (res : Option Value × jx_S) (h : p_r_function0_131 x1 σ = some t) (hK : kkV t res) : jE d 173 131 [(0, .ref 106), (1, .int x1)] [] σ res := by
  unfold p_r_function0_131 at h
  refine jE_blk (bs := [(.aload_n 0, 0, 0), (.bipush (18), 18, 0)]) (i := .invokevirtual 338) (a1 := 156) (a2 := 0) (pc1 := 134) (l1 := [(0, .ref 106), (1, .int x1)]) (st1 := [.int (18 : Int32), .ref 106]) (σ1 := σ) (by decide +kernel) rfl (fun hC => ?_)
  obtain ⟨q1, hq, h⟩ := Option.bind_eq_some_iff.mp h
  refine jE_call (as := [.ref 106, .int (18 : Int32)]) (pc1 := 137) (st1 := []) hC rfl (by decide) (by omega) (x_r_expect (d - 1) (by omega) (18 : Int32) σ q1 (none, q1) hq rfl) ?_
  refine jE_blk (bs := [(.aload_n 0, 0, 0), (.getfield 78, 12, 28), (.iload_n 1, 0, 0), (.aload_n 0, 0, 0)]) (i := .invokevirtual 310) (a1 := 157) (a2 := 0) (pc1 := 143) (l1 := [(0, .ref 106), (1, .int x1)]) (st1 := [.ref 106, .int x1, .ref 128]) (σ1 := q1) (by decide +kernel) rfl (fun hC => ?_)
  obtain ⟨q2, hq, h⟩ := Option.bind_eq_some_iff.mp h
  refine jE_call (as := [.ref 106]) (pc1 := 146) (st1 := [.int x1, .ref 128]) hC rfl (by decide) (by omega) (x_r_baseType (d - 1) (by omega) q1 q2 (some (.int q2.1), q2.2) hq rfl) ?_
  refine jE_blk (bs := []) (i := .iastore) (a1 := 0) (a2 := 0) (pc1 := 146) (l1 := [(0, .ref 106), (1, .int x1)]) (st1 := [.int q2.1, .int x1, .ref 128]) (σ1 := q2.2) (by decide +kernel) rfl (fun hC => ?_)
  obtain ⟨hi, h⟩ := jx_ite0_inv h
  refine jE_iast (n := 40) hC (by decide) rfl hi ?_
  refine jE_blk (bs := [(.aload_n 0, 0, 0), (.bipush (19), 19, 0)]) (i := .invokevirtual 338) (a1 := 156) (a2 := 0) (pc1 := 150) (l1 := [(0, .ref 106), (1, .int x1)]) (st1 := [.int (19 : Int32), .ref 106]) (σ1 := (jx_i q2.2 128 (x1).toNatClampNeg q2.1)) (by decide +kernel) rfl (fun hC => ?_)
  obtain ⟨q3, hq, h⟩ := Option.bind_eq_some_iff.mp h
  refine jE_call (as := [.ref 106, .int (19 : Int32)]) (pc1 := 153) (st1 := []) hC rfl (by decide) (by omega) (x_r_expect (d - 1) (by omega) (19 : Int32) (jx_i q2.2 128 (x1).toNatClampNeg q2.1) q3 (none, q3) hq rfl) ?_
  refine jE_blk (bs := [(.aload_n 0, 0, 0), (.getfield 90, 12, 32), (.iload_n 1, 0, 0), (.aload_n 0, 0, 0), (.getfield 329, 12, 25)]) (i := .iastore) (a1 := 0) (a2 := 0) (pc1 := 162) (l1 := [(0, .ref 106), (1, .int x1)]) (st1 := [.int (q3.1 106 25), .int x1, .ref 132]) (σ1 := q3) (by decide +kernel) rfl (fun hC => ?_)
  obtain ⟨hi, h⟩ := jx_ite0_inv h
  refine jE_iast (n := 40) hC (by decide) rfl hi ?_
  refine jE_blk (bs := [(.aload_n 0, 0, 0), (.iconst (1), 1, 0), (.iconst (0), 0, 0), (.iconst (0), 0, 0)]) (i := .invokevirtual 342) (a1 := 162) (a2 := 0) (pc1 := 167) (l1 := [(0, .ref 106), (1, .int x1)]) (st1 := [.int (0 : Int32), .int (0 : Int32), .int (1 : Int32), .ref 106]) (σ1 := (jx_i q3 132 (x1).toNatClampNeg (q3.1 106 25))) (by decide +kernel) rfl (fun hC => ?_)
  obtain ⟨q4, hq, h⟩ := Option.bind_eq_some_iff.mp h
  refine jE_call (as := [.ref 106, .int (1 : Int32), .int (0 : Int32), .int (0 : Int32)]) (pc1 := 170) (st1 := []) hC rfl (by decide) (by omega) (x_r_later (d - 1) (by omega) (1 : Int32) (0 : Int32) (0 : Int32) (jx_i q3 132 (x1).toNatClampNeg (q3.1 106 25)) q4 (none, q4) hq rfl) ?_
  exact jE_loc (l := [(0, .ref 106), (1, .int x1)]) (ks := [0, 1]) rfl (by decide) ⟨rfl, rfl, trivial⟩ (x_r_function0_170 d hd x1 q4 _ res h hK)
def p_r_function0_103_s (x1 : Int32) (σ : jx_S) : Option ((Int32 × jx_S) ⊕ jx_S) := (if (σ.1 106 41) = 0 then (Option.map Sum.inr (p_r_function0_131 x1 σ)) else (if (σ.1 106 40) < 0 ∨ 1202 ≤ ((σ.1 106 40)).toNatClampNeg then none else (if ¬ ((σ.1 108) ((σ.1 106 40)).toNatClampNeg) = (16 : Int32) then (Option.map Sum.inr (p_r_function0_131 x1 σ)) else ((p_r_parameter0 σ).bind fun q12 => (some (.inl (x1, q12)))))))
theorem x_r_function0_103_s (d : Nat) (hd : 6 ≤ d) (x1 : Int32) (σ : jx_S) (t : ((Int32 × jx_S) ⊕ jx_S)) (res : Option Value × jx_S) (h : p_r_function0_103_s x1 σ = some t) (hK : kk_r_function0_103 d t res) : jE d 173 103 [(0, .ref 106), (1, .int x1)] [] σ res := by
  unfold p_r_function0_103_s at h
  refine jE_blk (bs := [(.aload_n 0, 0, 0), (.getfield 300, 12, 41)]) (i := .ifCond .eq (24)) (a1 := 0) (a2 := 0) (pc1 := 107) (l1 := [(0, .ref 106), (1, .int x1)]) (st1 := [.int (σ.1 106 41)]) (σ1 := σ) (by decide +kernel) rfl (fun hC => ?_)
  rcases Classical.em ((σ.1 106 41) = 0) with hc | hc
  · rw [if_pos hc] at h
    refine jE_ifT 131 hC (by decide) hc ?_
    obtain ⟨t9_10, h9_10, h8_10⟩ := Option.map_eq_some_iff.mp h
    clear h
    subst h8_10
    have h := h9_10
    clear h9_10
    exact jE_loc (l := [(0, .ref 106), (1, .int x1)]) (ks := [0, 1]) rfl (by decide) ⟨rfl, rfl, trivial⟩ (x_r_function0_131 d hd x1 σ _ res h hK)
  · rw [if_neg hc] at h
    refine jE_ifF 131 hC (by decide) hc ?_
    refine jE_blk (bs := [(.aload_n 0, 0, 0), (.getfield 17, 12, 6), (.aload_n 0, 0, 0), (.getfield 303, 12, 40)]) (i := .iaload) (a1 := 0) (a2 := 0) (pc1 := 118) (l1 := [(0, .ref 106), (1, .int x1)]) (st1 := [.int (σ.1 106 40), .ref 108]) (σ1 := σ) (by decide +kernel) rfl (fun hC => ?_)
    obtain ⟨hi, h⟩ := jx_ite0_inv h
    refine jE_iald (n := 1202) hC (by decide) rfl hi ?_
    refine jE_blk (bs := [(.bipush (16), 16, 0)]) (i := .if_icmp .ne (10)) (a1 := 0) (a2 := 0) (pc1 := 121) (l1 := [(0, .ref 106), (1, .int x1)]) (st1 := [.int (16 : Int32), .int ((σ.1 108) ((σ.1 106 40)).toNatClampNeg)]) (σ1 := σ) (by decide +kernel) rfl (fun hC => ?_)
    rcases Classical.em (¬ ((σ.1 108) ((σ.1 106 40)).toNatClampNeg) = (16 : Int32)) with hc | hc
    · rw [if_pos hc] at h
      refine jE_icT 131 hC (by decide) hc ?_
      obtain ⟨t9_11, h9_11, h8_11⟩ := Option.map_eq_some_iff.mp h
      clear h
      subst h8_11
      have h := h9_11
      clear h9_11
      exact jE_loc (l := [(0, .ref 106), (1, .int x1)]) (ks := [0, 1]) rfl (by decide) ⟨rfl, rfl, trivial⟩ (x_r_function0_131 d hd x1 σ _ res h hK)
    · rw [if_neg hc] at h
      refine jE_icF 131 hC (by decide) hc ?_
      refine jE_blk (bs := [(.aload_n 0, 0, 0)]) (i := .invokevirtual 380) (a1 := 172) (a2 := 0) (pc1 := 125) (l1 := [(0, .ref 106), (1, .int x1)]) (st1 := [.ref 106]) (σ1 := σ) (by decide +kernel) rfl (fun hC => ?_)
      obtain ⟨q12, hq, h⟩ := Option.bind_eq_some_iff.mp h
      refine jE_call (as := [.ref 106]) (pc1 := 128) (st1 := []) hC rfl (by decide) (by omega) (x_r_parameter0 (d - 1) (by omega) σ q12 (none, q12) hq rfl) ?_
      refine jE_blk (bs := [(.goto (-25), 0, 0)]) (i := .aload_n 0) (a1 := 0) (a2 := 0) (pc1 := 103) (l1 := [(0, .ref 106), (1, .int x1)]) (st1 := []) (σ1 := q12) (by decide +kernel) rfl (fun hC => ?_)
      have h9 := Option.some.inj h
      subst h9
      exact jE_loc (l := [(0, .ref 106), (1, .int x1)]) (ks := [0, 1]) rfl (by decide) ⟨rfl, rfl, trivial⟩ hK
def p_r_function0_103 (x1 : Int32) (σ : jx_S) : Option jx_S := jx_loop 100000000 (fun s => p_r_function0_103_s s.1 (s.2)) (x1, σ)
theorem x_r_function0_103 (d : Nat) (hd : 6 ≤ d) (x1 : Int32) (σ : jx_S) (t : jx_S) (res : Option Value × jx_S) (h : p_r_function0_103 x1 σ = some t) (hK : kkV t res) : jE d 173 103 [(0, .ref 106), (1, .int x1)] [] σ res := by
  refine jx_loop_ok (E := fun s t => ∀ res, kkV t res → jE d 173 103 [(0, .ref 106), (1, .int s.1)] [] s.2 res) (fun s t hs => ?_) _ _ _ h res hK
  cases t with
  | inl s1 => exact fun b hb res hk => x_r_function0_103_s d hd (s.1) (s.2) _ res hs (hb res hk)
  | inr b => exact fun res hk => x_r_function0_103_s d hd (s.1) (s.2) _ res hs hk
def p_r_function0 (σ : jx_S) : Option jx_S := (if (σ.1 106 40) < 0 ∨ 1202 ≤ ((σ.1 106 40)).toNatClampNeg then none else (if ((σ.1 108) ((σ.1 106 40)).toNatClampNeg) = (1 : Int32) then (if ¬ (σ.1 106 38) = (40 : Int32) then (if (σ.1 106 38) < 0 ∨ 40 ≤ ((σ.1 106 38)).toNatClampNeg then none else (if (σ.1 106 38) < 0 ∨ 40 ≤ ((σ.1 106 38)).toNatClampNeg then none else (if (σ.1 106 38) < 0 ∨ 40 ≤ ((σ.1 106 38)).toNatClampNeg then none else (p_r_function0_103 (σ.1 106 38) (jx_i (jx_i (jx_i (jx_i (jx_i (jx_i (jx_i (jx_i (jx_i σ 126 ((σ.1 106 38)).toNatClampNeg (σ.1 106 40)) 127 ((σ.1 106 38)).toNatClampNeg (0 : Int32)) 130 ((σ.1 106 38)).toNatClampNeg (0 : Int32)) 106 49 (0 : Int32)) 106 52 (0 : Int32)) 106 48 (0 : Int32)) 106 45 (0 : Int32)) 106 47 (0 : Int32)) 106 40 ((σ.1 106 40) + (1 : Int32))))))) else ((p_r_stop (4 : Int32) (σ.1 106 40) σ).bind fun q13 => (some (q13)))) else ((p_r_stop (2 : Int32) (σ.1 106 40) σ).bind fun q14 => (some (q14)))))
theorem x_r_function0 (d : Nat) (hd : 6 ≤ d) (σ : jx_S) (t : jx_S) (res : Option Value × jx_S) (h : p_r_function0 σ = some t) (hK : kkV t res) : jE d 173 0 [(0, .ref 106)] [] σ res := by
  unfold p_r_function0 at h
  refine jE_blk (bs := [(.aload_n 0, 0, 0), (.getfield 219, 12, 38), (.istore_n 1, 2, 0), (.aload_n 0, 0, 0), (.getfield 17, 12, 6), (.aload_n 0, 0, 0), (.getfield 303, 12, 40)]) (i := .iaload) (a1 := 0) (a2 := 0) (pc1 := 13) (l1 := [(1, .int (σ.1 106 38)), (0, .ref 106)]) (st1 := [.int (σ.1 106 40), .ref 108]) (σ1 := σ) (by decide +kernel) rfl (fun hC => ?_)
  obtain ⟨hi, h⟩ := jx_ite0_inv h
  refine jE_iald (n := 1202) hC (by decide) rfl hi ?_
  refine jE_blk (bs := [(.iconst (1), 1, 0)]) (i := .if_icmp .eq (13)) (a1 := 0) (a2 := 0) (pc1 := 15) (l1 := [(1, .int (σ.1 106 38)), (0, .ref 106)]) (st1 := [.int (1 : Int32), .int ((σ.1 108) ((σ.1 106 40)).toNatClampNeg)]) (σ1 := σ) (by decide +kernel) rfl (fun hC => ?_)
  rcases Classical.em (((σ.1 108) ((σ.1 106 40)).toNatClampNeg) = (1 : Int32)) with hc | hc
  · rw [if_pos hc] at h
    refine jE_icT 28 hC (by decide) hc ?_
    refine jE_blk (bs := [(.iload_n 1, 0, 0), (.bipush (40), 40, 0)]) (i := .if_icmp .ne (13)) (a1 := 0) (a2 := 0) (pc1 := 31) (l1 := [(1, .int (σ.1 106 38)), (0, .ref 106)]) (st1 := [.int (40 : Int32), .int (σ.1 106 38)]) (σ1 := σ) (by decide +kernel) rfl (fun hC => ?_)
    rcases Classical.em (¬ (σ.1 106 38) = (40 : Int32)) with hc | hc
    · rw [if_pos hc] at h
      refine jE_icT 44 hC (by decide) hc ?_
      refine jE_blk (bs := [(.aload_n 0, 0, 0), (.getfield 72, 12, 26), (.iload_n 1, 0, 0), (.aload_n 0, 0, 0), (.getfield 303, 12, 40)]) (i := .iastore) (a1 := 0) (a2 := 0) (pc1 := 53) (l1 := [(1, .int (σ.1 106 38)), (0, .ref 106)]) (st1 := [.int (σ.1 106 40), .int (σ.1 106 38), .ref 126]) (σ1 := σ) (by decide +kernel) rfl (fun hC => ?_)
      obtain ⟨hi, h⟩ := jx_ite0_inv h
      refine jE_iast (n := 40) hC (by decide) rfl hi ?_
      refine jE_blk (bs := [(.aload_n 0, 0, 0), (.getfield 75, 12, 27), (.iload_n 1, 0, 0), (.iconst (0), 0, 0)]) (i := .iastore) (a1 := 0) (a2 := 0) (pc1 := 60) (l1 := [(1, .int (σ.1 106 38)), (0, .ref 106)]) (st1 := [.int (0 : Int32), .int (σ.1 106 38), .ref 127]) (σ1 := (jx_i σ 126 ((σ.1 106 38)).toNatClampNeg (σ.1 106 40))) (by decide +kernel) rfl (fun hC => ?_)
      obtain ⟨hi, h⟩ := jx_ite0_inv h
      refine jE_iast (n := 40) hC (by decide) rfl hi ?_
      refine jE_blk (bs := [(.aload_n 0, 0, 0), (.getfield 84, 12, 30), (.iload_n 1, 0, 0), (.iconst (0), 0, 0)]) (i := .iastore) (a1 := 0) (a2 := 0) (pc1 := 67) (l1 := [(1, .int (σ.1 106 38)), (0, .ref 106)]) (st1 := [.int (0 : Int32), .int (σ.1 106 38), .ref 130]) (σ1 := (jx_i (jx_i σ 126 ((σ.1 106 38)).toNatClampNeg (σ.1 106 40)) 127 ((σ.1 106 38)).toNatClampNeg (0 : Int32))) (by decide +kernel) rfl (fun hC => ?_)
      obtain ⟨hi, h⟩ := jx_ite0_inv h
      refine jE_iast (n := 40) hC (by decide) rfl hi ?_
      refine jE_blk (bs := [(.aload_n 0, 0, 0), (.iconst (0), 0, 0), (.putfield 314, 12, 49), (.aload_n 0, 0, 0), (.iconst (0), 0, 0), (.putfield 317, 12, 52), (.aload_n 0, 0, 0), (.iconst (0), 0, 0), (.putfield 332, 12, 48), (.aload_n 0, 0, 0), (.iconst (0), 0, 0), (.putfield 323, 12, 45), (.aload_n 0, 0, 0), (.iconst (0), 0, 0), (.putfield 326, 12, 47), (.aload_n 0, 0, 0), (.dup, 0, 0), (.getfield 303, 12, 40), (.iconst (1), 1, 0), (.iadd, 0, 0), (.putfield 303, 12, 40)]) (i := .aload_n 0) (a1 := 0) (a2 := 0) (pc1 := 103) (l1 := [(1, .int (σ.1 106 38)), (0, .ref 106)]) (st1 := []) (σ1 := (jx_i (jx_i (jx_i (jx_i (jx_i (jx_i (jx_i (jx_i (jx_i σ 126 ((σ.1 106 38)).toNatClampNeg (σ.1 106 40)) 127 ((σ.1 106 38)).toNatClampNeg (0 : Int32)) 130 ((σ.1 106 38)).toNatClampNeg (0 : Int32)) 106 49 (0 : Int32)) 106 52 (0 : Int32)) 106 48 (0 : Int32)) 106 45 (0 : Int32)) 106 47 (0 : Int32)) 106 40 ((σ.1 106 40) + (1 : Int32)))) (by decide +kernel) rfl (fun hC => ?_)
      exact jE_loc (l := [(0, .ref 106), (1, .int (σ.1 106 38))]) (ks := [0, 1]) rfl (by decide) ⟨rfl, rfl, trivial⟩ (x_r_function0_103 d hd (σ.1 106 38) (jx_i (jx_i (jx_i (jx_i (jx_i (jx_i (jx_i (jx_i (jx_i σ 126 ((σ.1 106 38)).toNatClampNeg (σ.1 106 40)) 127 ((σ.1 106 38)).toNatClampNeg (0 : Int32)) 130 ((σ.1 106 38)).toNatClampNeg (0 : Int32)) 106 49 (0 : Int32)) 106 52 (0 : Int32)) 106 48 (0 : Int32)) 106 45 (0 : Int32)) 106 47 (0 : Int32)) 106 40 ((σ.1 106 40) + (1 : Int32))) _ res h hK)
    · rw [if_neg hc] at h
      refine jE_icF 44 hC (by decide) hc ?_
      refine jE_blk (bs := [(.aload_n 0, 0, 0), (.iconst (4), 4, 0), (.aload_n 0, 0, 0), (.getfield 303, 12, 40)]) (i := .invokevirtual 306) (a1 := 155) (a2 := 0) (pc1 := 40) (l1 := [(1, .int (σ.1 106 38)), (0, .ref 106)]) (st1 := [.int (σ.1 106 40), .int (4 : Int32), .ref 106]) (σ1 := σ) (by decide +kernel) rfl (fun hC => ?_)
      obtain ⟨q13, hq, h⟩ := Option.bind_eq_some_iff.mp h
      refine jE_call (as := [.ref 106, .int (4 : Int32), .int (σ.1 106 40)]) (pc1 := 43) (st1 := []) hC rfl (by decide) (by omega) (x_r_stop (d - 1) (by omega) (4 : Int32) (σ.1 106 40) σ q13 (none, q13) hq rfl) ?_
      refine jE_blk (bs := []) (i := .return_) (a1 := 0) (a2 := 0) (pc1 := 43) (l1 := [(1, .int (σ.1 106 38)), (0, .ref 106)]) (st1 := []) (σ1 := q13) (by decide +kernel) rfl (fun hC => ?_)
      have h9 := Option.some.inj h
      subst h9
      have e9 : ((none, q13) : Option Value × jx_S) = res := hK
      subst e9
      exact jE_ret hC rfl
  · rw [if_neg hc] at h
    refine jE_icF 28 hC (by decide) hc ?_
    refine jE_blk (bs := [(.aload_n 0, 0, 0), (.iconst (2), 2, 0), (.aload_n 0, 0, 0), (.getfield 303, 12, 40)]) (i := .invokevirtual 306) (a1 := 155) (a2 := 0) (pc1 := 24) (l1 := [(1, .int (σ.1 106 38)), (0, .ref 106)]) (st1 := [.int (σ.1 106 40), .int (2 : Int32), .ref 106]) (σ1 := σ) (by decide +kernel) rfl (fun hC => ?_)
    obtain ⟨q14, hq, h⟩ := Option.bind_eq_some_iff.mp h
    refine jE_call (as := [.ref 106, .int (2 : Int32), .int (σ.1 106 40)]) (pc1 := 27) (st1 := []) hC rfl (by decide) (by omega) (x_r_stop (d - 1) (by omega) (2 : Int32) (σ.1 106 40) σ q14 (none, q14) hq rfl) ?_
    refine jE_blk (bs := []) (i := .return_) (a1 := 0) (a2 := 0) (pc1 := 27) (l1 := [(1, .int (σ.1 106 38)), (0, .ref 106)]) (st1 := []) (σ1 := q14) (by decide +kernel) rfl (fun hC => ?_)
    have h9 := Option.some.inj h
    subst h9
    have e9 : ((none, q14) : Option Value × jx_S) = res := hK
    subst e9
    exact jE_ret hC rfl
def kk_r_readAll_20 (d : Nat) (t : ((jx_S) ⊕ (Int32 × jx_S))) (res : Option Value × jx_S) : Prop := match t with
  | .inl s => jE d 174 20 [(0, .ref 106)] [] s res
  | .inr t => kkI t res
def p_r_readAll_20_s (σ : jx_S) : Option ((jx_S) ⊕ (Int32 × jx_S)) := (if (σ.1 106 41) = 0 then (Option.map Sum.inr (if (σ.1 106 41) = 0 ∨ (σ.1 106 41) = 1 then (some (((σ.1 106 41), σ))) else none)) else (if (σ.1 106 40) < 0 ∨ 1202 ≤ ((σ.1 106 40)).toNatClampNeg then none else (if ((σ.1 108) ((σ.1 106 40)).toNatClampNeg) = (28 : Int32) then (Option.map Sum.inr (if (σ.1 106 41) = 0 ∨ (σ.1 106 41) = 1 then (some (((σ.1 106 41), σ))) else none)) else ((p_r_function0 σ).bind fun q3 => (some (.inl q3))))))
theorem x_r_readAll_20_s (d : Nat) (hd : 7 ≤ d) (σ : jx_S) (t : ((jx_S) ⊕ (Int32 × jx_S))) (res : Option Value × jx_S) (h : p_r_readAll_20_s σ = some t) (hK : kk_r_readAll_20 d t res) : jE d 174 20 [(0, .ref 106)] [] σ res := by
  unfold p_r_readAll_20_s at h
  refine jE_blk (bs := [(.aload_n 0, 0, 0), (.getfield 300, 12, 41)]) (i := .ifCond .eq (24)) (a1 := 0) (a2 := 0) (pc1 := 24) (l1 := [(0, .ref 106)]) (st1 := [.int (σ.1 106 41)]) (σ1 := σ) (by decide +kernel) rfl (fun hC => ?_)
  rcases Classical.em ((σ.1 106 41) = 0) with hc | hc
  · rw [if_pos hc] at h
    refine jE_ifT 48 hC (by decide) hc ?_
    obtain ⟨t9_1, h9_1, h8_1⟩ := Option.map_eq_some_iff.mp h
    clear h
    subst h8_1
    have h := h9_1
    clear h9_1
    refine jE_blk (bs := [(.aload_n 0, 0, 0), (.getfield 300, 12, 41)]) (i := .ireturn) (a1 := 1) (a2 := 0) (pc1 := 52) (l1 := [(0, .ref 106)]) (st1 := [.int (σ.1 106 41)]) (σ1 := σ) (by decide +kernel) rfl (fun hC => ?_)
    obtain ⟨hb, h⟩ := jx_ite_inv h
    have h9 := Option.some.inj h
    subst h9
    have e9 : ((some (.int (σ.1 106 41)), σ) : Option Value × jx_S) = res := hK
    subst e9
    exact jE_bret hC hb
  · rw [if_neg hc] at h
    refine jE_ifF 48 hC (by decide) hc ?_
    refine jE_blk (bs := [(.aload_n 0, 0, 0), (.getfield 17, 12, 6), (.aload_n 0, 0, 0), (.getfield 303, 12, 40)]) (i := .iaload) (a1 := 0) (a2 := 0) (pc1 := 35) (l1 := [(0, .ref 106)]) (st1 := [.int (σ.1 106 40), .ref 108]) (σ1 := σ) (by decide +kernel) rfl (fun hC => ?_)
    obtain ⟨hi, h⟩ := jx_ite0_inv h
    refine jE_iald (n := 1202) hC (by decide) rfl hi ?_
    refine jE_blk (bs := [(.bipush (28), 28, 0)]) (i := .if_icmp .eq (10)) (a1 := 0) (a2 := 0) (pc1 := 38) (l1 := [(0, .ref 106)]) (st1 := [.int (28 : Int32), .int ((σ.1 108) ((σ.1 106 40)).toNatClampNeg)]) (σ1 := σ) (by decide +kernel) rfl (fun hC => ?_)
    rcases Classical.em (((σ.1 108) ((σ.1 106 40)).toNatClampNeg) = (28 : Int32)) with hc | hc
    · rw [if_pos hc] at h
      refine jE_icT 48 hC (by decide) hc ?_
      obtain ⟨t9_2, h9_2, h8_2⟩ := Option.map_eq_some_iff.mp h
      clear h
      subst h8_2
      have h := h9_2
      clear h9_2
      refine jE_blk (bs := [(.aload_n 0, 0, 0), (.getfield 300, 12, 41)]) (i := .ireturn) (a1 := 1) (a2 := 0) (pc1 := 52) (l1 := [(0, .ref 106)]) (st1 := [.int (σ.1 106 41)]) (σ1 := σ) (by decide +kernel) rfl (fun hC => ?_)
      obtain ⟨hb, h⟩ := jx_ite_inv h
      have h9 := Option.some.inj h
      subst h9
      have e9 : ((some (.int (σ.1 106 41)), σ) : Option Value × jx_S) = res := hK
      subst e9
      exact jE_bret hC hb
    · rw [if_neg hc] at h
      refine jE_icF 48 hC (by decide) hc ?_
      refine jE_blk (bs := [(.aload_n 0, 0, 0)]) (i := .invokevirtual 386) (a1 := 173) (a2 := 0) (pc1 := 42) (l1 := [(0, .ref 106)]) (st1 := [.ref 106]) (σ1 := σ) (by decide +kernel) rfl (fun hC => ?_)
      obtain ⟨q3, hq, h⟩ := Option.bind_eq_some_iff.mp h
      refine jE_call (as := [.ref 106]) (pc1 := 45) (st1 := []) hC rfl (by decide) (by omega) (x_r_function0 (d - 1) (by omega) σ q3 (none, q3) hq rfl) ?_
      refine jE_blk (bs := [(.goto (-25), 0, 0)]) (i := .aload_n 0) (a1 := 0) (a2 := 0) (pc1 := 20) (l1 := [(0, .ref 106)]) (st1 := []) (σ1 := q3) (by decide +kernel) rfl (fun hC => ?_)
      have h9 := Option.some.inj h
      subst h9
      exact jE_loc (l := [(0, .ref 106)]) (ks := [0]) rfl (by decide) ⟨rfl, trivial⟩ hK
def p_r_readAll_20 (σ : jx_S) : Option (Int32 × jx_S) := jx_loop 100000000 (fun s => p_r_readAll_20_s (s)) σ
theorem x_r_readAll_20 (d : Nat) (hd : 7 ≤ d) (σ : jx_S) (t : (Int32 × jx_S)) (res : Option Value × jx_S) (h : p_r_readAll_20 σ = some t) (hK : kkI t res) : jE d 174 20 [(0, .ref 106)] [] σ res := by
  refine jx_loop_ok (E := fun s t => ∀ res, kkI t res → jE d 174 20 [(0, .ref 106)] [] s res) (fun s t hs => ?_) _ _ _ h res hK
  cases t with
  | inl s1 => exact fun b hb res hk => x_r_readAll_20_s d hd (s) _ res hs (hb res hk)
  | inr b => exact fun res hk => x_r_readAll_20_s d hd (s) _ res hs hk
def p_r_readAll (σ : jx_S) : Option (Int32 × jx_S) := (p_r_readAll_20 (jx_i (jx_i (jx_i (jx_i σ 106 40 (0 : Int32)) 106 25 (0 : Int32)) 106 38 (0 : Int32)) 106 41 (1 : Int32)))
theorem x_r_readAll (d : Nat) (hd : 7 ≤ d) (σ : jx_S) (t : (Int32 × jx_S)) (res : Option Value × jx_S) (h : p_r_readAll σ = some t) (hK : kkI t res) : jE d 174 0 [(0, .ref 106)] [] σ res := by
  unfold p_r_readAll at h
  refine jE_blk (bs := [(.aload_n 0, 0, 0), (.iconst (0), 0, 0), (.putfield 303, 12, 40), (.aload_n 0, 0, 0), (.iconst (0), 0, 0), (.putfield 329, 12, 25), (.aload_n 0, 0, 0), (.iconst (0), 0, 0), (.putfield 219, 12, 38), (.aload_n 0, 0, 0), (.iconst (1), 1, 0), (.putfield 300, 12, 41)]) (i := .aload_n 0) (a1 := 0) (a2 := 0) (pc1 := 20) (l1 := [(0, .ref 106)]) (st1 := []) (σ1 := (jx_i (jx_i (jx_i (jx_i σ 106 40 (0 : Int32)) 106 25 (0 : Int32)) 106 38 (0 : Int32)) 106 41 (1 : Int32))) (by decide +kernel) rfl (fun hC => ?_)
  exact jE_loc (l := [(0, .ref 106)]) (ks := [0]) rfl (by decide) ⟨rfl, trivial⟩ (x_r_readAll_20 d hd (jx_i (jx_i (jx_i (jx_i σ 106 40 (0 : Int32)) 106 25 (0 : Int32)) 106 38 (0 : Int32)) 106 41 (1 : Int32)) _ res h hK)
def kk_r_sameNames_4 (d : Nat) (t : ((Int32 × Int32 × jx_S) ⊕ (Int32 × jx_S))) (res : Option Value × jx_S) : Prop := match t with
  | .inl s => jE d 175 4 [(0, .ref 106), (1, .int s.1), (2, .int s.2.1)] [] s.2.2 res
  | .inr t => kkI t res
def kk_r_sameNames_17 (d : Nat) (t : ((Int32 × Int32 × Int32 × Int32 × jx_S) ⊕ ((Int32 × Int32 × jx_S) ⊕ (Int32 × jx_S)))) (res : Option Value × jx_S) : Prop := match t with
  | .inl s => jE d 175 17 [(0, .ref 106), (1, .int s.1), (2, .int s.2.1), (3, .int s.2.2.1), (4, .int s.2.2.2.1)] [] s.2.2.2.2 res
  | .inr t => kk_r_sameNames_4 d t res
def kk_r_sameNames_91 (d : Nat) (t : ((Int32 × Int32 × Int32 × jx_S) ⊕ ((Int32 × Int32 × jx_S) ⊕ (Int32 × jx_S)))) (res : Option Value × jx_S) : Prop := match t with
  | .inl s => jE d 175 91 [(0, .ref 106), (1, .int s.1), (2, .int s.2.1), (4, .int s.2.2.1)] [] s.2.2.2 res
  | .inr t => kk_r_sameNames_4 d t res
def kk_r_sameNames_105 (d : Nat) (t : ((Int32 × Int32 × Int32 × Int32 × jx_S) ⊕ ((Int32 × Int32 × Int32 × jx_S) ⊕ ((Int32 × Int32 × jx_S) ⊕ (Int32 × jx_S))))) (res : Option Value × jx_S) : Prop := match t with
  | .inl s => jE d 175 105 [(0, .ref 106), (1, .int s.1), (2, .int s.2.1), (4, .int s.2.2.1), (5, .int s.2.2.2.1)] [] s.2.2.2.2 res
  | .inr t => kk_r_sameNames_91 d t res
def p_r_sameNames_182 (x2 : Int32) (x4 : Int32) (x5 : Int32) (y0 : Int32) (σ : jx_S) : Option ((Int32 × Int32 × Int32 × Int32 × jx_S) ⊕ ((Int32 × Int32 × Int32 × jx_S) ⊕ ((Int32 × Int32 × jx_S) ⊕ (Int32 × jx_S)))) := (some (.inl (y0, x2, x4, (x5 + 1), σ)))
theorem x_r_sameNames_182 (d : Nat) (hd : 1 ≤ d) (x2 : Int32) (x4 : Int32) (x5 : Int32) (y0 : Int32) (σ : jx_S) (t : ((Int32 × Int32 × Int32 × Int32 × jx_S) ⊕ ((Int32 × Int32 × Int32 × jx_S) ⊕ ((Int32 × Int32 × jx_S) ⊕ (Int32 × jx_S))))) (res : Option Value × jx_S) (h : p_r_sameNames_182 x2 x4 x5 y0 σ = some t) (hK : kk_r_sameNames_105 d t res) : jE d 175 182 [(0, .ref 106), (2, .int x2), (4, .int x4), (5, .int x5)] [.int y0] σ res := by
  unfold p_r_sameNames_182 at h
  refine jE_blk (bs := [(.istore_n 1, 8, 0), (.iinc 5 (1), 8, 2), (.goto (-81), 0, 0)]) (i := .iload 5) (a1 := 0) (a2 := 0) (pc1 := 105) (l1 := [(5, .int (x5 + 1)), (1, .int y0), (0, .ref 106), (2, .int x2), (4, .int x4)]) (st1 := []) (σ1 := σ) (by decide +kernel) rfl (fun hC => ?_)
  have h9 := Option.some.inj h
  subst h9
  exact jE_loc (l := [(0, .ref 106), (1, .int y0), (2, .int x2), (4, .int x4), (5, .int (x5 + 1))]) (ks := [0, 1, 2, 4, 5]) rfl (by decide) ⟨rfl, rfl, rfl, rfl, rfl, trivial⟩ hK
def p_r_sameNames_181 (x1 : Int32) (x2 : Int32) (x4 : Int32) (x5 : Int32) (σ : jx_S) : Option ((Int32 × Int32 × Int32 × Int32 × jx_S) ⊕ ((Int32 × Int32 × Int32 × jx_S) ⊕ ((Int32 × Int32 × jx_S) ⊕ (Int32 × jx_S)))) := (p_r_sameNames_182 x2 x4 x5 x1 σ)
theorem x_r_sameNames_181 (d : Nat) (hd : 1 ≤ d) (x1 : Int32) (x2 : Int32) (x4 : Int32) (x5 : Int32) (σ : jx_S) (t : ((Int32 × Int32 × Int32 × Int32 × jx_S) ⊕ ((Int32 × Int32 × Int32 × jx_S) ⊕ ((Int32 × Int32 × jx_S) ⊕ (Int32 × jx_S))))) (res : Option Value × jx_S) (h : p_r_sameNames_181 x1 x2 x4 x5 σ = some t) (hK : kk_r_sameNames_105 d t res) : jE d 175 181 [(0, .ref 106), (1, .int x1), (2, .int x2), (4, .int x4), (5, .int x5)] [] σ res := by
  unfold p_r_sameNames_181 at h
  refine jE_blk (bs := [(.iload_n 1, 0, 0)]) (i := .istore_n 1) (a1 := 8) (a2 := 0) (pc1 := 182) (l1 := [(0, .ref 106), (1, .int x1), (2, .int x2), (4, .int x4), (5, .int x5)]) (st1 := [.int x1]) (σ1 := σ) (by decide +kernel) rfl (fun hC => ?_)
  exact jE_loc (l := [(0, .ref 106), (2, .int x2), (4, .int x4), (5, .int x5)]) (ks := [0, 2, 4, 5]) rfl (by decide) ⟨rfl, rfl, rfl, rfl, trivial⟩ (x_r_sameNames_182 d hd x2 x4 x5 x1 σ _ res h hK)
def p_r_sameNames_176 (x2 : Int32) (x4 : Int32) (x5 : Int32) (x6 : Int32) (σ : jx_S) : Option ((Int32 × Int32 × Int32 × Int32 × jx_S) ⊕ ((Int32 × Int32 × Int32 × jx_S) ⊕ ((Int32 × Int32 × jx_S) ⊕ (Int32 × jx_S)))) := (p_r_sameNames_182 x2 x4 x5 x6 σ)
theorem x_r_sameNames_176 (d : Nat) (hd : 1 ≤ d) (x2 : Int32) (x4 : Int32) (x5 : Int32) (x6 : Int32) (σ : jx_S) (t : ((Int32 × Int32 × Int32 × Int32 × jx_S) ⊕ ((Int32 × Int32 × Int32 × jx_S) ⊕ ((Int32 × Int32 × jx_S) ⊕ (Int32 × jx_S))))) (res : Option Value × jx_S) (h : p_r_sameNames_176 x2 x4 x5 x6 σ = some t) (hK : kk_r_sameNames_105 d t res) : jE d 175 176 [(0, .ref 106), (2, .int x2), (4, .int x4), (5, .int x5), (6, .int x6)] [] σ res := by
  unfold p_r_sameNames_176 at h
  refine jE_blk (bs := [(.iload 6, 0, 0), (.goto (4), 0, 0)]) (i := .istore_n 1) (a1 := 8) (a2 := 0) (pc1 := 182) (l1 := [(0, .ref 106), (2, .int x2), (4, .int x4), (5, .int x5), (6, .int x6)]) (st1 := [.int x6]) (σ1 := σ) (by decide +kernel) rfl (fun hC => ?_)
  exact jE_loc (l := [(0, .ref 106), (2, .int x2), (4, .int x4), (5, .int x5)]) (ks := [0, 2, 4, 5]) rfl (by decide) ⟨rfl, rfl, rfl, rfl, trivial⟩ (x_r_sameNames_182 d hd x2 x4 x5 x6 σ _ res h hK)
def p_r_sameNames_105_s (x1 : Int32) (x2 : Int32) (x4 : Int32) (x5 : Int32) (σ : jx_S) : Option ((Int32 × Int32 × Int32 × Int32 × jx_S) ⊕ ((Int32 × Int32 × Int32 × jx_S) ⊕ ((Int32 × Int32 × jx_S) ⊕ (Int32 × jx_S)))) := (if x4 ≤ x5 then (Option.map Sum.inr (some (.inl (x1, x2, (x4 + 1), σ)))) else (if (((8 : Int32) * x2) + x4) < 0 ∨ 320 ≤ ((((8 : Int32) * x2) + x4)).toNatClampNeg then none else (if ((σ.1 134) ((((8 : Int32) * x2) + x4)).toNatClampNeg) < 0 ∨ 1202 ≤ (((σ.1 134) ((((8 : Int32) * x2) + x4)).toNatClampNeg)).toNatClampNeg then none else (if (((8 : Int32) * x2) + x4) < 0 ∨ 320 ≤ ((((8 : Int32) * x2) + x4)).toNatClampNeg then none else (if (((8 : Int32) * x2) + x5) < 0 ∨ 320 ≤ ((((8 : Int32) * x2) + x5)).toNatClampNeg then none else ((p_r_isSame ((σ.1 134) ((((8 : Int32) * x2) + x4)).toNatClampNeg) ((σ.1 134) ((((8 : Int32) * x2) + x5)).toNatClampNeg) σ).bind fun q5 => (if q5.1 = 0 then (p_r_sameNames_181 x1 x2 x4 x5 q5.2) else (if x1 < 0 then (p_r_sameNames_176 x2 x4 x5 ((σ.1 109) (((σ.1 134) ((((8 : Int32) * x2) + x4)).toNatClampNeg)).toNatClampNeg) q5.2) else (if x1 ≤ ((σ.1 109) (((σ.1 134) ((((8 : Int32) * x2) + x4)).toNatClampNeg)).toNatClampNeg) then (p_r_sameNames_181 x1 x2 x4 x5 q5.2) else (p_r_sameNames_176 x2 x4 x5 ((σ.1 109) (((σ.1 134) ((((8 : Int32) * x2) + x4)).toNatClampNeg)).toNatClampNeg) q5.2))))))))))
theorem x_r_sameNames_105_s (d : Nat) (hd : 1 ≤ d) (x1 : Int32) (x2 : Int32) (x4 : Int32) (x5 : Int32) (σ : jx_S) (t : ((Int32 × Int32 × Int32 × Int32 × jx_S) ⊕ ((Int32 × Int32 × Int32 × jx_S) ⊕ ((Int32 × Int32 × jx_S) ⊕ (Int32 × jx_S))))) (res : Option Value × jx_S) (h : p_r_sameNames_105_s x1 x2 x4 x5 σ = some t) (hK : kk_r_sameNames_105 d t res) : jE d 175 105 [(0, .ref 106), (1, .int x1), (2, .int x2), (4, .int x4), (5, .int x5)] [] σ res := by
  unfold p_r_sameNames_105_s at h
  refine jE_blk (bs := [(.iload 5, 0, 0), (.iload 4, 0, 0)]) (i := .if_icmp .ge (80)) (a1 := 0) (a2 := 0) (pc1 := 109) (l1 := [(0, .ref 106), (1, .int x1), (2, .int x2), (4, .int x4), (5, .int x5)]) (st1 := [.int x4, .int x5]) (σ1 := σ) (by decide +kernel) rfl (fun hC => ?_)
  rcases Classical.em (x4 ≤ x5) with hc | hc
  · rw [if_pos hc] at h
    refine jE_icT 189 hC (by decide) hc ?_
    obtain ⟨t9_4, h9_4, h8_4⟩ := Option.map_eq_some_iff.mp h
    clear h
    subst h8_4
    have h := h9_4
    clear h9_4
    refine jE_blk (bs := [(.iinc 4 (1), 8, 2), (.goto (-101), 0, 0)]) (i := .iload 4) (a1 := 0) (a2 := 0) (pc1 := 91) (l1 := [(4, .int (x4 + 1)), (0, .ref 106), (1, .int x1), (2, .int x2), (5, .int x5)]) (st1 := []) (σ1 := σ) (by decide +kernel) rfl (fun hC => ?_)
    have h9 := Option.some.inj h
    subst h9
    exact jE_loc (l := [(0, .ref 106), (1, .int x1), (2, .int x2), (4, .int (x4 + 1))]) (ks := [0, 1, 2, 4]) rfl (by decide) ⟨rfl, rfl, rfl, rfl, trivial⟩ hK
  · rw [if_neg hc] at h
    refine jE_icF 189 hC (by decide) hc ?_
    refine jE_blk (bs := [(.aload_n 0, 0, 0), (.getfield 20, 12, 7), (.aload_n 0, 0, 0), (.getfield 96, 12, 34), (.bipush (8), 8, 0), (.iload_n 2, 0, 0), (.imul, 0, 0), (.iload 4, 0, 0), (.iadd, 0, 0)]) (i := .iaload) (a1 := 0) (a2 := 0) (pc1 := 127) (l1 := [(0, .ref 106), (1, .int x1), (2, .int x2), (4, .int x4), (5, .int x5)]) (st1 := [.int (((8 : Int32) * x2) + x4), .ref 134, .ref 109]) (σ1 := σ) (by decide +kernel) rfl (fun hC => ?_)
    obtain ⟨hi, h⟩ := jx_ite0_inv h
    refine jE_iald (n := 320) hC (by decide) rfl hi ?_
    refine jE_blk (bs := []) (i := .iaload) (a1 := 0) (a2 := 0) (pc1 := 128) (l1 := [(0, .ref 106), (1, .int x1), (2, .int x2), (4, .int x4), (5, .int x5)]) (st1 := [.int ((σ.1 134) ((((8 : Int32) * x2) + x4)).toNatClampNeg), .ref 109]) (σ1 := σ) (by decide +kernel) rfl (fun hC => ?_)
    obtain ⟨hi, h⟩ := jx_ite0_inv h
    refine jE_iald (n := 1202) hC (by decide) rfl hi ?_
    refine jE_blk (bs := [(.istore 6, 8, 0), (.aload_n 0, 0, 0), (.aload_n 0, 0, 0), (.getfield 96, 12, 34), (.bipush (8), 8, 0), (.iload_n 2, 0, 0), (.imul, 0, 0), (.iload 4, 0, 0), (.iadd, 0, 0)]) (i := .iaload) (a1 := 0) (a2 := 0) (pc1 := 143) (l1 := [(6, .int ((σ.1 109) (((σ.1 134) ((((8 : Int32) * x2) + x4)).toNatClampNeg)).toNatClampNeg)), (0, .ref 106), (1, .int x1), (2, .int x2), (4, .int x4), (5, .int x5)]) (st1 := [.int (((8 : Int32) * x2) + x4), .ref 134, .ref 106]) (σ1 := σ) (by decide +kernel) rfl (fun hC => ?_)
    obtain ⟨hi, h⟩ := jx_ite0_inv h
    refine jE_iald (n := 320) hC (by decide) rfl hi ?_
    refine jE_blk (bs := [(.aload_n 0, 0, 0), (.getfield 96, 12, 34), (.bipush (8), 8, 0), (.iload_n 2, 0, 0), (.imul, 0, 0), (.iload 5, 0, 0), (.iadd, 0, 0)]) (i := .iaload) (a1 := 0) (a2 := 0) (pc1 := 155) (l1 := [(6, .int ((σ.1 109) (((σ.1 134) ((((8 : Int32) * x2) + x4)).toNatClampNeg)).toNatClampNeg)), (0, .ref 106), (1, .int x1), (2, .int x2), (4, .int x4), (5, .int x5)]) (st1 := [.int (((8 : Int32) * x2) + x5), .ref 134, .int ((σ.1 134) ((((8 : Int32) * x2) + x4)).toNatClampNeg), .ref 106]) (σ1 := σ) (by decide +kernel) rfl (fun hC => ?_)
    obtain ⟨hi, h⟩ := jx_ite0_inv h
    refine jE_iald (n := 320) hC (by decide) rfl hi ?_
    refine jE_blk (bs := []) (i := .invokevirtual 320) (a1 := 154) (a2 := 0) (pc1 := 156) (l1 := [(6, .int ((σ.1 109) (((σ.1 134) ((((8 : Int32) * x2) + x4)).toNatClampNeg)).toNatClampNeg)), (0, .ref 106), (1, .int x1), (2, .int x2), (4, .int x4), (5, .int x5)]) (st1 := [.int ((σ.1 134) ((((8 : Int32) * x2) + x5)).toNatClampNeg), .int ((σ.1 134) ((((8 : Int32) * x2) + x4)).toNatClampNeg), .ref 106]) (σ1 := σ) (by decide +kernel) rfl (fun hC => ?_)
    obtain ⟨q5, hq, h⟩ := Option.bind_eq_some_iff.mp h
    refine jE_call (as := [.ref 106, .int ((σ.1 134) ((((8 : Int32) * x2) + x4)).toNatClampNeg), .int ((σ.1 134) ((((8 : Int32) * x2) + x5)).toNatClampNeg)]) (pc1 := 159) (st1 := []) hC rfl (by decide) (by omega) (x_r_isSame (d - 1) (by omega) ((σ.1 134) ((((8 : Int32) * x2) + x4)).toNatClampNeg) ((σ.1 134) ((((8 : Int32) * x2) + x5)).toNatClampNeg) σ q5 (some (.int q5.1), q5.2) hq rfl) ?_
    refine jE_blk (bs := [(.istore 7, 8, 0), (.iload 7, 0, 0)]) (i := .ifCond .eq (18)) (a1 := 0) (a2 := 0) (pc1 := 163) (l1 := [(7, .int q5.1), (6, .int ((σ.1 109) (((σ.1 134) ((((8 : Int32) * x2) + x4)).toNatClampNeg)).toNatClampNeg)), (0, .ref 106), (1, .int x1), (2, .int x2), (4, .int x4), (5, .int x5)]) (st1 := [.int q5.1]) (σ1 := q5.2) (by decide +kernel) rfl (fun hC => ?_)
    rcases Classical.em (q5.1 = 0) with hc | hc
    · rw [if_pos hc] at h
      refine jE_ifT 181 hC (by decide) hc ?_
      exact jE_loc (l := [(0, .ref 106), (1, .int x1), (2, .int x2), (4, .int x4), (5, .int x5)]) (ks := [0, 1, 2, 4, 5]) rfl (by decide) ⟨rfl, rfl, rfl, rfl, rfl, trivial⟩ (x_r_sameNames_181 d hd x1 x2 x4 x5 q5.2 _ res h hK)
    · rw [if_neg hc] at h
      refine jE_ifF 181 hC (by decide) hc ?_
      refine jE_blk (bs := [(.iload_n 1, 0, 0)]) (i := .ifCond .lt (9)) (a1 := 0) (a2 := 0) (pc1 := 167) (l1 := [(7, .int q5.1), (6, .int ((σ.1 109) (((σ.1 134) ((((8 : Int32) * x2) + x4)).toNatClampNeg)).toNatClampNeg)), (0, .ref 106), (1, .int x1), (2, .int x2), (4, .int x4), (5, .int x5)]) (st1 := [.int x1]) (σ1 := q5.2) (by decide +kernel) rfl (fun hC => ?_)
      rcases Classical.em (x1 < 0) with hc | hc
      · rw [if_pos hc] at h
        refine jE_ifT 176 hC (by decide) hc ?_
        exact jE_loc (l := [(0, .ref 106), (2, .int x2), (4, .int x4), (5, .int x5), (6, .int ((σ.1 109) (((σ.1 134) ((((8 : Int32) * x2) + x4)).toNatClampNeg)).toNatClampNeg))]) (ks := [0, 2, 4, 5, 6]) rfl (by decide) ⟨rfl, rfl, rfl, rfl, rfl, trivial⟩ (x_r_sameNames_176 d hd x2 x4 x5 ((σ.1 109) (((σ.1 134) ((((8 : Int32) * x2) + x4)).toNatClampNeg)).toNatClampNeg) q5.2 _ res h hK)
      · rw [if_neg hc] at h
        refine jE_ifF 176 hC (by decide) hc ?_
        refine jE_blk (bs := [(.iload 6, 0, 0), (.iload_n 1, 0, 0)]) (i := .if_icmp .ge (8)) (a1 := 0) (a2 := 0) (pc1 := 173) (l1 := [(7, .int q5.1), (6, .int ((σ.1 109) (((σ.1 134) ((((8 : Int32) * x2) + x4)).toNatClampNeg)).toNatClampNeg)), (0, .ref 106), (1, .int x1), (2, .int x2), (4, .int x4), (5, .int x5)]) (st1 := [.int x1, .int ((σ.1 109) (((σ.1 134) ((((8 : Int32) * x2) + x4)).toNatClampNeg)).toNatClampNeg)]) (σ1 := q5.2) (by decide +kernel) rfl (fun hC => ?_)
        rcases Classical.em (x1 ≤ ((σ.1 109) (((σ.1 134) ((((8 : Int32) * x2) + x4)).toNatClampNeg)).toNatClampNeg)) with hc | hc
        · rw [if_pos hc] at h
          refine jE_icT 181 hC (by decide) hc ?_
          exact jE_loc (l := [(0, .ref 106), (1, .int x1), (2, .int x2), (4, .int x4), (5, .int x5)]) (ks := [0, 1, 2, 4, 5]) rfl (by decide) ⟨rfl, rfl, rfl, rfl, rfl, trivial⟩ (x_r_sameNames_181 d hd x1 x2 x4 x5 q5.2 _ res h hK)
        · rw [if_neg hc] at h
          refine jE_icF 181 hC (by decide) hc ?_
          exact jE_loc (l := [(0, .ref 106), (2, .int x2), (4, .int x4), (5, .int x5), (6, .int ((σ.1 109) (((σ.1 134) ((((8 : Int32) * x2) + x4)).toNatClampNeg)).toNatClampNeg))]) (ks := [0, 2, 4, 5, 6]) rfl (by decide) ⟨rfl, rfl, rfl, rfl, rfl, trivial⟩ (x_r_sameNames_176 d hd x2 x4 x5 ((σ.1 109) (((σ.1 134) ((((8 : Int32) * x2) + x4)).toNatClampNeg)).toNatClampNeg) q5.2 _ res h hK)
def p_r_sameNames_105 (x1 : Int32) (x2 : Int32) (x4 : Int32) (x5 : Int32) (σ : jx_S) : Option ((Int32 × Int32 × Int32 × jx_S) ⊕ ((Int32 × Int32 × jx_S) ⊕ (Int32 × jx_S))) := jx_loop 100000000 (fun s => p_r_sameNames_105_s s.1 s.2.1 s.2.2.1 s.2.2.2.1 (s.2.2.2.2)) (x1, x2, x4, x5, σ)
theorem x_r_sameNames_105 (d : Nat) (hd : 1 ≤ d) (x1 : Int32) (x2 : Int32) (x4 : Int32) (x5 : Int32) (σ : jx_S) (t : ((Int32 × Int32 × Int32 × jx_S) ⊕ ((Int32 × Int32 × jx_S) ⊕ (Int32 × jx_S)))) (res : Option Value × jx_S) (h : p_r_sameNames_105 x1 x2 x4 x5 σ = some t) (hK : kk_r_sameNames_91 d t res) : jE d 175 105 [(0, .ref 106), (1, .int x1), (2, .int x2), (4, .int x4), (5, .int x5)] [] σ res := by
  refine jx_loop_ok (E := fun s t => ∀ res, kk_r_sameNames_91 d t res → jE d 175 105 [(0, .ref 106), (1, .int s.1), (2, .int s.2.1), (4, .int s.2.2.1), (5, .int s.2.2.2.1)] [] s.2.2.2.2 res) (fun s t hs => ?_) _ _ _ h res hK
  cases t with
  | inl s1 => exact fun b hb res hk => x_r_sameNames_105_s d hd (s.1) (s.2.1) (s.2.2.1) (s.2.2.2.1) (s.2.2.2.2) _ res hs (hb res hk)
  | inr b => exact fun res hk => x_r_sameNames_105_s d hd (s.1) (s.2.1) (s.2.2.1) (s.2.2.2.1) (s.2.2.2.2) _ res hs hk
def p_r_sameNames_91_s (x1 : Int32) (x2 : Int32) (x4 : Int32) (σ : jx_S) : Option ((Int32 × Int32 × Int32 × jx_S) ⊕ ((Int32 × Int32 × jx_S) ⊕ (Int32 × jx_S))) := (if x2 < 0 ∨ 40 ≤ (x2).toNatClampNeg then none else (if ((σ.1 127) (x2).toNatClampNeg) ≤ x4 then (Option.map Sum.inr (some (.inl (x1, (x2 + 1), σ)))) else (p_r_sameNames_105 x1 x2 x4 (0 : Int32) σ)))
theorem x_r_sameNames_91_s (d : Nat) (hd : 1 ≤ d) (x1 : Int32) (x2 : Int32) (x4 : Int32) (σ : jx_S) (t : ((Int32 × Int32 × Int32 × jx_S) ⊕ ((Int32 × Int32 × jx_S) ⊕ (Int32 × jx_S)))) (res : Option Value × jx_S) (h : p_r_sameNames_91_s x1 x2 x4 σ = some t) (hK : kk_r_sameNames_91 d t res) : jE d 175 91 [(0, .ref 106), (1, .int x1), (2, .int x2), (4, .int x4)] [] σ res := by
  unfold p_r_sameNames_91_s at h
  refine jE_blk (bs := [(.iload 4, 0, 0), (.aload_n 0, 0, 0), (.getfield 75, 12, 27), (.iload_n 2, 0, 0)]) (i := .iaload) (a1 := 0) (a2 := 0) (pc1 := 98) (l1 := [(0, .ref 106), (1, .int x1), (2, .int x2), (4, .int x4)]) (st1 := [.int x2, .ref 127, .int x4]) (σ1 := σ) (by decide +kernel) rfl (fun hC => ?_)
  obtain ⟨hi, h⟩ := jx_ite0_inv h
  refine jE_iald (n := 40) hC (by decide) rfl hi ?_
  refine jE_blk (bs := []) (i := .if_icmp .ge (96)) (a1 := 0) (a2 := 0) (pc1 := 99) (l1 := [(0, .ref 106), (1, .int x1), (2, .int x2), (4, .int x4)]) (st1 := [.int ((σ.1 127) (x2).toNatClampNeg), .int x4]) (σ1 := σ) (by decide +kernel) rfl (fun hC => ?_)
  rcases Classical.em (((σ.1 127) (x2).toNatClampNeg) ≤ x4) with hc | hc
  · rw [if_pos hc] at h
    refine jE_icT 195 hC (by decide) hc ?_
    obtain ⟨t9_3, h9_3, h8_3⟩ := Option.map_eq_some_iff.mp h
    clear h
    subst h8_3
    have h := h9_3
    clear h9_3
    refine jE_blk (bs := [(.iinc 2 (1), 8, 2), (.goto (-194), 0, 0)]) (i := .iload_n 2) (a1 := 0) (a2 := 0) (pc1 := 4) (l1 := [(2, .int (x2 + 1)), (0, .ref 106), (1, .int x1), (4, .int x4)]) (st1 := []) (σ1 := σ) (by decide +kernel) rfl (fun hC => ?_)
    have h9 := Option.some.inj h
    subst h9
    exact jE_loc (l := [(0, .ref 106), (1, .int x1), (2, .int (x2 + 1))]) (ks := [0, 1, 2]) rfl (by decide) ⟨rfl, rfl, rfl, trivial⟩ hK
  · rw [if_neg hc] at h
    refine jE_icF 195 hC (by decide) hc ?_
    refine jE_blk (bs := [(.iconst (0), 0, 0), (.istore 5, 8, 0)]) (i := .iload 5) (a1 := 0) (a2 := 0) (pc1 := 105) (l1 := [(5, .int (0 : Int32)), (0, .ref 106), (1, .int x1), (2, .int x2), (4, .int x4)]) (st1 := []) (σ1 := σ) (by decide +kernel) rfl (fun hC => ?_)
    exact jE_loc (l := [(0, .ref 106), (1, .int x1), (2, .int x2), (4, .int x4), (5, .int (0 : Int32))]) (ks := [0, 1, 2, 4, 5]) rfl (by decide) ⟨rfl, rfl, rfl, rfl, rfl, trivial⟩ (x_r_sameNames_105 d hd x1 x2 x4 (0 : Int32) σ _ res h hK)
def p_r_sameNames_91 (x1 : Int32) (x2 : Int32) (x4 : Int32) (σ : jx_S) : Option ((Int32 × Int32 × jx_S) ⊕ (Int32 × jx_S)) := jx_loop 100000000 (fun s => p_r_sameNames_91_s s.1 s.2.1 s.2.2.1 (s.2.2.2)) (x1, x2, x4, σ)
theorem x_r_sameNames_91 (d : Nat) (hd : 1 ≤ d) (x1 : Int32) (x2 : Int32) (x4 : Int32) (σ : jx_S) (t : ((Int32 × Int32 × jx_S) ⊕ (Int32 × jx_S))) (res : Option Value × jx_S) (h : p_r_sameNames_91 x1 x2 x4 σ = some t) (hK : kk_r_sameNames_4 d t res) : jE d 175 91 [(0, .ref 106), (1, .int x1), (2, .int x2), (4, .int x4)] [] σ res := by
  refine jx_loop_ok (E := fun s t => ∀ res, kk_r_sameNames_4 d t res → jE d 175 91 [(0, .ref 106), (1, .int s.1), (2, .int s.2.1), (4, .int s.2.2.1)] [] s.2.2.2 res) (fun s t hs => ?_) _ _ _ h res hK
  cases t with
  | inl s1 => exact fun b hb res hk => x_r_sameNames_91_s d hd (s.1) (s.2.1) (s.2.2.1) (s.2.2.2) _ res hs (hb res hk)
  | inr b => exact fun res hk => x_r_sameNames_91_s d hd (s.1) (s.2.1) (s.2.2.1) (s.2.2.2) _ res hs hk
def p_r_sameNames_87 (x2 : Int32) (y0 : Int32) (σ : jx_S) : Option ((Int32 × Int32 × jx_S) ⊕ (Int32 × jx_S)) := (p_r_sameNames_91 y0 x2 (0 : Int32) σ)
theorem x_r_sameNames_87 (d : Nat) (hd : 1 ≤ d) (x2 : Int32) (y0 : Int32) (σ : jx_S) (t : ((Int32 × Int32 × jx_S) ⊕ (Int32 × jx_S))) (res : Option Value × jx_S) (h : p_r_sameNames_87 x2 y0 σ = some t) (hK : kk_r_sameNames_4 d t res) : jE d 175 87 [(0, .ref 106), (2, .int x2)] [.int y0] σ res := by
  unfold p_r_sameNames_87 at h
  refine jE_blk (bs := [(.istore_n 1, 8, 0), (.iconst (0), 0, 0), (.istore 4, 8, 0)]) (i := .iload 4) (a1 := 0) (a2 := 0) (pc1 := 91) (l1 := [(4, .int (0 : Int32)), (1, .int y0), (0, .ref 106), (2, .int x2)]) (st1 := []) (σ1 := σ) (by decide +kernel) rfl (fun hC => ?_)
  exact jE_loc (l := [(0, .ref 106), (1, .int y0), (2, .int x2), (4, .int (0 : Int32))]) (ks := [0, 1, 2, 4]) rfl (by decide) ⟨rfl, rfl, rfl, rfl, trivial⟩ (x_r_sameNames_91 d hd y0 x2 (0 : Int32) σ _ res h hK)
def p_r_sameNames_86 (x1 : Int32) (x2 : Int32) (σ : jx_S) : Option ((Int32 × Int32 × jx_S) ⊕ (Int32 × jx_S)) := (p_r_sameNames_87 x2 x1 σ)
theorem x_r_sameNames_86 (d : Nat) (hd : 1 ≤ d) (x1 : Int32) (x2 : Int32) (σ : jx_S) (t : ((Int32 × Int32 × jx_S) ⊕ (Int32 × jx_S))) (res : Option Value × jx_S) (h : p_r_sameNames_86 x1 x2 σ = some t) (hK : kk_r_sameNames_4 d t res) : jE d 175 86 [(0, .ref 106), (1, .int x1), (2, .int x2)] [] σ res := by
  unfold p_r_sameNames_86 at h
  refine jE_blk (bs := [(.iload_n 1, 0, 0)]) (i := .istore_n 1) (a1 := 8) (a2 := 0) (pc1 := 87) (l1 := [(0, .ref 106), (1, .int x1), (2, .int x2)]) (st1 := [.int x1]) (σ1 := σ) (by decide +kernel) rfl (fun hC => ?_)
  exact jE_loc (l := [(0, .ref 106), (2, .int x2)]) (ks := [0, 2]) rfl (by decide) ⟨rfl, rfl, trivial⟩ (x_r_sameNames_87 d hd x2 x1 σ _ res h hK)
def p_r_sameNames_72 (x2 : Int32) (σ : jx_S) : Option ((Int32 × Int32 × jx_S) ⊕ (Int32 × jx_S)) := (if x2 < 0 ∨ 40 ≤ (x2).toNatClampNeg then none else (if ((σ.1 126) (x2).toNatClampNeg) < 0 ∨ 1202 ≤ (((σ.1 126) (x2).toNatClampNeg)).toNatClampNeg then none else (p_r_sameNames_87 x2 ((σ.1 109) (((σ.1 126) (x2).toNatClampNeg)).toNatClampNeg) σ)))
theorem x_r_sameNames_72 (d : Nat) (hd : 1 ≤ d) (x2 : Int32) (σ : jx_S) (t : ((Int32 × Int32 × jx_S) ⊕ (Int32 × jx_S))) (res : Option Value × jx_S) (h : p_r_sameNames_72 x2 σ = some t) (hK : kk_r_sameNames_4 d t res) : jE d 175 72 [(0, .ref 106), (2, .int x2)] [] σ res := by
  unfold p_r_sameNames_72 at h
  refine jE_blk (bs := [(.aload_n 0, 0, 0), (.getfield 20, 12, 7), (.aload_n 0, 0, 0), (.getfield 72, 12, 26), (.iload_n 2, 0, 0)]) (i := .iaload) (a1 := 0) (a2 := 0) (pc1 := 81) (l1 := [(0, .ref 106), (2, .int x2)]) (st1 := [.int x2, .ref 126, .ref 109]) (σ1 := σ) (by decide +kernel) rfl (fun hC => ?_)
  obtain ⟨hi, h⟩ := jx_ite0_inv h
  refine jE_iald (n := 40) hC (by decide) rfl hi ?_
  refine jE_blk (bs := []) (i := .iaload) (a1 := 0) (a2 := 0) (pc1 := 82) (l1 := [(0, .ref 106), (2, .int x2)]) (st1 := [.int ((σ.1 126) (x2).toNatClampNeg), .ref 109]) (σ1 := σ) (by decide +kernel) rfl (fun hC => ?_)
  obtain ⟨hi, h⟩ := jx_ite0_inv h
  refine jE_iald (n := 1202) hC (by decide) rfl hi ?_
  refine jE_blk (bs := [(.goto (4), 0, 0)]) (i := .istore_n 1) (a1 := 8) (a2 := 0) (pc1 := 87) (l1 := [(0, .ref 106), (2, .int x2)]) (st1 := [.int ((σ.1 109) (((σ.1 126) (x2).toNatClampNeg)).toNatClampNeg)]) (σ1 := σ) (by decide +kernel) rfl (fun hC => ?_)
  exact jE_loc (l := [(0, .ref 106), (2, .int x2)]) (ks := [0, 2]) rfl (by decide) ⟨rfl, rfl, trivial⟩ (x_r_sameNames_87 d hd x2 ((σ.1 109) (((σ.1 126) (x2).toNatClampNeg)).toNatClampNeg) σ _ res h hK)
def p_r_sameNames_17_s (x1 : Int32) (x2 : Int32) (x3 : Int32) (x4 : Int32) (σ : jx_S) : Option ((Int32 × Int32 × Int32 × Int32 × jx_S) ⊕ ((Int32 × Int32 × jx_S) ⊕ (Int32 × jx_S))) := (if x2 ≤ x4 then (Option.map Sum.inr (if x3 = 0 then (p_r_sameNames_86 x1 x2 σ) else (if x1 < 0 then (p_r_sameNames_72 x2 σ) else (if x2 < 0 ∨ 40 ≤ (x2).toNatClampNeg then none else (if ((σ.1 126) (x2).toNatClampNeg) < 0 ∨ 1202 ≤ (((σ.1 126) (x2).toNatClampNeg)).toNatClampNeg then none else (if x1 ≤ ((σ.1 109) (((σ.1 126) (x2).toNatClampNeg)).toNatClampNeg) then (p_r_sameNames_86 x1 x2 σ) else (p_r_sameNames_72 x2 σ))))))) else (if x2 < 0 ∨ 40 ≤ (x2).toNatClampNeg then none else (if x4 < 0 ∨ 40 ≤ (x4).toNatClampNeg then none else ((p_r_isSame ((σ.1 126) (x2).toNatClampNeg) ((σ.1 126) (x4).toNatClampNeg) σ).bind fun q7 => (some (.inl (x1, x2, (x3 ||| q7.1), (x4 + 1), q7.2)))))))
theorem x_r_sameNames_17_s (d : Nat) (hd : 1 ≤ d) (x1 : Int32) (x2 : Int32) (x3 : Int32) (x4 : Int32) (σ : jx_S) (t : ((Int32 × Int32 × Int32 × Int32 × jx_S) ⊕ ((Int32 × Int32 × jx_S) ⊕ (Int32 × jx_S)))) (res : Option Value × jx_S) (h : p_r_sameNames_17_s x1 x2 x3 x4 σ = some t) (hK : kk_r_sameNames_17 d t res) : jE d 175 17 [(0, .ref 106), (1, .int x1), (2, .int x2), (3, .int x3), (4, .int x4)] [] σ res := by
  unfold p_r_sameNames_17_s at h
  refine jE_blk (bs := [(.iload 4, 0, 0), (.iload_n 2, 0, 0)]) (i := .if_icmp .ge (29)) (a1 := 0) (a2 := 0) (pc1 := 20) (l1 := [(0, .ref 106), (1, .int x1), (2, .int x2), (3, .int x3), (4, .int x4)]) (st1 := [.int x2, .int x4]) (σ1 := σ) (by decide +kernel) rfl (fun hC => ?_)
  rcases Classical.em (x2 ≤ x4) with hc | hc
  · rw [if_pos hc] at h
    refine jE_icT 49 hC (by decide) hc ?_
    obtain ⟨t9_6, h9_6, h8_6⟩ := Option.map_eq_some_iff.mp h
    clear h
    subst h8_6
    have h := h9_6
    clear h9_6
    refine jE_blk (bs := [(.iload_n 3, 0, 0)]) (i := .ifCond .eq (36)) (a1 := 0) (a2 := 0) (pc1 := 50) (l1 := [(0, .ref 106), (1, .int x1), (2, .int x2), (3, .int x3), (4, .int x4)]) (st1 := [.int x3]) (σ1 := σ) (by decide +kernel) rfl (fun hC => ?_)
    rcases Classical.em (x3 = 0) with hc | hc
    · rw [if_pos hc] at h
      refine jE_ifT 86 hC (by decide) hc ?_
      exact jE_loc (l := [(0, .ref 106), (1, .int x1), (2, .int x2)]) (ks := [0, 1, 2]) rfl (by decide) ⟨rfl, rfl, rfl, trivial⟩ (x_r_sameNames_86 d hd x1 x2 σ _ res h hK)
    · rw [if_neg hc] at h
      refine jE_ifF 86 hC (by decide) hc ?_
      refine jE_blk (bs := [(.iload_n 1, 0, 0)]) (i := .ifCond .lt (18)) (a1 := 0) (a2 := 0) (pc1 := 54) (l1 := [(0, .ref 106), (1, .int x1), (2, .int x2), (3, .int x3), (4, .int x4)]) (st1 := [.int x1]) (σ1 := σ) (by decide +kernel) rfl (fun hC => ?_)
      rcases Classical.em (x1 < 0) with hc | hc
      · rw [if_pos hc] at h
        refine jE_ifT 72 hC (by decide) hc ?_
        exact jE_loc (l := [(0, .ref 106), (2, .int x2)]) (ks := [0, 2]) rfl (by decide) ⟨rfl, rfl, trivial⟩ (x_r_sameNames_72 d hd x2 σ _ res h hK)
      · rw [if_neg hc] at h
        refine jE_ifF 72 hC (by decide) hc ?_
        refine jE_blk (bs := [(.aload_n 0, 0, 0), (.getfield 20, 12, 7), (.aload_n 0, 0, 0), (.getfield 72, 12, 26), (.iload_n 2, 0, 0)]) (i := .iaload) (a1 := 0) (a2 := 0) (pc1 := 66) (l1 := [(0, .ref 106), (1, .int x1), (2, .int x2), (3, .int x3), (4, .int x4)]) (st1 := [.int x2, .ref 126, .ref 109]) (σ1 := σ) (by decide +kernel) rfl (fun hC => ?_)
        obtain ⟨hi, h⟩ := jx_ite0_inv h
        refine jE_iald (n := 40) hC (by decide) rfl hi ?_
        refine jE_blk (bs := []) (i := .iaload) (a1 := 0) (a2 := 0) (pc1 := 67) (l1 := [(0, .ref 106), (1, .int x1), (2, .int x2), (3, .int x3), (4, .int x4)]) (st1 := [.int ((σ.1 126) (x2).toNatClampNeg), .ref 109]) (σ1 := σ) (by decide +kernel) rfl (fun hC => ?_)
        obtain ⟨hi, h⟩ := jx_ite0_inv h
        refine jE_iald (n := 1202) hC (by decide) rfl hi ?_
        refine jE_blk (bs := [(.iload_n 1, 0, 0)]) (i := .if_icmp .ge (17)) (a1 := 0) (a2 := 0) (pc1 := 69) (l1 := [(0, .ref 106), (1, .int x1), (2, .int x2), (3, .int x3), (4, .int x4)]) (st1 := [.int x1, .int ((σ.1 109) (((σ.1 126) (x2).toNatClampNeg)).toNatClampNeg)]) (σ1 := σ) (by decide +kernel) rfl (fun hC => ?_)
        rcases Classical.em (x1 ≤ ((σ.1 109) (((σ.1 126) (x2).toNatClampNeg)).toNatClampNeg)) with hc | hc
        · rw [if_pos hc] at h
          refine jE_icT 86 hC (by decide) hc ?_
          exact jE_loc (l := [(0, .ref 106), (1, .int x1), (2, .int x2)]) (ks := [0, 1, 2]) rfl (by decide) ⟨rfl, rfl, rfl, trivial⟩ (x_r_sameNames_86 d hd x1 x2 σ _ res h hK)
        · rw [if_neg hc] at h
          refine jE_icF 86 hC (by decide) hc ?_
          exact jE_loc (l := [(0, .ref 106), (2, .int x2)]) (ks := [0, 2]) rfl (by decide) ⟨rfl, rfl, trivial⟩ (x_r_sameNames_72 d hd x2 σ _ res h hK)
  · rw [if_neg hc] at h
    refine jE_icF 49 hC (by decide) hc ?_
    refine jE_blk (bs := [(.iload_n 3, 0, 0), (.aload_n 0, 0, 0), (.aload_n 0, 0, 0), (.getfield 72, 12, 26), (.iload_n 2, 0, 0)]) (i := .iaload) (a1 := 0) (a2 := 0) (pc1 := 30) (l1 := [(0, .ref 106), (1, .int x1), (2, .int x2), (3, .int x3), (4, .int x4)]) (st1 := [.int x2, .ref 126, .ref 106, .int x3]) (σ1 := σ) (by decide +kernel) rfl (fun hC => ?_)
    obtain ⟨hi, h⟩ := jx_ite0_inv h
    refine jE_iald (n := 40) hC (by decide) rfl hi ?_
    refine jE_blk (bs := [(.aload_n 0, 0, 0), (.getfield 72, 12, 26), (.iload 4, 0, 0)]) (i := .iaload) (a1 := 0) (a2 := 0) (pc1 := 37) (l1 := [(0, .ref 106), (1, .int x1), (2, .int x2), (3, .int x3), (4, .int x4)]) (st1 := [.int x4, .ref 126, .int ((σ.1 126) (x2).toNatClampNeg), .ref 106, .int x3]) (σ1 := σ) (by decide +kernel) rfl (fun hC => ?_)
    obtain ⟨hi, h⟩ := jx_ite0_inv h
    refine jE_iald (n := 40) hC (by decide) rfl hi ?_
    refine jE_blk (bs := []) (i := .invokevirtual 320) (a1 := 154) (a2 := 0) (pc1 := 38) (l1 := [(0, .ref 106), (1, .int x1), (2, .int x2), (3, .int x3), (4, .int x4)]) (st1 := [.int ((σ.1 126) (x4).toNatClampNeg), .int ((σ.1 126) (x2).toNatClampNeg), .ref 106, .int x3]) (σ1 := σ) (by decide +kernel) rfl (fun hC => ?_)
    obtain ⟨q7, hq, h⟩ := Option.bind_eq_some_iff.mp h
    refine jE_call (as := [.ref 106, .int ((σ.1 126) (x2).toNatClampNeg), .int ((σ.1 126) (x4).toNatClampNeg)]) (pc1 := 41) (st1 := [.int x3]) hC rfl (by decide) (by omega) (x_r_isSame (d - 1) (by omega) ((σ.1 126) (x2).toNatClampNeg) ((σ.1 126) (x4).toNatClampNeg) σ q7 (some (.int q7.1), q7.2) hq rfl) ?_
    refine jE_blk (bs := [(.ior, 0, 0), (.istore_n 3, 8, 0), (.iinc 4 (1), 8, 2), (.goto (-29), 0, 0)]) (i := .iload 4) (a1 := 0) (a2 := 0) (pc1 := 17) (l1 := [(4, .int (x4 + 1)), (3, .int (x3 ||| q7.1)), (0, .ref 106), (1, .int x1), (2, .int x2)]) (st1 := []) (σ1 := q7.2) (by decide +kernel) rfl (fun hC => ?_)
    have h9 := Option.some.inj h
    subst h9
    exact jE_loc (l := [(0, .ref 106), (1, .int x1), (2, .int x2), (3, .int (x3 ||| q7.1)), (4, .int (x4 + 1))]) (ks := [0, 1, 2, 3, 4]) rfl (by decide) ⟨rfl, rfl, rfl, rfl, rfl, trivial⟩ hK
def p_r_sameNames_17 (x1 : Int32) (x2 : Int32) (x3 : Int32) (x4 : Int32) (σ : jx_S) : Option ((Int32 × Int32 × jx_S) ⊕ (Int32 × jx_S)) := jx_loop 100000000 (fun s => p_r_sameNames_17_s s.1 s.2.1 s.2.2.1 s.2.2.2.1 (s.2.2.2.2)) (x1, x2, x3, x4, σ)
theorem x_r_sameNames_17 (d : Nat) (hd : 1 ≤ d) (x1 : Int32) (x2 : Int32) (x3 : Int32) (x4 : Int32) (σ : jx_S) (t : ((Int32 × Int32 × jx_S) ⊕ (Int32 × jx_S))) (res : Option Value × jx_S) (h : p_r_sameNames_17 x1 x2 x3 x4 σ = some t) (hK : kk_r_sameNames_4 d t res) : jE d 175 17 [(0, .ref 106), (1, .int x1), (2, .int x2), (3, .int x3), (4, .int x4)] [] σ res := by
  refine jx_loop_ok (E := fun s t => ∀ res, kk_r_sameNames_4 d t res → jE d 175 17 [(0, .ref 106), (1, .int s.1), (2, .int s.2.1), (3, .int s.2.2.1), (4, .int s.2.2.2.1)] [] s.2.2.2.2 res) (fun s t hs => ?_) _ _ _ h res hK
  cases t with
  | inl s1 => exact fun b hb res hk => x_r_sameNames_17_s d hd (s.1) (s.2.1) (s.2.2.1) (s.2.2.2.1) (s.2.2.2.2) _ res hs (hb res hk)
  | inr b => exact fun res hk => x_r_sameNames_17_s d hd (s.1) (s.2.1) (s.2.2.1) (s.2.2.2.1) (s.2.2.2.2) _ res hs hk
def p_r_sameNames_4_s (x1 : Int32) (x2 : Int32) (σ : jx_S) : Option ((Int32 × Int32 × jx_S) ⊕ (Int32 × jx_S)) := (if (σ.1 106 38) ≤ x2 then (Option.map Sum.inr (if x1 < 0 then (some (((1 : Int32), σ))) else ((p_r_fails (5 : Int32) x1 σ).bind fun q1 => (if q1.1 = 0 then (some (((0 : Int32), q1.2))) else (some (((1 : Int32), q1.2))))))) else (p_r_sameNames_17 x1 x2 (0 : Int32) (0 : Int32) σ))
theorem x_r_sameNames_4_s (d : Nat) (hd : 1 ≤ d) (x1 : Int32) (x2 : Int32) (σ : jx_S) (t : ((Int32 × Int32 × jx_S) ⊕ (Int32 × jx_S))) (res : Option Value × jx_S) (h : p_r_sameNames_4_s x1 x2 σ = some t) (hK : kk_r_sameNames_4 d t res) : jE d 175 4 [(0, .ref 106), (1, .int x1), (2, .int x2)] [] σ res := by
  unfold p_r_sameNames_4_s at h
  refine jE_blk (bs := [(.iload_n 2, 0, 0), (.aload_n 0, 0, 0), (.getfield 219, 12, 38)]) (i := .if_icmp .ge (192)) (a1 := 0) (a2 := 0) (pc1 := 9) (l1 := [(0, .ref 106), (1, .int x1), (2, .int x2)]) (st1 := [.int (σ.1 106 38), .int x2]) (σ1 := σ) (by decide +kernel) rfl (fun hC => ?_)
  rcases Classical.em ((σ.1 106 38) ≤ x2) with hc | hc
  · rw [if_pos hc] at h
    refine jE_icT 201 hC (by decide) hc ?_
    obtain ⟨t9_2, h9_2, h8_2⟩ := Option.map_eq_some_iff.mp h
    clear h
    subst h8_2
    have h := h9_2
    clear h9_2
    refine jE_blk (bs := [(.iload_n 1, 0, 0)]) (i := .ifCond .lt (12)) (a1 := 0) (a2 := 0) (pc1 := 202) (l1 := [(0, .ref 106), (1, .int x1), (2, .int x2)]) (st1 := [.int x1]) (σ1 := σ) (by decide +kernel) rfl (fun hC => ?_)
    rcases Classical.em (x1 < 0) with hc | hc
    · rw [if_pos hc] at h
      refine jE_ifT 214 hC (by decide) hc ?_
      refine jE_blk (bs := [(.iconst (1), 1, 0), (.goto (4), 0, 0)]) (i := .ireturn) (a1 := 1) (a2 := 0) (pc1 := 219) (l1 := [(0, .ref 106), (1, .int x1), (2, .int x2)]) (st1 := [.int (1 : Int32)]) (σ1 := σ) (by decide +kernel) rfl (fun hC => ?_)
      have h9 := Option.some.inj h
      subst h9
      have e9 : ((some (.int (1 : Int32)), σ) : Option Value × jx_S) = res := hK
      subst e9
      exact jE_ret hC rfl
    · rw [if_neg hc] at h
      refine jE_ifF 214 hC (by decide) hc ?_
      refine jE_blk (bs := [(.aload_n 0, 0, 0), (.iconst (5), 5, 0), (.iload_n 1, 0, 0)]) (i := .invokevirtual 296) (a1 := 146) (a2 := 0) (pc1 := 208) (l1 := [(0, .ref 106), (1, .int x1), (2, .int x2)]) (st1 := [.int x1, .int (5 : Int32), .ref 106]) (σ1 := σ) (by decide +kernel) rfl (fun hC => ?_)
      obtain ⟨q1, hq, h⟩ := Option.bind_eq_some_iff.mp h
      refine jE_call (as := [.ref 106, .int (5 : Int32), .int x1]) (pc1 := 211) (st1 := []) hC rfl (by decide) (by omega) (x_r_fails (d - 1) (by omega) (5 : Int32) x1 σ q1 (some (.int q1.1), q1.2) hq rfl) ?_
      refine jE_blk (bs := []) (i := .ifCond .eq (7)) (a1 := 0) (a2 := 0) (pc1 := 211) (l1 := [(0, .ref 106), (1, .int x1), (2, .int x2)]) (st1 := [.int q1.1]) (σ1 := q1.2) (by decide +kernel) rfl (fun hC => ?_)
      rcases Classical.em (q1.1 = 0) with hc | hc
      · rw [if_pos hc] at h
        refine jE_ifT 218 hC (by decide) hc ?_
        refine jE_blk (bs := [(.iconst (0), 0, 0)]) (i := .ireturn) (a1 := 1) (a2 := 0) (pc1 := 219) (l1 := [(0, .ref 106), (1, .int x1), (2, .int x2)]) (st1 := [.int (0 : Int32)]) (σ1 := q1.2) (by decide +kernel) rfl (fun hC => ?_)
        have h9 := Option.some.inj h
        subst h9
        have e9 : ((some (.int (0 : Int32)), q1.2) : Option Value × jx_S) = res := hK
        subst e9
        exact jE_ret hC rfl
      · rw [if_neg hc] at h
        refine jE_ifF 218 hC (by decide) hc ?_
        refine jE_blk (bs := [(.iconst (1), 1, 0), (.goto (4), 0, 0)]) (i := .ireturn) (a1 := 1) (a2 := 0) (pc1 := 219) (l1 := [(0, .ref 106), (1, .int x1), (2, .int x2)]) (st1 := [.int (1 : Int32)]) (σ1 := q1.2) (by decide +kernel) rfl (fun hC => ?_)
        have h9 := Option.some.inj h
        subst h9
        have e9 : ((some (.int (1 : Int32)), q1.2) : Option Value × jx_S) = res := hK
        subst e9
        exact jE_ret hC rfl
  · rw [if_neg hc] at h
    refine jE_icF 201 hC (by decide) hc ?_
    refine jE_blk (bs := [(.iconst (0), 0, 0), (.istore_n 3, 8, 0), (.iconst (0), 0, 0), (.istore 4, 8, 0)]) (i := .iload 4) (a1 := 0) (a2 := 0) (pc1 := 17) (l1 := [(4, .int (0 : Int32)), (3, .int (0 : Int32)), (0, .ref 106), (1, .int x1), (2, .int x2)]) (st1 := []) (σ1 := σ) (by decide +kernel) rfl (fun hC => ?_)
    exact jE_loc (l := [(0, .ref 106), (1, .int x1), (2, .int x2), (3, .int (0 : Int32)), (4, .int (0 : Int32))]) (ks := [0, 1, 2, 3, 4]) rfl (by decide) ⟨rfl, rfl, rfl, rfl, rfl, trivial⟩ (x_r_sameNames_17 d hd x1 x2 (0 : Int32) (0 : Int32) σ _ res h hK)
def p_r_sameNames_4 (x1 : Int32) (x2 : Int32) (σ : jx_S) : Option (Int32 × jx_S) := jx_loop 100000000 (fun s => p_r_sameNames_4_s s.1 s.2.1 (s.2.2)) (x1, x2, σ)
theorem x_r_sameNames_4 (d : Nat) (hd : 1 ≤ d) (x1 : Int32) (x2 : Int32) (σ : jx_S) (t : (Int32 × jx_S)) (res : Option Value × jx_S) (h : p_r_sameNames_4 x1 x2 σ = some t) (hK : kkI t res) : jE d 175 4 [(0, .ref 106), (1, .int x1), (2, .int x2)] [] σ res := by
  refine jx_loop_ok (E := fun s t => ∀ res, kkI t res → jE d 175 4 [(0, .ref 106), (1, .int s.1), (2, .int s.2.1)] [] s.2.2 res) (fun s t hs => ?_) _ _ _ h res hK
  cases t with
  | inl s1 => exact fun b hb res hk => x_r_sameNames_4_s d hd (s.1) (s.2.1) (s.2.2) _ res hs (hb res hk)
  | inr b => exact fun res hk => x_r_sameNames_4_s d hd (s.1) (s.2.1) (s.2.2) _ res hs hk
def p_r_sameNames (σ : jx_S) : Option (Int32 × jx_S) := (p_r_sameNames_4 (-1 : Int32) (0 : Int32) σ)
theorem x_r_sameNames (d : Nat) (hd : 1 ≤ d) (σ : jx_S) (t : (Int32 × jx_S)) (res : Option Value × jx_S) (h : p_r_sameNames σ = some t) (hK : kkI t res) : jE d 175 0 [(0, .ref 106)] [] σ res := by
  unfold p_r_sameNames at h
  refine jE_blk (bs := [(.iconst (-1), 1, 1), (.istore_n 1, 8, 0), (.iconst (0), 0, 0), (.istore_n 2, 8, 0)]) (i := .iload_n 2) (a1 := 0) (a2 := 0) (pc1 := 4) (l1 := [(2, .int (0 : Int32)), (1, .int (-1 : Int32)), (0, .ref 106)]) (st1 := []) (σ1 := σ) (by decide +kernel) rfl (fun hC => ?_)
  exact jE_loc (l := [(0, .ref 106), (1, .int (-1 : Int32)), (2, .int (0 : Int32))]) (ks := [0, 1, 2]) rfl (by decide) ⟨rfl, rfl, rfl, trivial⟩ (x_r_sameNames_4 d hd (-1 : Int32) (0 : Int32) σ _ res h hK)
def kk_r_functionNamed_2 (d : Nat) (t : ((Int32 × Int32 × jx_S) ⊕ (Int32 × jx_S))) (res : Option Value × jx_S) : Prop := match t with
  | .inl s => jE d 176 2 [(0, .ref 106), (1, .int s.1), (2, .int s.2.1)] [] s.2.2 res
  | .inr t => kkI t res
def p_r_functionNamed_2_s (x1 : Int32) (x2 : Int32) (σ : jx_S) : Option ((Int32 × Int32 × jx_S) ⊕ (Int32 × jx_S)) := (if (σ.1 106 38) ≤ x2 then (Option.map Sum.inr (some (((-1 : Int32), σ)))) else (if x2 < 0 ∨ 40 ≤ (x2).toNatClampNeg then none else ((p_r_isSame ((σ.1 126) (x2).toNatClampNeg) x1 σ).bind fun q2 => (if q2.1 = 0 then (some (.inl (x1, (x2 + 1), q2.2))) else (Option.map Sum.inr (some ((x2, q2.2))))))))
theorem x_r_functionNamed_2_s (d : Nat) (hd : 1 ≤ d) (x1 : Int32) (x2 : Int32) (σ : jx_S) (t : ((Int32 × Int32 × jx_S) ⊕ (Int32 × jx_S))) (res : Option Value × jx_S) (h : p_r_functionNamed_2_s x1 x2 σ = some t) (hK : kk_r_functionNamed_2 d t res) : jE d 176 2 [(0, .ref 106), (1, .int x1), (2, .int x2)] [] σ res := by
  unfold p_r_functionNamed_2_s at h
  refine jE_blk (bs := [(.iload_n 2, 0, 0), (.aload_n 0, 0, 0), (.getfield 219, 12, 38)]) (i := .if_icmp .ge (25)) (a1 := 0) (a2 := 0) (pc1 := 7) (l1 := [(0, .ref 106), (1, .int x1), (2, .int x2)]) (st1 := [.int (σ.1 106 38), .int x2]) (σ1 := σ) (by decide +kernel) rfl (fun hC => ?_)
  rcases Classical.em ((σ.1 106 38) ≤ x2) with hc | hc
  · rw [if_pos hc] at h
    refine jE_icT 32 hC (by decide) hc ?_
    obtain ⟨t9_1, h9_1, h8_1⟩ := Option.map_eq_some_iff.mp h
    clear h
    subst h8_1
    have h := h9_1
    clear h9_1
    refine jE_blk (bs := [(.iconst (-1), 1, 1)]) (i := .ireturn) (a1 := 0) (a2 := 0) (pc1 := 33) (l1 := [(0, .ref 106), (1, .int x1), (2, .int x2)]) (st1 := [.int (-1 : Int32)]) (σ1 := σ) (by decide +kernel) rfl (fun hC => ?_)
    have h9 := Option.some.inj h
    subst h9
    have e9 : ((some (.int (-1 : Int32)), σ) : Option Value × jx_S) = res := hK
    subst e9
    exact jE_ret hC rfl
  · rw [if_neg hc] at h
    refine jE_icF 32 hC (by decide) hc ?_
    refine jE_blk (bs := [(.aload_n 0, 0, 0), (.aload_n 0, 0, 0), (.getfield 72, 12, 26), (.iload_n 2, 0, 0)]) (i := .iaload) (a1 := 0) (a2 := 0) (pc1 := 16) (l1 := [(0, .ref 106), (1, .int x1), (2, .int x2)]) (st1 := [.int x2, .ref 126, .ref 106]) (σ1 := σ) (by decide +kernel) rfl (fun hC => ?_)
    obtain ⟨hi, h⟩ := jx_ite0_inv h
    refine jE_iald (n := 40) hC (by decide) rfl hi ?_
    refine jE_blk (bs := [(.iload_n 1, 0, 0)]) (i := .invokevirtual 320) (a1 := 154) (a2 := 0) (pc1 := 18) (l1 := [(0, .ref 106), (1, .int x1), (2, .int x2)]) (st1 := [.int x1, .int ((σ.1 126) (x2).toNatClampNeg), .ref 106]) (σ1 := σ) (by decide +kernel) rfl (fun hC => ?_)
    obtain ⟨q2, hq, h⟩ := Option.bind_eq_some_iff.mp h
    refine jE_call (as := [.ref 106, .int ((σ.1 126) (x2).toNatClampNeg), .int x1]) (pc1 := 21) (st1 := []) hC rfl (by decide) (by omega) (x_r_isSame (d - 1) (by omega) ((σ.1 126) (x2).toNatClampNeg) x1 σ q2 (some (.int q2.1), q2.2) hq rfl) ?_
    refine jE_blk (bs := []) (i := .ifCond .eq (5)) (a1 := 0) (a2 := 0) (pc1 := 21) (l1 := [(0, .ref 106), (1, .int x1), (2, .int x2)]) (st1 := [.int q2.1]) (σ1 := q2.2) (by decide +kernel) rfl (fun hC => ?_)
    rcases Classical.em (q2.1 = 0) with hc | hc
    · rw [if_pos hc] at h
      refine jE_ifT 26 hC (by decide) hc ?_
      refine jE_blk (bs := [(.iinc 2 (1), 3, 2), (.goto (-27), 0, 0)]) (i := .iload_n 2) (a1 := 0) (a2 := 0) (pc1 := 2) (l1 := [(2, .int (x2 + 1)), (0, .ref 106), (1, .int x1)]) (st1 := []) (σ1 := q2.2) (by decide +kernel) rfl (fun hC => ?_)
      have h9 := Option.some.inj h
      subst h9
      exact jE_loc (l := [(0, .ref 106), (1, .int x1), (2, .int (x2 + 1))]) (ks := [0, 1, 2]) rfl (by decide) ⟨rfl, rfl, rfl, trivial⟩ hK
    · rw [if_neg hc] at h
      refine jE_ifF 26 hC (by decide) hc ?_
      obtain ⟨t9_3, h9_3, h8_3⟩ := Option.map_eq_some_iff.mp h
      clear h
      subst h8_3
      have h := h9_3
      clear h9_3
      refine jE_blk (bs := [(.iload_n 2, 0, 0)]) (i := .ireturn) (a1 := 0) (a2 := 0) (pc1 := 25) (l1 := [(0, .ref 106), (1, .int x1), (2, .int x2)]) (st1 := [.int x2]) (σ1 := q2.2) (by decide +kernel) rfl (fun hC => ?_)
      have h9 := Option.some.inj h
      subst h9
      have e9 : ((some (.int x2), q2.2) : Option Value × jx_S) = res := hK
      subst e9
      exact jE_ret hC rfl
def p_r_functionNamed_2 (x1 : Int32) (x2 : Int32) (σ : jx_S) : Option (Int32 × jx_S) := jx_loop 100000000 (fun s => p_r_functionNamed_2_s s.1 s.2.1 (s.2.2)) (x1, x2, σ)
theorem x_r_functionNamed_2 (d : Nat) (hd : 1 ≤ d) (x1 : Int32) (x2 : Int32) (σ : jx_S) (t : (Int32 × jx_S)) (res : Option Value × jx_S) (h : p_r_functionNamed_2 x1 x2 σ = some t) (hK : kkI t res) : jE d 176 2 [(0, .ref 106), (1, .int x1), (2, .int x2)] [] σ res := by
  refine jx_loop_ok (E := fun s t => ∀ res, kkI t res → jE d 176 2 [(0, .ref 106), (1, .int s.1), (2, .int s.2.1)] [] s.2.2 res) (fun s t hs => ?_) _ _ _ h res hK
  cases t with
  | inl s1 => exact fun b hb res hk => x_r_functionNamed_2_s d hd (s.1) (s.2.1) (s.2.2) _ res hs (hb res hk)
  | inr b => exact fun res hk => x_r_functionNamed_2_s d hd (s.1) (s.2.1) (s.2.2) _ res hs hk
def p_r_functionNamed (x1 : Int32) (σ : jx_S) : Option (Int32 × jx_S) := (p_r_functionNamed_2 x1 (0 : Int32) σ)
theorem x_r_functionNamed (d : Nat) (hd : 1 ≤ d) (x1 : Int32) (σ : jx_S) (t : (Int32 × jx_S)) (res : Option Value × jx_S) (h : p_r_functionNamed x1 σ = some t) (hK : kkI t res) : jE d 176 0 [(0, .ref 106), (1, .int x1)] [] σ res := by
  unfold p_r_functionNamed at h
  refine jE_blk (bs := [(.iconst (0), 0, 0), (.istore_n 2, 3, 0)]) (i := .iload_n 2) (a1 := 0) (a2 := 0) (pc1 := 2) (l1 := [(2, .int (0 : Int32)), (0, .ref 106), (1, .int x1)]) (st1 := []) (σ1 := σ) (by decide +kernel) rfl (fun hC => ?_)
  exact jE_loc (l := [(0, .ref 106), (1, .int x1), (2, .int (0 : Int32))]) (ks := [0, 1, 2]) rfl (by decide) ⟨rfl, rfl, rfl, trivial⟩ (x_r_functionNamed_2 d hd x1 (0 : Int32) σ _ res h hK)
def p_r_want (x1 : Int32) (x2 : Int32) (σ : jx_S) : Option jx_S := (if (σ.1 106 55) < 0 ∨ 3000 ≤ ((σ.1 106 55)).toNatClampNeg then none else (if (σ.1 106 55) < 0 ∨ 3000 ≤ ((σ.1 106 55)).toNatClampNeg then none else (some ((jx_i (jx_i (jx_i σ 144 ((σ.1 106 55)).toNatClampNeg x1) 145 ((σ.1 106 55)).toNatClampNeg x2) 106 55 ((σ.1 106 55) + (1 : Int32)))))))
theorem x_r_want (d : Nat) (hd : 0 ≤ d) (x1 : Int32) (x2 : Int32) (σ : jx_S) (t : jx_S) (res : Option Value × jx_S) (h : p_r_want x1 x2 σ = some t) (hK : kkV t res) : jE d 179 0 [(0, .ref 106), (1, .int x1), (2, .int x2)] [] σ res := by
  unfold p_r_want at h
  refine jE_blk (bs := [(.aload_n 0, 0, 0), (.getfield 126, 12, 53), (.aload_n 0, 0, 0), (.getfield 389, 12, 55), (.iload_n 1, 0, 0)]) (i := .iastore) (a1 := 0) (a2 := 0) (pc1 := 9) (l1 := [(0, .ref 106), (1, .int x1), (2, .int x2)]) (st1 := [.int x1, .int (σ.1 106 55), .ref 144]) (σ1 := σ) (by decide +kernel) rfl (fun hC => ?_)
  obtain ⟨hi, h⟩ := jx_ite0_inv h
  refine jE_iast (n := 3000) hC (by decide) rfl hi ?_
  refine jE_blk (bs := [(.aload_n 0, 0, 0), (.getfield 129, 12, 54), (.aload_n 0, 0, 0), (.getfield 389, 12, 55), (.iload_n 2, 0, 0)]) (i := .iastore) (a1 := 0) (a2 := 0) (pc1 := 19) (l1 := [(0, .ref 106), (1, .int x1), (2, .int x2)]) (st1 := [.int x2, .int (σ.1 106 55), .ref 145]) (σ1 := (jx_i σ 144 ((σ.1 106 55)).toNatClampNeg x1)) (by decide +kernel) rfl (fun hC => ?_)
  obtain ⟨hi, h⟩ := jx_ite0_inv h
  refine jE_iast (n := 3000) hC (by decide) rfl hi ?_
  refine jE_blk (bs := [(.aload_n 0, 0, 0), (.dup, 0, 0), (.getfield 389, 12, 55), (.iconst (1), 1, 0), (.iadd, 0, 0), (.putfield 389, 12, 55)]) (i := .return_) (a1 := 0) (a2 := 0) (pc1 := 30) (l1 := [(0, .ref 106), (1, .int x1), (2, .int x2)]) (st1 := []) (σ1 := (jx_i (jx_i (jx_i σ 144 ((σ.1 106 55)).toNatClampNeg x1) 145 ((σ.1 106 55)).toNatClampNeg x2) 106 55 ((σ.1 106 55) + (1 : Int32)))) (by decide +kernel) rfl (fun hC => ?_)
  have h9 := Option.some.inj h
  subst h9
  have e9 : ((none, (jx_i (jx_i (jx_i σ 144 ((σ.1 106 55)).toNatClampNeg x1) 145 ((σ.1 106 55)).toNatClampNeg x2) 106 55 ((σ.1 106 55) + (1 : Int32)))) : Option Value × jx_S) = res := hK
  subst e9
  exact jE_ret hC rfl
def p_r_takes (x1 : Int32) (σ : jx_S) : Option (Int32 × jx_S) := (if x1 < 0 ∨ 3000 ≤ (x1).toNatClampNeg then none else (if ((σ.1 117) (x1).toNatClampNeg) < 0 then (if x1 < 0 ∨ 3000 ≤ (x1).toNatClampNeg then none else (if ((σ.1 123) (x1).toNatClampNeg) < 0 ∨ 40 ≤ (((σ.1 123) (x1).toNatClampNeg)).toNatClampNeg then none else (some ((((σ.1 127) (((σ.1 123) (x1).toNatClampNeg)).toNatClampNeg), σ))))) else (if x1 < 0 ∨ 3000 ≤ (x1).toNatClampNeg then none else (if (((30 : Int32) * (σ.1 106 56)) + ((σ.1 117) (x1).toNatClampNeg)) < 0 ∨ 1200 ≤ ((((30 : Int32) * (σ.1 106 56)) + ((σ.1 117) (x1).toNatClampNeg))).toNatClampNeg then none else (some (((v_r_arity ((σ.1 137) ((((30 : Int32) * (σ.1 106 56)) + ((σ.1 117) (x1).toNatClampNeg))).toNatClampNeg) σ), σ)))))))
theorem x_r_takes (d : Nat) (hd : 1 ≤ d) (x1 : Int32) (σ : jx_S) (t : (Int32 × jx_S)) (res : Option Value × jx_S) (h : p_r_takes x1 σ = some t) (hK : kkI t res) : jE d 182 0 [(0, .ref 106), (1, .int x1)] [] σ res := by
  unfold p_r_takes at h
  refine jE_blk (bs := [(.aload_n 0, 0, 0), (.getfield 44, 12, 16), (.iload_n 1, 0, 0)]) (i := .iaload) (a1 := 0) (a2 := 0) (pc1 := 5) (l1 := [(0, .ref 106), (1, .int x1)]) (st1 := [.int x1, .ref 117]) (σ1 := σ) (by decide +kernel) rfl (fun hC => ?_)
  obtain ⟨hi, h⟩ := jx_ite0_inv h
  refine jE_iald (n := 3000) hC (by decide) rfl hi ?_
  refine jE_blk (bs := []) (i := .ifCond .lt (28)) (a1 := 0) (a2 := 0) (pc1 := 6) (l1 := [(0, .ref 106), (1, .int x1)]) (st1 := [.int ((σ.1 117) (x1).toNatClampNeg)]) (σ1 := σ) (by decide +kernel) rfl (fun hC => ?_)
  rcases Classical.em (((σ.1 117) (x1).toNatClampNeg) < 0) with hc | hc
  · rw [if_pos hc] at h
    refine jE_ifT 34 hC (by decide) hc ?_
    refine jE_blk (bs := [(.aload_n 0, 0, 0), (.getfield 75, 12, 27), (.aload_n 0, 0, 0), (.getfield 62, 12, 22), (.iload_n 1, 0, 0)]) (i := .iaload) (a1 := 0) (a2 := 0) (pc1 := 43) (l1 := [(0, .ref 106), (1, .int x1)]) (st1 := [.int x1, .ref 123, .ref 127]) (σ1 := σ) (by decide +kernel) rfl (fun hC => ?_)
    obtain ⟨hi, h⟩ := jx_ite0_inv h
    refine jE_iald (n := 3000) hC (by decide) rfl hi ?_
    refine jE_blk (bs := []) (i := .iaload) (a1 := 0) (a2 := 0) (pc1 := 44) (l1 := [(0, .ref 106), (1, .int x1)]) (st1 := [.int ((σ.1 123) (x1).toNatClampNeg), .ref 127]) (σ1 := σ) (by decide +kernel) rfl (fun hC => ?_)
    obtain ⟨hi, h⟩ := jx_ite0_inv h
    refine jE_iald (n := 40) hC (by decide) rfl hi ?_
    refine jE_blk (bs := []) (i := .ireturn) (a1 := 0) (a2 := 0) (pc1 := 45) (l1 := [(0, .ref 106), (1, .int x1)]) (st1 := [.int ((σ.1 127) (((σ.1 123) (x1).toNatClampNeg)).toNatClampNeg)]) (σ1 := σ) (by decide +kernel) rfl (fun hC => ?_)
    have h9 := Option.some.inj h
    subst h9
    have e9 : ((some (.int ((σ.1 127) (((σ.1 123) (x1).toNatClampNeg)).toNatClampNeg)), σ) : Option Value × jx_S) = res := hK
    subst e9
    exact jE_ret hC rfl
  · rw [if_neg hc] at h
    refine jE_ifF 34 hC (by decide) hc ?_
    refine jE_blk (bs := [(.aload_n 0, 0, 0), (.getfield 105, 12, 37), (.bipush (30), 30, 0), (.aload_n 0, 0, 0), (.getfield 392, 12, 56), (.imul, 0, 0), (.aload_n 0, 0, 0), (.getfield 44, 12, 16), (.iload_n 1, 0, 0)]) (i := .iaload) (a1 := 0) (a2 := 0) (pc1 := 25) (l1 := [(0, .ref 106), (1, .int x1)]) (st1 := [.int x1, .ref 117, .int ((30 : Int32) * (σ.1 106 56)), .ref 137]) (σ1 := σ) (by decide +kernel) rfl (fun hC => ?_)
    obtain ⟨hi, h⟩ := jx_ite0_inv h
    refine jE_iald (n := 3000) hC (by decide) rfl hi ?_
    refine jE_blk (bs := [(.iadd, 0, 0)]) (i := .iaload) (a1 := 0) (a2 := 0) (pc1 := 27) (l1 := [(0, .ref 106), (1, .int x1)]) (st1 := [.int (((30 : Int32) * (σ.1 106 56)) + ((σ.1 117) (x1).toNatClampNeg)), .ref 137]) (σ1 := σ) (by decide +kernel) rfl (fun hC => ?_)
    obtain ⟨hi, h⟩ := jx_ite0_inv h
    refine jE_iald (n := 1200) hC (by decide) rfl hi ?_
    refine jE_blk (bs := []) (i := .invokestatic 404) (a1 := 177) (a2 := 0) (pc1 := 28) (l1 := [(0, .ref 106), (1, .int x1)]) (st1 := [.int ((σ.1 137) ((((30 : Int32) * (σ.1 106 56)) + ((σ.1 117) (x1).toNatClampNeg))).toNatClampNeg)]) (σ1 := σ) (by decide +kernel) rfl (fun hC => ?_)
    refine jE_call (as := [.int ((σ.1 137) ((((30 : Int32) * (σ.1 106 56)) + ((σ.1 117) (x1).toNatClampNeg))).toNatClampNeg)]) (pc1 := 31) (st1 := []) hC rfl (by decide) (by omega) (xv_r_arity (d - 1) (by omega) ((σ.1 137) ((((30 : Int32) * (σ.1 106 56)) + ((σ.1 117) (x1).toNatClampNeg))).toNatClampNeg) σ) ?_
    refine jE_blk (bs := [(.goto (14), 0, 0)]) (i := .ireturn) (a1 := 0) (a2 := 0) (pc1 := 45) (l1 := [(0, .ref 106), (1, .int x1)]) (st1 := [.int (v_r_arity ((σ.1 137) ((((30 : Int32) * (σ.1 106 56)) + ((σ.1 117) (x1).toNatClampNeg))).toNatClampNeg) σ)]) (σ1 := σ) (by decide +kernel) rfl (fun hC => ?_)
    have h9 := Option.some.inj h
    subst h9
    have e9 : ((some (.int (v_r_arity ((σ.1 137) ((((30 : Int32) * (σ.1 106 56)) + ((σ.1 117) (x1).toNatClampNeg))).toNatClampNeg) σ)), σ) : Option Value × jx_S) = res := hK
    subst e9
    exact jE_ret hC rfl
def p_r_typeOf (x1 : Int32) (x2 : Int32) (σ : jx_S) : Option (Int32 × jx_S) := (if x1 < 0 ∨ 3000 ≤ (x1).toNatClampNeg then none else (if ((σ.1 117) (x1).toNatClampNeg) < 0 then (if x1 < 0 ∨ 3000 ≤ (x1).toNatClampNeg then none else (if ((σ.1 123) (x1).toNatClampNeg) < 0 ∨ 40 ≤ (((σ.1 123) (x1).toNatClampNeg)).toNatClampNeg then none else (if ((σ.1 127) (((σ.1 123) (x1).toNatClampNeg)).toNatClampNeg) ≤ x2 then (if ((σ.1 123) (x1).toNatClampNeg) < 0 ∨ 40 ≤ (((σ.1 123) (x1).toNatClampNeg)).toNatClampNeg then none else (some ((((σ.1 128) (((σ.1 123) (x1).toNatClampNeg)).toNatClampNeg), σ)))) else (if (((8 : Int32) * ((σ.1 123) (x1).toNatClampNeg)) + x2) < 0 ∨ 320 ≤ ((((8 : Int32) * ((σ.1 123) (x1).toNatClampNeg)) + x2)).toNatClampNeg then none else (some ((((σ.1 135) ((((8 : Int32) * ((σ.1 123) (x1).toNatClampNeg)) + x2)).toNatClampNeg), σ))))))) else (if x1 < 0 ∨ 3000 ≤ (x1).toNatClampNeg then none else (if (((30 : Int32) * (σ.1 106 56)) + ((σ.1 117) (x1).toNatClampNeg)) < 0 ∨ 1200 ≤ ((((30 : Int32) * (σ.1 106 56)) + ((σ.1 117) (x1).toNatClampNeg))).toNatClampNeg then none else (some (((v_r_part ((σ.1 137) ((((30 : Int32) * (σ.1 106 56)) + ((σ.1 117) (x1).toNatClampNeg))).toNatClampNeg) x2 σ), σ)))))))
theorem x_r_typeOf (d : Nat) (hd : 1 ≤ d) (x1 : Int32) (x2 : Int32) (σ : jx_S) (t : (Int32 × jx_S)) (res : Option Value × jx_S) (h : p_r_typeOf x1 x2 σ = some t) (hK : kkI t res) : jE d 183 0 [(0, .ref 106), (1, .int x1), (2, .int x2)] [] σ res := by
  unfold p_r_typeOf at h
  refine jE_blk (bs := [(.aload_n 0, 0, 0), (.getfield 44, 12, 16), (.iload_n 1, 0, 0)]) (i := .iaload) (a1 := 0) (a2 := 0) (pc1 := 5) (l1 := [(0, .ref 106), (1, .int x1), (2, .int x2)]) (st1 := [.int x1, .ref 117]) (σ1 := σ) (by decide +kernel) rfl (fun hC => ?_)
  obtain ⟨hi, h⟩ := jx_ite0_inv h
  refine jE_iald (n := 3000) hC (by decide) rfl hi ?_
  refine jE_blk (bs := []) (i := .ifCond .lt (27)) (a1 := 0) (a2 := 0) (pc1 := 6) (l1 := [(0, .ref 106), (1, .int x1), (2, .int x2)]) (st1 := [.int ((σ.1 117) (x1).toNatClampNeg)]) (σ1 := σ) (by decide +kernel) rfl (fun hC => ?_)
  rcases Classical.em (((σ.1 117) (x1).toNatClampNeg) < 0) with hc | hc
  · rw [if_pos hc] at h
    refine jE_ifT 33 hC (by decide) hc ?_
    refine jE_blk (bs := [(.aload_n 0, 0, 0), (.getfield 62, 12, 22), (.iload_n 1, 0, 0)]) (i := .iaload) (a1 := 0) (a2 := 0) (pc1 := 38) (l1 := [(0, .ref 106), (1, .int x1), (2, .int x2)]) (st1 := [.int x1, .ref 123]) (σ1 := σ) (by decide +kernel) rfl (fun hC => ?_)
    obtain ⟨hi, h⟩ := jx_ite0_inv h
    refine jE_iald (n := 3000) hC (by decide) rfl hi ?_
    refine jE_blk (bs := [(.istore_n 3, 4, 0), (.iload_n 2, 0, 0), (.aload_n 0, 0, 0), (.getfield 75, 12, 27), (.iload_n 3, 0, 0)]) (i := .iaload) (a1 := 0) (a2 := 0) (pc1 := 46) (l1 := [(3, .int ((σ.1 123) (x1).toNatClampNeg)), (0, .ref 106), (1, .int x1), (2, .int x2)]) (st1 := [.int ((σ.1 123) (x1).toNatClampNeg), .ref 127, .int x2]) (σ1 := σ) (by decide +kernel) rfl (fun hC => ?_)
    obtain ⟨hi, h⟩ := jx_ite0_inv h
    refine jE_iald (n := 40) hC (by decide) rfl hi ?_
    refine jE_blk (bs := []) (i := .if_icmp .ge (17)) (a1 := 0) (a2 := 0) (pc1 := 47) (l1 := [(3, .int ((σ.1 123) (x1).toNatClampNeg)), (0, .ref 106), (1, .int x1), (2, .int x2)]) (st1 := [.int ((σ.1 127) (((σ.1 123) (x1).toNatClampNeg)).toNatClampNeg), .int x2]) (σ1 := σ) (by decide +kernel) rfl (fun hC => ?_)
    rcases Classical.em (((σ.1 127) (((σ.1 123) (x1).toNatClampNeg)).toNatClampNeg) ≤ x2) with hc | hc
    · rw [if_pos hc] at h
      refine jE_icT 64 hC (by decide) hc ?_
      refine jE_blk (bs := [(.aload_n 0, 0, 0), (.getfield 78, 12, 28), (.iload_n 3, 0, 0)]) (i := .iaload) (a1 := 0) (a2 := 0) (pc1 := 69) (l1 := [(3, .int ((σ.1 123) (x1).toNatClampNeg)), (0, .ref 106), (1, .int x1), (2, .int x2)]) (st1 := [.int ((σ.1 123) (x1).toNatClampNeg), .ref 128]) (σ1 := σ) (by decide +kernel) rfl (fun hC => ?_)
      obtain ⟨hi, h⟩ := jx_ite0_inv h
      refine jE_iald (n := 40) hC (by decide) rfl hi ?_
      refine jE_blk (bs := []) (i := .ireturn) (a1 := 0) (a2 := 0) (pc1 := 70) (l1 := [(3, .int ((σ.1 123) (x1).toNatClampNeg)), (0, .ref 106), (1, .int x1), (2, .int x2)]) (st1 := [.int ((σ.1 128) (((σ.1 123) (x1).toNatClampNeg)).toNatClampNeg)]) (σ1 := σ) (by decide +kernel) rfl (fun hC => ?_)
      have h9 := Option.some.inj h
      subst h9
      have e9 : ((some (.int ((σ.1 128) (((σ.1 123) (x1).toNatClampNeg)).toNatClampNeg)), σ) : Option Value × jx_S) = res := hK
      subst e9
      exact jE_ret hC rfl
    · rw [if_neg hc] at h
      refine jE_icF 64 hC (by decide) hc ?_
      refine jE_blk (bs := [(.aload_n 0, 0, 0), (.getfield 99, 12, 35), (.bipush (8), 8, 0), (.iload_n 3, 0, 0), (.imul, 0, 0), (.iload_n 2, 0, 0), (.iadd, 0, 0)]) (i := .iaload) (a1 := 0) (a2 := 0) (pc1 := 60) (l1 := [(3, .int ((σ.1 123) (x1).toNatClampNeg)), (0, .ref 106), (1, .int x1), (2, .int x2)]) (st1 := [.int (((8 : Int32) * ((σ.1 123) (x1).toNatClampNeg)) + x2), .ref 135]) (σ1 := σ) (by decide +kernel) rfl (fun hC => ?_)
      obtain ⟨hi, h⟩ := jx_ite0_inv h
      refine jE_iald (n := 320) hC (by decide) rfl hi ?_
      refine jE_blk (bs := [(.goto (9), 0, 0)]) (i := .ireturn) (a1 := 0) (a2 := 0) (pc1 := 70) (l1 := [(3, .int ((σ.1 123) (x1).toNatClampNeg)), (0, .ref 106), (1, .int x1), (2, .int x2)]) (st1 := [.int ((σ.1 135) ((((8 : Int32) * ((σ.1 123) (x1).toNatClampNeg)) + x2)).toNatClampNeg)]) (σ1 := σ) (by decide +kernel) rfl (fun hC => ?_)
      have h9 := Option.some.inj h
      subst h9
      have e9 : ((some (.int ((σ.1 135) ((((8 : Int32) * ((σ.1 123) (x1).toNatClampNeg)) + x2)).toNatClampNeg)), σ) : Option Value × jx_S) = res := hK
      subst e9
      exact jE_ret hC rfl
  · rw [if_neg hc] at h
    refine jE_ifF 33 hC (by decide) hc ?_
    refine jE_blk (bs := [(.aload_n 0, 0, 0), (.getfield 105, 12, 37), (.bipush (30), 30, 0), (.aload_n 0, 0, 0), (.getfield 392, 12, 56), (.imul, 0, 0), (.aload_n 0, 0, 0), (.getfield 44, 12, 16), (.iload_n 1, 0, 0)]) (i := .iaload) (a1 := 0) (a2 := 0) (pc1 := 25) (l1 := [(0, .ref 106), (1, .int x1), (2, .int x2)]) (st1 := [.int x1, .ref 117, .int ((30 : Int32) * (σ.1 106 56)), .ref 137]) (σ1 := σ) (by decide +kernel) rfl (fun hC => ?_)
    obtain ⟨hi, h⟩ := jx_ite0_inv h
    refine jE_iald (n := 3000) hC (by decide) rfl hi ?_
    refine jE_blk (bs := [(.iadd, 0, 0)]) (i := .iaload) (a1 := 0) (a2 := 0) (pc1 := 27) (l1 := [(0, .ref 106), (1, .int x1), (2, .int x2)]) (st1 := [.int (((30 : Int32) * (σ.1 106 56)) + ((σ.1 117) (x1).toNatClampNeg)), .ref 137]) (σ1 := σ) (by decide +kernel) rfl (fun hC => ?_)
    obtain ⟨hi, h⟩ := jx_ite0_inv h
    refine jE_iald (n := 1200) hC (by decide) rfl hi ?_
    refine jE_blk (bs := [(.iload_n 2, 0, 0)]) (i := .invokestatic 407) (a1 := 178) (a2 := 0) (pc1 := 29) (l1 := [(0, .ref 106), (1, .int x1), (2, .int x2)]) (st1 := [.int x2, .int ((σ.1 137) ((((30 : Int32) * (σ.1 106 56)) + ((σ.1 117) (x1).toNatClampNeg))).toNatClampNeg)]) (σ1 := σ) (by decide +kernel) rfl (fun hC => ?_)
    refine jE_call (as := [.int ((σ.1 137) ((((30 : Int32) * (σ.1 106 56)) + ((σ.1 117) (x1).toNatClampNeg))).toNatClampNeg), .int x2]) (pc1 := 32) (st1 := []) hC rfl (by decide) (by omega) (xv_r_part (d - 1) (by omega) ((σ.1 137) ((((30 : Int32) * (σ.1 106 56)) + ((σ.1 117) (x1).toNatClampNeg))).toNatClampNeg) x2 σ) ?_
    refine jE_blk (bs := []) (i := .ireturn) (a1 := 0) (a2 := 0) (pc1 := 32) (l1 := [(0, .ref 106), (1, .int x1), (2, .int x2)]) (st1 := [.int (v_r_part ((σ.1 137) ((((30 : Int32) * (σ.1 106 56)) + ((σ.1 117) (x1).toNatClampNeg))).toNatClampNeg) x2 σ)]) (σ1 := σ) (by decide +kernel) rfl (fun hC => ?_)
    have h9 := Option.some.inj h
    subst h9
    have e9 : ((some (.int (v_r_part ((σ.1 137) ((((30 : Int32) * (σ.1 106 56)) + ((σ.1 117) (x1).toNatClampNeg))).toNatClampNeg) x2 σ)), σ) : Option Value × jx_S) = res := hK
    subst e9
    exact jE_ret hC rfl
def p_r_left_69 (x2 : Int32) (x3 : Int32) (x4 : Int32) (x5 : Int32) (y0 : Int32) (σ : jx_S) : Option (Int32 × jx_S) := (if (1 : Int32) < x5 then (some (((-1 : Int32), σ))) else (if y0 ≤ (1 : Int32) then (if ¬ (x2 - x3) = (1 : Int32) then (some ((((((6 : Int32) + ((4 : Int32) * x5)) + ((2 : Int32) * y0)) + x4), σ))) else (some (((((2 : Int32) + ((2 : Int32) * x5)) + x4), σ)))) else (some (((-1 : Int32), σ)))))
theorem x_r_left_69 (d : Nat) (hd : 2 ≤ d) (x2 : Int32) (x3 : Int32) (x4 : Int32) (x5 : Int32) (y0 : Int32) (σ : jx_S) (t : (Int32 × jx_S)) (res : Option Value × jx_S) (h : p_r_left_69 x2 x3 x4 x5 y0 σ = some t) (hK : kkI t res) : jE d 184 69 [(2, .int x2), (3, .int x3), (4, .int x4), (5, .int x5)] [.int y0] σ res := by
  unfold p_r_left_69 at h
  refine jE_blk (bs := [(.istore 6, 7, 0), (.iload 5, 0, 0), (.iconst (1), 1, 0)]) (i := .if_icmp .gt (9)) (a1 := 0) (a2 := 0) (pc1 := 74) (l1 := [(6, .int y0), (2, .int x2), (3, .int x3), (4, .int x4), (5, .int x5)]) (st1 := [.int (1 : Int32), .int x5]) (σ1 := σ) (by decide +kernel) rfl (fun hC => ?_)
  rcases Classical.em ((1 : Int32) < x5) with hc | hc
  · rw [if_pos hc] at h
    refine jE_icT 83 hC (by decide) hc ?_
    refine jE_blk (bs := [(.iconst (-1), 1, 1)]) (i := .ireturn) (a1 := 0) (a2 := 0) (pc1 := 84) (l1 := [(6, .int y0), (2, .int x2), (3, .int x3), (4, .int x4), (5, .int x5)]) (st1 := [.int (-1 : Int32)]) (σ1 := σ) (by decide +kernel) rfl (fun hC => ?_)
    have h9 := Option.some.inj h
    subst h9
    have e9 : ((some (.int (-1 : Int32)), σ) : Option Value × jx_S) = res := hK
    subst e9
    exact jE_ret hC rfl
  · rw [if_neg hc] at h
    refine jE_icF 83 hC (by decide) hc ?_
    refine jE_blk (bs := [(.iload 6, 0, 0), (.iconst (1), 1, 0)]) (i := .if_icmp .le (5)) (a1 := 0) (a2 := 0) (pc1 := 80) (l1 := [(6, .int y0), (2, .int x2), (3, .int x3), (4, .int x4), (5, .int x5)]) (st1 := [.int (1 : Int32), .int y0]) (σ1 := σ) (by decide +kernel) rfl (fun hC => ?_)
    rcases Classical.em (y0 ≤ (1 : Int32)) with hc | hc
    · rw [if_pos hc] at h
      refine jE_icT 85 hC (by decide) hc ?_
      refine jE_blk (bs := [(.iload_n 2, 0, 0), (.iload_n 3, 0, 0), (.isub, 0, 0), (.iconst (1), 1, 0)]) (i := .if_icmp .ne (15)) (a1 := 0) (a2 := 0) (pc1 := 89) (l1 := [(6, .int y0), (2, .int x2), (3, .int x3), (4, .int x4), (5, .int x5)]) (st1 := [.int (1 : Int32), .int (x2 - x3)]) (σ1 := σ) (by decide +kernel) rfl (fun hC => ?_)
      rcases Classical.em (¬ (x2 - x3) = (1 : Int32)) with hc | hc
      · rw [if_pos hc] at h
        refine jE_icT 104 hC (by decide) hc ?_
        refine jE_blk (bs := [(.bipush (6), 6, 0), (.iconst (4), 4, 0), (.iload 5, 0, 0), (.imul, 0, 0), (.iadd, 0, 0), (.iconst (2), 2, 0), (.iload 6, 0, 0), (.imul, 0, 0), (.iadd, 0, 0), (.iload 4, 0, 0), (.iadd, 0, 0)]) (i := .ireturn) (a1 := 0) (a2 := 0) (pc1 := 119) (l1 := [(6, .int y0), (2, .int x2), (3, .int x3), (4, .int x4), (5, .int x5)]) (st1 := [.int ((((6 : Int32) + ((4 : Int32) * x5)) + ((2 : Int32) * y0)) + x4)]) (σ1 := σ) (by decide +kernel) rfl (fun hC => ?_)
        have h9 := Option.some.inj h
        subst h9
        have e9 : ((some (.int ((((6 : Int32) + ((4 : Int32) * x5)) + ((2 : Int32) * y0)) + x4)), σ) : Option Value × jx_S) = res := hK
        subst e9
        exact jE_ret hC rfl
      · rw [if_neg hc] at h
        refine jE_icF 104 hC (by decide) hc ?_
        refine jE_blk (bs := [(.iconst (2), 2, 0), (.iconst (2), 2, 0), (.iload 5, 0, 0), (.imul, 0, 0), (.iadd, 0, 0), (.iload 4, 0, 0), (.iadd, 0, 0), (.goto (18), 0, 0)]) (i := .ireturn) (a1 := 0) (a2 := 0) (pc1 := 119) (l1 := [(6, .int y0), (2, .int x2), (3, .int x3), (4, .int x4), (5, .int x5)]) (st1 := [.int (((2 : Int32) + ((2 : Int32) * x5)) + x4)]) (σ1 := σ) (by decide +kernel) rfl (fun hC => ?_)
        have h9 := Option.some.inj h
        subst h9
        have e9 : ((some (.int (((2 : Int32) + ((2 : Int32) * x5)) + x4)), σ) : Option Value × jx_S) = res := hK
        subst e9
        exact jE_ret hC rfl
    · rw [if_neg hc] at h
      refine jE_icF 85 hC (by decide) hc ?_
      refine jE_blk (bs := [(.iconst (-1), 1, 1)]) (i := .ireturn) (a1 := 0) (a2 := 0) (pc1 := 84) (l1 := [(6, .int y0), (2, .int x2), (3, .int x3), (4, .int x4), (5, .int x5)]) (st1 := [.int (-1 : Int32)]) (σ1 := σ) (by decide +kernel) rfl (fun hC => ?_)
      have h9 := Option.some.inj h
      subst h9
      have e9 : ((some (.int (-1 : Int32)), σ) : Option Value × jx_S) = res := hK
      subst e9
      exact jE_ret hC rfl
def p_r_left_48 (x1 : Int32) (x2 : Int32) (x3 : Int32) (x4 : Int32) (y0 : Int32) (σ : jx_S) : Option (Int32 × jx_S) := (if ¬ (x2 - x3) = (2 : Int32) then (p_r_left_69 x2 x3 x4 y0 (0 : Int32) σ) else ((p_r_typeOf x1 (x3 + (1 : Int32)) σ).bind fun q3 => (p_r_left_69 x2 x3 x4 y0 q3.1 q3.2)))
theorem x_r_left_48 (d : Nat) (hd : 2 ≤ d) (x1 : Int32) (x2 : Int32) (x3 : Int32) (x4 : Int32) (y0 : Int32) (σ : jx_S) (t : (Int32 × jx_S)) (res : Option Value × jx_S) (h : p_r_left_48 x1 x2 x3 x4 y0 σ = some t) (hK : kkI t res) : jE d 184 48 [(0, .ref 106), (1, .int x1), (2, .int x2), (3, .int x3), (4, .int x4)] [.int y0] σ res := by
  unfold p_r_left_48 at h
  refine jE_blk (bs := [(.istore 5, 7, 0), (.iload_n 2, 0, 0), (.iload_n 3, 0, 0), (.isub, 0, 0), (.iconst (2), 2, 0)]) (i := .if_icmp .ne (14)) (a1 := 0) (a2 := 0) (pc1 := 54) (l1 := [(5, .int y0), (0, .ref 106), (1, .int x1), (2, .int x2), (3, .int x3), (4, .int x4)]) (st1 := [.int (2 : Int32), .int (x2 - x3)]) (σ1 := σ) (by decide +kernel) rfl (fun hC => ?_)
  rcases Classical.em (¬ (x2 - x3) = (2 : Int32)) with hc | hc
  · rw [if_pos hc] at h
    refine jE_icT 68 hC (by decide) hc ?_
    refine jE_blk (bs := [(.iconst (0), 0, 0)]) (i := .istore 6) (a1 := 7) (a2 := 0) (pc1 := 69) (l1 := [(5, .int y0), (0, .ref 106), (1, .int x1), (2, .int x2), (3, .int x3), (4, .int x4)]) (st1 := [.int (0 : Int32)]) (σ1 := σ) (by decide +kernel) rfl (fun hC => ?_)
    exact jE_loc (l := [(2, .int x2), (3, .int x3), (4, .int x4), (5, .int y0)]) (ks := [2, 3, 4, 5]) rfl (by decide) ⟨rfl, rfl, rfl, rfl, trivial⟩ (x_r_left_69 d hd x2 x3 x4 y0 (0 : Int32) σ _ res h hK)
  · rw [if_neg hc] at h
    refine jE_icF 68 hC (by decide) hc ?_
    refine jE_blk (bs := [(.aload_n 0, 0, 0), (.iload_n 1, 0, 0), (.iload_n 3, 0, 0), (.iconst (1), 1, 0), (.iadd, 0, 0)]) (i := .invokevirtual 413) (a1 := 183) (a2 := 0) (pc1 := 62) (l1 := [(5, .int y0), (0, .ref 106), (1, .int x1), (2, .int x2), (3, .int x3), (4, .int x4)]) (st1 := [.int (x3 + (1 : Int32)), .int x1, .ref 106]) (σ1 := σ) (by decide +kernel) rfl (fun hC => ?_)
    obtain ⟨q3, hq, h⟩ := Option.bind_eq_some_iff.mp h
    refine jE_call (as := [.ref 106, .int x1, .int (x3 + (1 : Int32))]) (pc1 := 65) (st1 := []) hC rfl (by decide) (by omega) (x_r_typeOf (d - 1) (by omega) x1 (x3 + (1 : Int32)) σ q3 (some (.int q3.1), q3.2) hq rfl) ?_
    refine jE_blk (bs := [(.goto (4), 0, 0)]) (i := .istore 6) (a1 := 7) (a2 := 0) (pc1 := 69) (l1 := [(5, .int y0), (0, .ref 106), (1, .int x1), (2, .int x2), (3, .int x3), (4, .int x4)]) (st1 := [.int q3.1]) (σ1 := q3.2) (by decide +kernel) rfl (fun hC => ?_)
    exact jE_loc (l := [(2, .int x2), (3, .int x3), (4, .int x4), (5, .int y0)]) (ks := [2, 3, 4, 5]) rfl (by decide) ⟨rfl, rfl, rfl, rfl, trivial⟩ (x_r_left_69 d hd x2 x3 x4 y0 q3.1 q3.2 _ res h hK)
def p_r_left (x1 : Int32) (σ : jx_S) : Option (Int32 × jx_S) := ((p_r_takes x1 σ).bind fun q1 => (if x1 < 0 ∨ 3000 ≤ (x1).toNatClampNeg then none else ((p_r_typeOf x1 q1.1 q1.2).bind fun q2 => (if ¬ (q1.1 - ((q1.2.1 119) (x1).toNatClampNeg)) = 0 then (if (3 : Int32) ≤ (q1.1 - ((q1.2.1 119) (x1).toNatClampNeg)) then (p_r_left_48 x1 q1.1 ((q1.2.1 119) (x1).toNatClampNeg) q2.1 (9 : Int32) q2.2) else ((p_r_typeOf x1 ((q1.2.1 119) (x1).toNatClampNeg) q2.2).bind fun q4 => (p_r_left_48 x1 q1.1 ((q1.2.1 119) (x1).toNatClampNeg) q2.1 q4.1 q4.2))) else (some ((q2.1, q2.2)))))))
theorem x_r_left (d : Nat) (hd : 2 ≤ d) (x1 : Int32) (σ : jx_S) (t : (Int32 × jx_S)) (res : Option Value × jx_S) (h : p_r_left x1 σ = some t) (hK : kkI t res) : jE d 184 0 [(0, .ref 106), (1, .int x1)] [] σ res := by
  unfold p_r_left at h
  refine jE_blk (bs := [(.aload_n 0, 0, 0), (.iload_n 1, 0, 0)]) (i := .invokevirtual 410) (a1 := 182) (a2 := 0) (pc1 := 2) (l1 := [(0, .ref 106), (1, .int x1)]) (st1 := [.int x1, .ref 106]) (σ1 := σ) (by decide +kernel) rfl (fun hC => ?_)
  obtain ⟨q1, hq, h⟩ := Option.bind_eq_some_iff.mp h
  refine jE_call (as := [.ref 106, .int x1]) (pc1 := 5) (st1 := []) hC rfl (by decide) (by omega) (x_r_takes (d - 1) (by omega) x1 σ q1 (some (.int q1.1), q1.2) hq rfl) ?_
  refine jE_blk (bs := [(.istore_n 2, 7, 0), (.aload_n 0, 0, 0), (.getfield 50, 12, 18), (.iload_n 1, 0, 0)]) (i := .iaload) (a1 := 0) (a2 := 0) (pc1 := 11) (l1 := [(2, .int q1.1), (0, .ref 106), (1, .int x1)]) (st1 := [.int x1, .ref 119]) (σ1 := q1.2) (by decide +kernel) rfl (fun hC => ?_)
  obtain ⟨hi, h⟩ := jx_ite0_inv h
  refine jE_iald (n := 3000) hC (by decide) rfl hi ?_
  refine jE_blk (bs := [(.istore_n 3, 7, 0), (.aload_n 0, 0, 0), (.iload_n 1, 0, 0), (.iload_n 2, 0, 0)]) (i := .invokevirtual 413) (a1 := 183) (a2 := 0) (pc1 := 16) (l1 := [(3, .int ((q1.2.1 119) (x1).toNatClampNeg)), (2, .int q1.1), (0, .ref 106), (1, .int x1)]) (st1 := [.int q1.1, .int x1, .ref 106]) (σ1 := q1.2) (by decide +kernel) rfl (fun hC => ?_)
  obtain ⟨q2, hq, h⟩ := Option.bind_eq_some_iff.mp h
  refine jE_call (as := [.ref 106, .int x1, .int q1.1]) (pc1 := 19) (st1 := []) hC rfl (by decide) (by omega) (x_r_typeOf (d - 1) (by omega) x1 q1.1 q1.2 q2 (some (.int q2.1), q2.2) hq rfl) ?_
  refine jE_blk (bs := [(.istore 4, 7, 0), (.iload_n 2, 0, 0), (.iload_n 3, 0, 0), (.isub, 0, 0)]) (i := .ifCond .ne (6)) (a1 := 0) (a2 := 0) (pc1 := 24) (l1 := [(4, .int q2.1), (3, .int ((q1.2.1 119) (x1).toNatClampNeg)), (2, .int q1.1), (0, .ref 106), (1, .int x1)]) (st1 := [.int (q1.1 - ((q1.2.1 119) (x1).toNatClampNeg))]) (σ1 := q2.2) (by decide +kernel) rfl (fun hC => ?_)
  rcases Classical.em (¬ (q1.1 - ((q1.2.1 119) (x1).toNatClampNeg)) = 0) with hc | hc
  · rw [if_pos hc] at h
    refine jE_ifT 30 hC (by decide) hc ?_
    refine jE_blk (bs := [(.iload_n 2, 0, 0), (.iload_n 3, 0, 0), (.isub, 0, 0), (.iconst (3), 3, 0)]) (i := .if_icmp .ge (12)) (a1 := 0) (a2 := 0) (pc1 := 34) (l1 := [(4, .int q2.1), (3, .int ((q1.2.1 119) (x1).toNatClampNeg)), (2, .int q1.1), (0, .ref 106), (1, .int x1)]) (st1 := [.int (3 : Int32), .int (q1.1 - ((q1.2.1 119) (x1).toNatClampNeg))]) (σ1 := q2.2) (by decide +kernel) rfl (fun hC => ?_)
    rcases Classical.em ((3 : Int32) ≤ (q1.1 - ((q1.2.1 119) (x1).toNatClampNeg))) with hc | hc
    · rw [if_pos hc] at h
      refine jE_icT 46 hC (by decide) hc ?_
      refine jE_blk (bs := [(.bipush (9), 9, 0)]) (i := .istore 5) (a1 := 7) (a2 := 0) (pc1 := 48) (l1 := [(4, .int q2.1), (3, .int ((q1.2.1 119) (x1).toNatClampNeg)), (2, .int q1.1), (0, .ref 106), (1, .int x1)]) (st1 := [.int (9 : Int32)]) (σ1 := q2.2) (by decide +kernel) rfl (fun hC => ?_)
      exact jE_loc (l := [(0, .ref 106), (1, .int x1), (2, .int q1.1), (3, .int ((q1.2.1 119) (x1).toNatClampNeg)), (4, .int q2.1)]) (ks := [0, 1, 2, 3, 4]) rfl (by decide) ⟨rfl, rfl, rfl, rfl, rfl, trivial⟩ (x_r_left_48 d hd x1 q1.1 ((q1.2.1 119) (x1).toNatClampNeg) q2.1 (9 : Int32) q2.2 _ res h hK)
    · rw [if_neg hc] at h
      refine jE_icF 46 hC (by decide) hc ?_
      refine jE_blk (bs := [(.aload_n 0, 0, 0), (.iload_n 1, 0, 0), (.iload_n 3, 0, 0)]) (i := .invokevirtual 413) (a1 := 183) (a2 := 0) (pc1 := 40) (l1 := [(4, .int q2.1), (3, .int ((q1.2.1 119) (x1).toNatClampNeg)), (2, .int q1.1), (0, .ref 106), (1, .int x1)]) (st1 := [.int ((q1.2.1 119) (x1).toNatClampNeg), .int x1, .ref 106]) (σ1 := q2.2) (by decide +kernel) rfl (fun hC => ?_)
      obtain ⟨q4, hq, h⟩ := Option.bind_eq_some_iff.mp h
      refine jE_call (as := [.ref 106, .int x1, .int ((q1.2.1 119) (x1).toNatClampNeg)]) (pc1 := 43) (st1 := []) hC rfl (by decide) (by omega) (x_r_typeOf (d - 1) (by omega) x1 ((q1.2.1 119) (x1).toNatClampNeg) q2.2 q4 (some (.int q4.1), q4.2) hq rfl) ?_
      refine jE_blk (bs := [(.goto (5), 0, 0)]) (i := .istore 5) (a1 := 7) (a2 := 0) (pc1 := 48) (l1 := [(4, .int q2.1), (3, .int ((q1.2.1 119) (x1).toNatClampNeg)), (2, .int q1.1), (0, .ref 106), (1, .int x1)]) (st1 := [.int q4.1]) (σ1 := q4.2) (by decide +kernel) rfl (fun hC => ?_)
      exact jE_loc (l := [(0, .ref 106), (1, .int x1), (2, .int q1.1), (3, .int ((q1.2.1 119) (x1).toNatClampNeg)), (4, .int q2.1)]) (ks := [0, 1, 2, 3, 4]) rfl (by decide) ⟨rfl, rfl, rfl, rfl, rfl, trivial⟩ (x_r_left_48 d hd x1 q1.1 ((q1.2.1 119) (x1).toNatClampNeg) q2.1 q4.1 q4.2 _ res h hK)
  · rw [if_neg hc] at h
    refine jE_ifF 30 hC (by decide) hc ?_
    refine jE_blk (bs := [(.iload 4, 0, 0)]) (i := .ireturn) (a1 := 0) (a2 := 0) (pc1 := 29) (l1 := [(4, .int q2.1), (3, .int ((q1.2.1 119) (x1).toNatClampNeg)), (2, .int q1.1), (0, .ref 106), (1, .int x1)]) (st1 := [.int q2.1]) (σ1 := q2.2) (by decide +kernel) rfl (fun hC => ?_)
    have h9 := Option.some.inj h
    subst h9
    have e9 : ((some (.int q2.1), q2.2) : Option Value × jx_S) = res := hK
    subst e9
    exact jE_ret hC rfl
