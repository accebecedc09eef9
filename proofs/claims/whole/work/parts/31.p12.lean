def p_r_checkName_77 (x3 : Int32) (σ : jx_S) : Option (Int32 × jx_S) := ((p_r_fails (7 : Int32) x3 σ).bind fun q2 => (if q2.1 = 0 ∨ q2.1 = 1 then (some ((q2.1, q2.2))) else none))
theorem x_r_checkName_77 (d : Nat) (hd : 3 ≤ d) (x3 : Int32) (σ : jx_S) (t : (Int32 × jx_S)) (res : Option Value × jx_S) (h : p_r_checkName_77 x3 σ = some t) (hK : kkI t res) : jE d 185 77 [(0, .ref 106), (3, .int x3)] [] σ res := by
  unfold p_r_checkName_77 at h
  refine jE_blk (bs := [(.aload_n 0, 0, 0), (.bipush (7), 7, 0), (.iload_n 3, 0, 0)]) (i := .invokevirtual 296) (a1 := 146) (a2 := 0) (pc1 := 81) (l1 := [(0, .ref 106), (3, .int x3)]) (st1 := [.int x3, .int (7 : Int32), .ref 106]) (σ1 := σ) (by decide +kernel) rfl (fun hC => ?_)
  obtain ⟨q2, hq, h⟩ := Option.bind_eq_some_iff.mp h
  refine jE_call (as := [.ref 106, .int (7 : Int32), .int x3]) (pc1 := 84) (st1 := []) hC rfl (by decide) (by omega) (x_r_fails (d - 1) (by omega) (7 : Int32) x3 σ q2 (some (.int q2.1), q2.2) hq rfl) ?_
  refine jE_blk (bs := []) (i := .ireturn) (a1 := 1) (a2 := 0) (pc1 := 84) (l1 := [(0, .ref 106), (3, .int x3)]) (st1 := [.int q2.1]) (σ1 := q2.2) (by decide +kernel) rfl (fun hC => ?_)
  obtain ⟨hb, h⟩ := jx_ite_inv h
  have h9 := Option.some.inj h
  subst h9
  have e9 : ((some (.int q2.1), q2.2) : Option Value × jx_S) = res := hK
  subst e9
  exact jE_bret hC hb
def kk_r_checkName_117 (d : Nat) (t : ((Int32 × Int32 × Int32 × Int32 × jx_S) ⊕ (Int32 × jx_S))) (res : Option Value × jx_S) : Prop := match t with
  | .inl s => jE d 185 117 [(0, .ref 106), (1, .int s.1), (4, .int s.2.1), (5, .int s.2.2.1), (6, .int s.2.2.2.1)] [] s.2.2.2.2 res
  | .inr t => kkI t res
def p_r_checkName_117_s (x1 : Int32) (x4 : Int32) (x5 : Int32) (x6 : Int32) (σ : jx_S) : Option ((Int32 × Int32 × Int32 × Int32 × jx_S) ⊕ (Int32 × jx_S)) := (if x1 < 0 ∨ 3000 ≤ (x1).toNatClampNeg then none else (if ((σ.1 119) (x1).toNatClampNeg) ≤ x6 then (Option.map Sum.inr (some (((1 : Int32), σ)))) else (if x1 < 0 ∨ 3000 ≤ (x1).toNatClampNeg then none else (if (((x4 + ((σ.1 119) (x1).toNatClampNeg)) - (1 : Int32)) - x6) < 0 ∨ 3000 ≤ ((((x4 + ((σ.1 119) (x1).toNatClampNeg)) - (1 : Int32)) - x6)).toNatClampNeg then none else (if x1 < 0 ∨ 3000 ≤ (x1).toNatClampNeg then none else ((p_r_typeOf x1 x6 (jx_i σ 144 ((((x4 + ((σ.1 119) (x1).toNatClampNeg)) - (1 : Int32)) - x6)).toNatClampNeg x5)).bind fun q5 => (if (((x4 + ((σ.1 119) (x1).toNatClampNeg)) - (1 : Int32)) - x6) < 0 ∨ 3000 ≤ ((((x4 + ((σ.1 119) (x1).toNatClampNeg)) - (1 : Int32)) - x6)).toNatClampNeg then none else (if x5 < 0 ∨ 3000 ≤ (x5).toNatClampNeg then none else (some (.inl (x1, x4, ((q5.2.1 120) (x5).toNatClampNeg), (x6 + 1), (jx_i q5.2 145 ((((x4 + ((σ.1 119) (x1).toNatClampNeg)) - (1 : Int32)) - x6)).toNatClampNeg q5.1))))))))))))
theorem x_r_checkName_117_s (d : Nat) (hd : 3 ≤ d) (x1 : Int32) (x4 : Int32) (x5 : Int32) (x6 : Int32) (σ : jx_S) (t : ((Int32 × Int32 × Int32 × Int32 × jx_S) ⊕ (Int32 × jx_S))) (res : Option Value × jx_S) (h : p_r_checkName_117_s x1 x4 x5 x6 σ = some t) (hK : kk_r_checkName_117 d t res) : jE d 185 117 [(0, .ref 106), (1, .int x1), (4, .int x4), (5, .int x5), (6, .int x6)] [] σ res := by
  unfold p_r_checkName_117_s at h
  refine jE_blk (bs := [(.iload 6, 0, 0), (.aload_n 0, 0, 0), (.getfield 50, 12, 18), (.iload_n 1, 0, 0)]) (i := .iaload) (a1 := 0) (a2 := 0) (pc1 := 124) (l1 := [(0, .ref 106), (1, .int x1), (4, .int x4), (5, .int x5), (6, .int x6)]) (st1 := [.int x1, .ref 119, .int x6]) (σ1 := σ) (by decide +kernel) rfl (fun hC => ?_)
  obtain ⟨hi, h⟩ := jx_ite0_inv h
  refine jE_iald (n := 3000) hC (by decide) rfl hi ?_
  refine jE_blk (bs := []) (i := .if_icmp .ge (65)) (a1 := 0) (a2 := 0) (pc1 := 125) (l1 := [(0, .ref 106), (1, .int x1), (4, .int x4), (5, .int x5), (6, .int x6)]) (st1 := [.int ((σ.1 119) (x1).toNatClampNeg), .int x6]) (σ1 := σ) (by decide +kernel) rfl (fun hC => ?_)
  rcases Classical.em (((σ.1 119) (x1).toNatClampNeg) ≤ x6) with hc | hc
  · rw [if_pos hc] at h
    refine jE_icT 190 hC (by decide) hc ?_
    obtain ⟨t9_4, h9_4, h8_4⟩ := Option.map_eq_some_iff.mp h
    clear h
    subst h8_4
    have h := h9_4
    clear h9_4
    refine jE_blk (bs := [(.iconst (1), 1, 0)]) (i := .ireturn) (a1 := 1) (a2 := 0) (pc1 := 191) (l1 := [(0, .ref 106), (1, .int x1), (4, .int x4), (5, .int x5), (6, .int x6)]) (st1 := [.int (1 : Int32)]) (σ1 := σ) (by decide +kernel) rfl (fun hC => ?_)
    have h9 := Option.some.inj h
    subst h9
    have e9 : ((some (.int (1 : Int32)), σ) : Option Value × jx_S) = res := hK
    subst e9
    exact jE_ret hC rfl
  · rw [if_neg hc] at h
    refine jE_icF 190 hC (by decide) hc ?_
    refine jE_blk (bs := [(.aload_n 0, 0, 0), (.getfield 126, 12, 53), (.iload 4, 0, 0), (.aload_n 0, 0, 0), (.getfield 50, 12, 18), (.iload_n 1, 0, 0)]) (i := .iaload) (a1 := 0) (a2 := 0) (pc1 := 139) (l1 := [(0, .ref 106), (1, .int x1), (4, .int x4), (5, .int x5), (6, .int x6)]) (st1 := [.int x1, .ref 119, .int x4, .ref 144]) (σ1 := σ) (by decide +kernel) rfl (fun hC => ?_)
    obtain ⟨hi, h⟩ := jx_ite0_inv h
    refine jE_iald (n := 3000) hC (by decide) rfl hi ?_
    refine jE_blk (bs := [(.iadd, 0, 0), (.iconst (1), 1, 0), (.isub, 0, 0), (.iload 6, 0, 0), (.isub, 0, 0), (.iload 5, 0, 0)]) (i := .iastore) (a1 := 0) (a2 := 0) (pc1 := 148) (l1 := [(0, .ref 106), (1, .int x1), (4, .int x4), (5, .int x5), (6, .int x6)]) (st1 := [.int x5, .int (((x4 + ((σ.1 119) (x1).toNatClampNeg)) - (1 : Int32)) - x6), .ref 144]) (σ1 := σ) (by decide +kernel) rfl (fun hC => ?_)
    obtain ⟨hi, h⟩ := jx_ite0_inv h
    refine jE_iast (n := 3000) hC (by decide) rfl hi ?_
    refine jE_blk (bs := [(.aload_n 0, 0, 0), (.getfield 129, 12, 54), (.iload 4, 0, 0), (.aload_n 0, 0, 0), (.getfield 50, 12, 18), (.iload_n 1, 0, 0)]) (i := .iaload) (a1 := 0) (a2 := 0) (pc1 := 160) (l1 := [(0, .ref 106), (1, .int x1), (4, .int x4), (5, .int x5), (6, .int x6)]) (st1 := [.int x1, .ref 119, .int x4, .ref 145]) (σ1 := (jx_i σ 144 ((((x4 + ((σ.1 119) (x1).toNatClampNeg)) - (1 : Int32)) - x6)).toNatClampNeg x5)) (by decide +kernel) rfl (fun hC => ?_)
    obtain ⟨hi, h⟩ := jx_ite0_inv h
    refine jE_iald (n := 3000) hC (by decide) rfl hi ?_
    refine jE_blk (bs := [(.iadd, 0, 0), (.iconst (1), 1, 0), (.isub, 0, 0), (.iload 6, 0, 0), (.isub, 0, 0), (.aload_n 0, 0, 0), (.iload_n 1, 0, 0), (.iload 6, 0, 0)]) (i := .invokevirtual 413) (a1 := 183) (a2 := 0) (pc1 := 171) (l1 := [(0, .ref 106), (1, .int x1), (4, .int x4), (5, .int x5), (6, .int x6)]) (st1 := [.int x6, .int x1, .ref 106, .int (((x4 + ((σ.1 119) (x1).toNatClampNeg)) - (1 : Int32)) - x6), .ref 145]) (σ1 := (jx_i σ 144 ((((x4 + ((σ.1 119) (x1).toNatClampNeg)) - (1 : Int32)) - x6)).toNatClampNeg x5)) (by decide +kernel) rfl (fun hC => ?_)
    obtain ⟨q5, hq, h⟩ := Option.bind_eq_some_iff.mp h
    refine jE_call (as := [.ref 106, .int x1, .int x6]) (pc1 := 174) (st1 := [.int (((x4 + ((σ.1 119) (x1).toNatClampNeg)) - (1 : Int32)) - x6), .ref 145]) hC rfl (by decide) (by omega) (x_r_typeOf (d - 1) (by omega) x1 x6 (jx_i σ 144 ((((x4 + ((σ.1 119) (x1).toNatClampNeg)) - (1 : Int32)) - x6)).toNatClampNeg x5) q5 (some (.int q5.1), q5.2) hq rfl) ?_
    refine jE_blk (bs := []) (i := .iastore) (a1 := 0) (a2 := 0) (pc1 := 174) (l1 := [(0, .ref 106), (1, .int x1), (4, .int x4), (5, .int x5), (6, .int x6)]) (st1 := [.int q5.1, .int (((x4 + ((σ.1 119) (x1).toNatClampNeg)) - (1 : Int32)) - x6), .ref 145]) (σ1 := q5.2) (by decide +kernel) rfl (fun hC => ?_)
    obtain ⟨hi, h⟩ := jx_ite0_inv h
    refine jE_iast (n := 3000) hC (by decide) rfl hi ?_
    refine jE_blk (bs := [(.aload_n 0, 0, 0), (.getfield 53, 12, 19), (.iload 5, 0, 0)]) (i := .iaload) (a1 := 0) (a2 := 0) (pc1 := 181) (l1 := [(0, .ref 106), (1, .int x1), (4, .int x4), (5, .int x5), (6, .int x6)]) (st1 := [.int x5, .ref 120]) (σ1 := (jx_i q5.2 145 ((((x4 + ((σ.1 119) (x1).toNatClampNeg)) - (1 : Int32)) - x6)).toNatClampNeg q5.1)) (by decide +kernel) rfl (fun hC => ?_)
    obtain ⟨hi, h⟩ := jx_ite0_inv h
    refine jE_iald (n := 3000) hC (by decide) rfl hi ?_
    refine jE_blk (bs := [(.istore 5, 7, 0), (.iinc 6 (1), 7, 2), (.goto (-70), 0, 0)]) (i := .iload 6) (a1 := 0) (a2 := 0) (pc1 := 117) (l1 := [(6, .int (x6 + 1)), (5, .int ((q5.2.1 120) (x5).toNatClampNeg)), (0, .ref 106), (1, .int x1), (4, .int x4)]) (st1 := []) (σ1 := (jx_i q5.2 145 ((((x4 + ((σ.1 119) (x1).toNatClampNeg)) - (1 : Int32)) - x6)).toNatClampNeg q5.1)) (by decide +kernel) rfl (fun hC => ?_)
    have h9 := Option.some.inj h
    subst h9
    exact jE_loc (l := [(0, .ref 106), (1, .int x1), (4, .int x4), (5, .int ((q5.2.1 120) (x5).toNatClampNeg)), (6, .int (x6 + 1))]) (ks := [0, 1, 4, 5, 6]) rfl (by decide) ⟨rfl, rfl, rfl, rfl, rfl, trivial⟩ hK
def p_r_checkName_117 (x1 : Int32) (x4 : Int32) (x5 : Int32) (x6 : Int32) (σ : jx_S) : Option (Int32 × jx_S) := jx_loop 100000000 (fun s => p_r_checkName_117_s s.1 s.2.1 s.2.2.1 s.2.2.2.1 (s.2.2.2.2)) (x1, x4, x5, x6, σ)
theorem x_r_checkName_117 (d : Nat) (hd : 3 ≤ d) (x1 : Int32) (x4 : Int32) (x5 : Int32) (x6 : Int32) (σ : jx_S) (t : (Int32 × jx_S)) (res : Option Value × jx_S) (h : p_r_checkName_117 x1 x4 x5 x6 σ = some t) (hK : kkI t res) : jE d 185 117 [(0, .ref 106), (1, .int x1), (4, .int x4), (5, .int x5), (6, .int x6)] [] σ res := by
  refine jx_loop_ok (E := fun s t => ∀ res, kkI t res → jE d 185 117 [(0, .ref 106), (1, .int s.1), (4, .int s.2.1), (5, .int s.2.2.1), (6, .int s.2.2.2.1)] [] s.2.2.2.2 res) (fun s t hs => ?_) _ _ _ h res hK
  cases t with
  | inl s1 => exact fun b hb res hk => x_r_checkName_117_s d hd (s.1) (s.2.1) (s.2.2.1) (s.2.2.2.1) (s.2.2.2.2) _ res hs (hb res hk)
  | inr b => exact fun res hk => x_r_checkName_117_s d hd (s.1) (s.2.1) (s.2.2.1) (s.2.2.2.1) (s.2.2.2.2) _ res hs hk
def p_r_checkName_54 (x1 : Int32) (x2 : Int32) (x3 : Int32) (σ : jx_S) : Option (Int32 × jx_S) := (if x1 < 0 ∨ 3000 ≤ (x1).toNatClampNeg then none else ((p_r_takes x1 σ).bind fun q1 => (if q1.1 < ((σ.1 119) (x1).toNatClampNeg) then (p_r_checkName_77 x3 q1.2) else ((p_r_left x1 q1.2).bind fun q3 => (if q3.1 = x2 then (if x1 < 0 ∨ 3000 ≤ (x1).toNatClampNeg then none else (if x1 < 0 ∨ 3000 ≤ (x1).toNatClampNeg then none else (p_r_checkName_117 x1 (q3.2.1 106 55) ((q3.2.1 114) (x1).toNatClampNeg) (0 : Int32) (jx_i q3.2 106 55 ((q3.2.1 106 55) + ((q3.2.1 119) (x1).toNatClampNeg)))))) else (p_r_checkName_77 x3 q3.2))))))
theorem x_r_checkName_54 (d : Nat) (hd : 3 ≤ d) (x1 : Int32) (x2 : Int32) (x3 : Int32) (σ : jx_S) (t : (Int32 × jx_S)) (res : Option Value × jx_S) (h : p_r_checkName_54 x1 x2 x3 σ = some t) (hK : kkI t res) : jE d 185 54 [(0, .ref 106), (1, .int x1), (2, .int x2), (3, .int x3)] [] σ res := by
  unfold p_r_checkName_54 at h
  refine jE_blk (bs := [(.aload_n 0, 0, 0), (.getfield 50, 12, 18), (.iload_n 1, 0, 0)]) (i := .iaload) (a1 := 0) (a2 := 0) (pc1 := 59) (l1 := [(0, .ref 106), (1, .int x1), (2, .int x2), (3, .int x3)]) (st1 := [.int x1, .ref 119]) (σ1 := σ) (by decide +kernel) rfl (fun hC => ?_)
  obtain ⟨hi, h⟩ := jx_ite0_inv h
  refine jE_iald (n := 3000) hC (by decide) rfl hi ?_
  refine jE_blk (bs := [(.aload_n 0, 0, 0), (.iload_n 1, 0, 0)]) (i := .invokevirtual 410) (a1 := 182) (a2 := 0) (pc1 := 62) (l1 := [(0, .ref 106), (1, .int x1), (2, .int x2), (3, .int x3)]) (st1 := [.int x1, .ref 106, .int ((σ.1 119) (x1).toNatClampNeg)]) (σ1 := σ) (by decide +kernel) rfl (fun hC => ?_)
  obtain ⟨q1, hq, h⟩ := Option.bind_eq_some_iff.mp h
  refine jE_call (as := [.ref 106, .int x1]) (pc1 := 65) (st1 := [.int ((σ.1 119) (x1).toNatClampNeg)]) hC rfl (by decide) (by omega) (x_r_takes (d - 1) (by omega) x1 σ q1 (some (.int q1.1), q1.2) hq rfl) ?_
  refine jE_blk (bs := []) (i := .if_icmp .gt (12)) (a1 := 0) (a2 := 0) (pc1 := 65) (l1 := [(0, .ref 106), (1, .int x1), (2, .int x2), (3, .int x3)]) (st1 := [.int q1.1, .int ((σ.1 119) (x1).toNatClampNeg)]) (σ1 := q1.2) (by decide +kernel) rfl (fun hC => ?_)
  rcases Classical.em (q1.1 < ((σ.1 119) (x1).toNatClampNeg)) with hc | hc
  · rw [if_pos hc] at h
    refine jE_icT 77 hC (by decide) hc ?_
    exact jE_loc (l := [(0, .ref 106), (3, .int x3)]) (ks := [0, 3]) rfl (by decide) ⟨rfl, rfl, trivial⟩ (x_r_checkName_77 d hd x3 q1.2 _ res h hK)
  · rw [if_neg hc] at h
    refine jE_icF 77 hC (by decide) hc ?_
    refine jE_blk (bs := [(.aload_n 0, 0, 0), (.iload_n 1, 0, 0)]) (i := .invokevirtual 419) (a1 := 184) (a2 := 0) (pc1 := 70) (l1 := [(0, .ref 106), (1, .int x1), (2, .int x2), (3, .int x3)]) (st1 := [.int x1, .ref 106]) (σ1 := q1.2) (by decide +kernel) rfl (fun hC => ?_)
    obtain ⟨q3, hq, h⟩ := Option.bind_eq_some_iff.mp h
    refine jE_call (as := [.ref 106, .int x1]) (pc1 := 73) (st1 := []) hC rfl (by decide) (by omega) (x_r_left (d - 1) (by omega) x1 q1.2 q3 (some (.int q3.1), q3.2) hq rfl) ?_
    refine jE_blk (bs := [(.iload_n 2, 0, 0)]) (i := .if_icmp .eq (11)) (a1 := 0) (a2 := 0) (pc1 := 74) (l1 := [(0, .ref 106), (1, .int x1), (2, .int x2), (3, .int x3)]) (st1 := [.int x2, .int q3.1]) (σ1 := q3.2) (by decide +kernel) rfl (fun hC => ?_)
    rcases Classical.em (q3.1 = x2) with hc | hc
    · rw [if_pos hc] at h
      refine jE_icT 85 hC (by decide) hc ?_
      refine jE_blk (bs := [(.aload_n 0, 0, 0), (.getfield 389, 12, 55), (.istore 4, 7, 0), (.aload_n 0, 0, 0), (.getfield 35, 12, 13), (.iload_n 1, 0, 0)]) (i := .iaload) (a1 := 0) (a2 := 0) (pc1 := 96) (l1 := [(4, .int (q3.2.1 106 55)), (0, .ref 106), (1, .int x1), (2, .int x2), (3, .int x3)]) (st1 := [.int x1, .ref 114]) (σ1 := q3.2) (by decide +kernel) rfl (fun hC => ?_)
      obtain ⟨hi, h⟩ := jx_ite0_inv h
      refine jE_iald (n := 3000) hC (by decide) rfl hi ?_
      refine jE_blk (bs := [(.istore 5, 7, 0), (.aload_n 0, 0, 0), (.dup, 0, 0), (.getfield 389, 12, 55), (.aload_n 0, 0, 0), (.getfield 50, 12, 18), (.iload_n 1, 0, 0)]) (i := .iaload) (a1 := 0) (a2 := 0) (pc1 := 109) (l1 := [(5, .int ((q3.2.1 114) (x1).toNatClampNeg)), (4, .int (q3.2.1 106 55)), (0, .ref 106), (1, .int x1), (2, .int x2), (3, .int x3)]) (st1 := [.int x1, .ref 119, .int (q3.2.1 106 55), .ref 106]) (σ1 := q3.2) (by decide +kernel) rfl (fun hC => ?_)
      obtain ⟨hi, h⟩ := jx_ite0_inv h
      refine jE_iald (n := 3000) hC (by decide) rfl hi ?_
      refine jE_blk (bs := [(.iadd, 0, 0), (.putfield 389, 12, 55), (.iconst (0), 0, 0), (.istore 6, 7, 0)]) (i := .iload 6) (a1 := 0) (a2 := 0) (pc1 := 117) (l1 := [(6, .int (0 : Int32)), (5, .int ((q3.2.1 114) (x1).toNatClampNeg)), (4, .int (q3.2.1 106 55)), (0, .ref 106), (1, .int x1), (2, .int x2), (3, .int x3)]) (st1 := []) (σ1 := (jx_i q3.2 106 55 ((q3.2.1 106 55) + ((q3.2.1 119) (x1).toNatClampNeg)))) (by decide +kernel) rfl (fun hC => ?_)
      exact jE_loc (l := [(0, .ref 106), (1, .int x1), (4, .int (q3.2.1 106 55)), (5, .int ((q3.2.1 114) (x1).toNatClampNeg)), (6, .int (0 : Int32))]) (ks := [0, 1, 4, 5, 6]) rfl (by decide) ⟨rfl, rfl, rfl, rfl, rfl, trivial⟩ (x_r_checkName_117 d hd x1 (q3.2.1 106 55) ((q3.2.1 114) (x1).toNatClampNeg) (0 : Int32) (jx_i q3.2 106 55 ((q3.2.1 106 55) + ((q3.2.1 119) (x1).toNatClampNeg))) _ res h hK)
    · rw [if_neg hc] at h
      refine jE_icF 85 hC (by decide) hc ?_
      exact jE_loc (l := [(0, .ref 106), (3, .int x3)]) (ks := [0, 3]) rfl (by decide) ⟨rfl, rfl, trivial⟩ (x_r_checkName_77 d hd x3 q3.2 _ res h hK)
def p_r_checkName (x1 : Int32) (x2 : Int32) (σ : jx_S) : Option (Int32 × jx_S) := (if x1 < 0 ∨ 3000 ≤ (x1).toNatClampNeg then none else (if ((σ.1 113) (x1).toNatClampNeg) < 0 ∨ 1202 ≤ (((σ.1 113) (x1).toNatClampNeg)).toNatClampNeg then none else (if x1 < 0 ∨ 3000 ≤ (x1).toNatClampNeg then none else (if 0 ≤ ((σ.1 117) (x1).toNatClampNeg) then (p_r_checkName_54 x1 x2 ((σ.1 109) (((σ.1 113) (x1).toNatClampNeg)).toNatClampNeg) σ) else (if x1 < 0 ∨ 3000 ≤ (x1).toNatClampNeg then none else ((p_r_functionNamed ((σ.1 113) (x1).toNatClampNeg) σ).bind fun q6 => (if x1 < 0 ∨ 3000 ≤ (x1).toNatClampNeg then none else (if x1 < 0 ∨ 3000 ≤ (x1).toNatClampNeg then none else (if 0 ≤ (((jx_i q6.2 123 (x1).toNatClampNeg q6.1).1 123) (x1).toNatClampNeg) then (p_r_checkName_54 x1 x2 ((σ.1 109) (((σ.1 113) (x1).toNatClampNeg)).toNatClampNeg) (jx_i q6.2 123 (x1).toNatClampNeg q6.1)) else ((p_r_fails (6 : Int32) ((σ.1 109) (((σ.1 113) (x1).toNatClampNeg)).toNatClampNeg) (jx_i q6.2 123 (x1).toNatClampNeg q6.1)).bind fun q7 => (if q7.1 = 0 ∨ q7.1 = 1 then (some ((q7.1, q7.2))) else none)))))))))))
theorem x_r_checkName (d : Nat) (hd : 3 ≤ d) (x1 : Int32) (x2 : Int32) (σ : jx_S) (t : (Int32 × jx_S)) (res : Option Value × jx_S) (h : p_r_checkName x1 x2 σ = some t) (hK : kkI t res) : jE d 185 0 [(0, .ref 106), (1, .int x1), (2, .int x2)] [] σ res := by
  unfold p_r_checkName at h
  refine jE_blk (bs := [(.aload_n 0, 0, 0), (.getfield 20, 12, 7), (.aload_n 0, 0, 0), (.getfield 32, 12, 12), (.iload_n 1, 0, 0)]) (i := .iaload) (a1 := 0) (a2 := 0) (pc1 := 9) (l1 := [(0, .ref 106), (1, .int x1), (2, .int x2)]) (st1 := [.int x1, .ref 113, .ref 109]) (σ1 := σ) (by decide +kernel) rfl (fun hC => ?_)
  obtain ⟨hi, h⟩ := jx_ite0_inv h
  refine jE_iald (n := 3000) hC (by decide) rfl hi ?_
  refine jE_blk (bs := []) (i := .iaload) (a1 := 0) (a2 := 0) (pc1 := 10) (l1 := [(0, .ref 106), (1, .int x1), (2, .int x2)]) (st1 := [.int ((σ.1 113) (x1).toNatClampNeg), .ref 109]) (σ1 := σ) (by decide +kernel) rfl (fun hC => ?_)
  obtain ⟨hi, h⟩ := jx_ite0_inv h
  refine jE_iald (n := 1202) hC (by decide) rfl hi ?_
  refine jE_blk (bs := [(.istore_n 3, 7, 0), (.aload_n 0, 0, 0), (.getfield 44, 12, 16), (.iload_n 1, 0, 0)]) (i := .iaload) (a1 := 0) (a2 := 0) (pc1 := 17) (l1 := [(3, .int ((σ.1 109) (((σ.1 113) (x1).toNatClampNeg)).toNatClampNeg)), (0, .ref 106), (1, .int x1), (2, .int x2)]) (st1 := [.int x1, .ref 117]) (σ1 := σ) (by decide +kernel) rfl (fun hC => ?_)
  obtain ⟨hi, h⟩ := jx_ite0_inv h
  refine jE_iald (n := 3000) hC (by decide) rfl hi ?_
  refine jE_blk (bs := []) (i := .ifCond .ge (36)) (a1 := 0) (a2 := 0) (pc1 := 18) (l1 := [(3, .int ((σ.1 109) (((σ.1 113) (x1).toNatClampNeg)).toNatClampNeg)), (0, .ref 106), (1, .int x1), (2, .int x2)]) (st1 := [.int ((σ.1 117) (x1).toNatClampNeg)]) (σ1 := σ) (by decide +kernel) rfl (fun hC => ?_)
  rcases Classical.em (0 ≤ ((σ.1 117) (x1).toNatClampNeg)) with hc | hc
  · rw [if_pos hc] at h
    refine jE_ifT 54 hC (by decide) hc ?_
    exact jE_loc (l := [(0, .ref 106), (1, .int x1), (2, .int x2), (3, .int ((σ.1 109) (((σ.1 113) (x1).toNatClampNeg)).toNatClampNeg))]) (ks := [0, 1, 2, 3]) rfl (by decide) ⟨rfl, rfl, rfl, rfl, trivial⟩ (x_r_checkName_54 d hd x1 x2 ((σ.1 109) (((σ.1 113) (x1).toNatClampNeg)).toNatClampNeg) σ _ res h hK)
  · rw [if_neg hc] at h
    refine jE_ifF 54 hC (by decide) hc ?_
    refine jE_blk (bs := [(.aload_n 0, 0, 0), (.getfield 62, 12, 22), (.iload_n 1, 0, 0), (.aload_n 0, 0, 0), (.aload_n 0, 0, 0), (.getfield 32, 12, 12), (.iload_n 1, 0, 0)]) (i := .iaload) (a1 := 0) (a2 := 0) (pc1 := 32) (l1 := [(3, .int ((σ.1 109) (((σ.1 113) (x1).toNatClampNeg)).toNatClampNeg)), (0, .ref 106), (1, .int x1), (2, .int x2)]) (st1 := [.int x1, .ref 113, .ref 106, .int x1, .ref 123]) (σ1 := σ) (by decide +kernel) rfl (fun hC => ?_)
    obtain ⟨hi, h⟩ := jx_ite0_inv h
    refine jE_iald (n := 3000) hC (by decide) rfl hi ?_
    refine jE_blk (bs := []) (i := .invokevirtual 416) (a1 := 176) (a2 := 0) (pc1 := 33) (l1 := [(3, .int ((σ.1 109) (((σ.1 113) (x1).toNatClampNeg)).toNatClampNeg)), (0, .ref 106), (1, .int x1), (2, .int x2)]) (st1 := [.int ((σ.1 113) (x1).toNatClampNeg), .ref 106, .int x1, .ref 123]) (σ1 := σ) (by decide +kernel) rfl (fun hC => ?_)
    obtain ⟨q6, hq, h⟩ := Option.bind_eq_some_iff.mp h
    refine jE_call (as := [.ref 106, .int ((σ.1 113) (x1).toNatClampNeg)]) (pc1 := 36) (st1 := [.int x1, .ref 123]) hC rfl (by decide) (by omega) (x_r_functionNamed (d - 1) (by omega) ((σ.1 113) (x1).toNatClampNeg) σ q6 (some (.int q6.1), q6.2) hq rfl) ?_
    refine jE_blk (bs := []) (i := .iastore) (a1 := 0) (a2 := 0) (pc1 := 36) (l1 := [(3, .int ((σ.1 109) (((σ.1 113) (x1).toNatClampNeg)).toNatClampNeg)), (0, .ref 106), (1, .int x1), (2, .int x2)]) (st1 := [.int q6.1, .int x1, .ref 123]) (σ1 := q6.2) (by decide +kernel) rfl (fun hC => ?_)
    obtain ⟨hi, h⟩ := jx_ite0_inv h
    refine jE_iast (n := 3000) hC (by decide) rfl hi ?_
    refine jE_blk (bs := [(.aload_n 0, 0, 0), (.getfield 62, 12, 22), (.iload_n 1, 0, 0)]) (i := .iaload) (a1 := 0) (a2 := 0) (pc1 := 42) (l1 := [(3, .int ((σ.1 109) (((σ.1 113) (x1).toNatClampNeg)).toNatClampNeg)), (0, .ref 106), (1, .int x1), (2, .int x2)]) (st1 := [.int x1, .ref 123]) (σ1 := (jx_i q6.2 123 (x1).toNatClampNeg q6.1)) (by decide +kernel) rfl (fun hC => ?_)
    obtain ⟨hi, h⟩ := jx_ite0_inv h
    refine jE_iald (n := 3000) hC (by decide) rfl hi ?_
    refine jE_blk (bs := []) (i := .ifCond .ge (11)) (a1 := 0) (a2 := 0) (pc1 := 43) (l1 := [(3, .int ((σ.1 109) (((σ.1 113) (x1).toNatClampNeg)).toNatClampNeg)), (0, .ref 106), (1, .int x1), (2, .int x2)]) (st1 := [.int (((jx_i q6.2 123 (x1).toNatClampNeg q6.1).1 123) (x1).toNatClampNeg)]) (σ1 := (jx_i q6.2 123 (x1).toNatClampNeg q6.1)) (by decide +kernel) rfl (fun hC => ?_)
    rcases Classical.em (0 ≤ (((jx_i q6.2 123 (x1).toNatClampNeg q6.1).1 123) (x1).toNatClampNeg)) with hc | hc
    · rw [if_pos hc] at h
      refine jE_ifT 54 hC (by decide) hc ?_
      exact jE_loc (l := [(0, .ref 106), (1, .int x1), (2, .int x2), (3, .int ((σ.1 109) (((σ.1 113) (x1).toNatClampNeg)).toNatClampNeg))]) (ks := [0, 1, 2, 3]) rfl (by decide) ⟨rfl, rfl, rfl, rfl, trivial⟩ (x_r_checkName_54 d hd x1 x2 ((σ.1 109) (((σ.1 113) (x1).toNatClampNeg)).toNatClampNeg) (jx_i q6.2 123 (x1).toNatClampNeg q6.1) _ res h hK)
    · rw [if_neg hc] at h
      refine jE_ifF 54 hC (by decide) hc ?_
      refine jE_blk (bs := [(.aload_n 0, 0, 0), (.bipush (6), 6, 0), (.iload_n 3, 0, 0)]) (i := .invokevirtual 296) (a1 := 146) (a2 := 0) (pc1 := 50) (l1 := [(3, .int ((σ.1 109) (((σ.1 113) (x1).toNatClampNeg)).toNatClampNeg)), (0, .ref 106), (1, .int x1), (2, .int x2)]) (st1 := [.int ((σ.1 109) (((σ.1 113) (x1).toNatClampNeg)).toNatClampNeg), .int (6 : Int32), .ref 106]) (σ1 := (jx_i q6.2 123 (x1).toNatClampNeg q6.1)) (by decide +kernel) rfl (fun hC => ?_)
      obtain ⟨q7, hq, h⟩ := Option.bind_eq_some_iff.mp h
      refine jE_call (as := [.ref 106, .int (6 : Int32), .int ((σ.1 109) (((σ.1 113) (x1).toNatClampNeg)).toNatClampNeg)]) (pc1 := 53) (st1 := []) hC rfl (by decide) (by omega) (x_r_fails (d - 1) (by omega) (6 : Int32) ((σ.1 109) (((σ.1 113) (x1).toNatClampNeg)).toNatClampNeg) (jx_i q6.2 123 (x1).toNatClampNeg q6.1) q7 (some (.int q7.1), q7.2) hq rfl) ?_
      refine jE_blk (bs := []) (i := .ireturn) (a1 := 1) (a2 := 0) (pc1 := 53) (l1 := [(3, .int ((σ.1 109) (((σ.1 113) (x1).toNatClampNeg)).toNatClampNeg)), (0, .ref 106), (1, .int x1), (2, .int x2)]) (st1 := [.int q7.1]) (σ1 := q7.2) (by decide +kernel) rfl (fun hC => ?_)
      obtain ⟨hb, h⟩ := jx_ite_inv h
      have h9 := Option.some.inj h
      subst h9
      have e9 : ((some (.int q7.1), q7.2) : Option Value × jx_S) = res := hK
      subst e9
      exact jE_bret hC hb
def p_r_check_380 (y0 : Int32) (y1 : Int32) (σ : jx_S) : Option (Int32 × jx_S) := ((p_r_want y1 y0 σ).bind fun q5 => (some (((1 : Int32), q5))))
theorem x_r_check_380 (d : Nat) (hd : 4 ≤ d) (y0 : Int32) (y1 : Int32) (σ : jx_S) (t : (Int32 × jx_S)) (res : Option Value × jx_S) (h : p_r_check_380 y0 y1 σ = some t) (hK : kkI t res) : jE d 181 380 [] [.int y0, .int y1, .ref 106] σ res := by
  unfold p_r_check_380 at h
  refine jE_blk (bs := []) (i := .invokevirtual 395) (a1 := 179) (a2 := 0) (pc1 := 380) (l1 := []) (st1 := [.int y0, .int y1, .ref 106]) (σ1 := σ) (by decide +kernel) rfl (fun hC => ?_)
  obtain ⟨q5, hq, h⟩ := Option.bind_eq_some_iff.mp h
  refine jE_call (as := [.ref 106, .int y1, .int y0]) (pc1 := 383) (st1 := []) hC rfl (by decide) (by omega) (x_r_want (d - 1) (by omega) y1 y0 σ q5 (none, q5) hq rfl) ?_
  refine jE_blk (bs := [(.goto (53), 0, 0), (.iconst (1), 1, 0)]) (i := .ireturn) (a1 := 1) (a2 := 0) (pc1 := 437) (l1 := []) (st1 := [.int (1 : Int32)]) (σ1 := q5) (by decide +kernel) rfl (fun hC => ?_)
  have h9 := Option.some.inj h
  subst h9
  have e9 : ((some (.int (1 : Int32)), q5) : Option Value × jx_S) = res := hK
  subst e9
  exact jE_ret hC rfl
def p_r_check_335 (x1 : Int32) (x2 : Int32) (σ : jx_S) : Option (Int32 × jx_S) := (if x1 < 0 ∨ 3000 ≤ (x1).toNatClampNeg then none else ((p_r_want ((σ.1 116) (x1).toNatClampNeg) x2 σ).bind fun q3 => (if x1 < 0 ∨ 3000 ≤ (x1).toNatClampNeg then none else ((p_r_want ((q3.1 115) (x1).toNatClampNeg) x2 q3).bind fun q4 => (if x1 < 0 ∨ 3000 ≤ (x1).toNatClampNeg then none else (if x1 < 0 ∨ 3000 ≤ (x1).toNatClampNeg then none else (if ¬ ((q4.1 112) (x1).toNatClampNeg) = (7 : Int32) then (p_r_check_380 (1 : Int32) ((q4.1 114) (x1).toNatClampNeg) q4) else (p_r_check_380 (0 : Int32) ((q4.1 114) (x1).toNatClampNeg) q4))))))))
theorem x_r_check_335 (d : Nat) (hd : 4 ≤ d) (x1 : Int32) (x2 : Int32) (σ : jx_S) (t : (Int32 × jx_S)) (res : Option Value × jx_S) (h : p_r_check_335 x1 x2 σ = some t) (hK : kkI t res) : jE d 181 335 [(0, .ref 106), (1, .int x1), (2, .int x2)] [] σ res := by
  unfold p_r_check_335 at h
  refine jE_blk (bs := [(.aload_n 0, 0, 0), (.aload_n 0, 0, 0), (.getfield 41, 12, 15), (.iload_n 1, 0, 0)]) (i := .iaload) (a1 := 0) (a2 := 0) (pc1 := 341) (l1 := [(0, .ref 106), (1, .int x1), (2, .int x2)]) (st1 := [.int x1, .ref 116, .ref 106]) (σ1 := σ) (by decide +kernel) rfl (fun hC => ?_)
  obtain ⟨hi, h⟩ := jx_ite0_inv h
  refine jE_iald (n := 3000) hC (by decide) rfl hi ?_
  refine jE_blk (bs := [(.iload_n 2, 0, 0)]) (i := .invokevirtual 395) (a1 := 179) (a2 := 0) (pc1 := 343) (l1 := [(0, .ref 106), (1, .int x1), (2, .int x2)]) (st1 := [.int x2, .int ((σ.1 116) (x1).toNatClampNeg), .ref 106]) (σ1 := σ) (by decide +kernel) rfl (fun hC => ?_)
  obtain ⟨q3, hq, h⟩ := Option.bind_eq_some_iff.mp h
  refine jE_call (as := [.ref 106, .int ((σ.1 116) (x1).toNatClampNeg), .int x2]) (pc1 := 346) (st1 := []) hC rfl (by decide) (by omega) (x_r_want (d - 1) (by omega) ((σ.1 116) (x1).toNatClampNeg) x2 σ q3 (none, q3) hq rfl) ?_
  refine jE_blk (bs := [(.aload_n 0, 0, 0), (.aload_n 0, 0, 0), (.getfield 38, 12, 14), (.iload_n 1, 0, 0)]) (i := .iaload) (a1 := 0) (a2 := 0) (pc1 := 352) (l1 := [(0, .ref 106), (1, .int x1), (2, .int x2)]) (st1 := [.int x1, .ref 115, .ref 106]) (σ1 := q3) (by decide +kernel) rfl (fun hC => ?_)
  obtain ⟨hi, h⟩ := jx_ite0_inv h
  refine jE_iald (n := 3000) hC (by decide) rfl hi ?_
  refine jE_blk (bs := [(.iload_n 2, 0, 0)]) (i := .invokevirtual 395) (a1 := 179) (a2 := 0) (pc1 := 354) (l1 := [(0, .ref 106), (1, .int x1), (2, .int x2)]) (st1 := [.int x2, .int ((q3.1 115) (x1).toNatClampNeg), .ref 106]) (σ1 := q3) (by decide +kernel) rfl (fun hC => ?_)
  obtain ⟨q4, hq, h⟩ := Option.bind_eq_some_iff.mp h
  refine jE_call (as := [.ref 106, .int ((q3.1 115) (x1).toNatClampNeg), .int x2]) (pc1 := 357) (st1 := []) hC rfl (by decide) (by omega) (x_r_want (d - 1) (by omega) ((q3.1 115) (x1).toNatClampNeg) x2 q3 q4 (none, q4) hq rfl) ?_
  refine jE_blk (bs := [(.aload_n 0, 0, 0), (.aload_n 0, 0, 0), (.getfield 35, 12, 13), (.iload_n 1, 0, 0)]) (i := .iaload) (a1 := 0) (a2 := 0) (pc1 := 363) (l1 := [(0, .ref 106), (1, .int x1), (2, .int x2)]) (st1 := [.int x1, .ref 114, .ref 106]) (σ1 := q4) (by decide +kernel) rfl (fun hC => ?_)
  obtain ⟨hi, h⟩ := jx_ite0_inv h
  refine jE_iald (n := 3000) hC (by decide) rfl hi ?_
  refine jE_blk (bs := [(.aload_n 0, 0, 0), (.getfield 29, 12, 11), (.iload_n 1, 0, 0)]) (i := .iaload) (a1 := 0) (a2 := 0) (pc1 := 369) (l1 := [(0, .ref 106), (1, .int x1), (2, .int x2)]) (st1 := [.int x1, .ref 112, .int ((q4.1 114) (x1).toNatClampNeg), .ref 106]) (σ1 := q4) (by decide +kernel) rfl (fun hC => ?_)
  obtain ⟨hi, h⟩ := jx_ite0_inv h
  refine jE_iald (n := 3000) hC (by decide) rfl hi ?_
  refine jE_blk (bs := [(.bipush (7), 7, 0)]) (i := .if_icmp .ne (7)) (a1 := 0) (a2 := 0) (pc1 := 372) (l1 := [(0, .ref 106), (1, .int x1), (2, .int x2)]) (st1 := [.int (7 : Int32), .int ((q4.1 112) (x1).toNatClampNeg), .int ((q4.1 114) (x1).toNatClampNeg), .ref 106]) (σ1 := q4) (by decide +kernel) rfl (fun hC => ?_)
  rcases Classical.em (¬ ((q4.1 112) (x1).toNatClampNeg) = (7 : Int32)) with hc | hc
  · rw [if_pos hc] at h
    refine jE_icT 379 hC (by decide) hc ?_
    refine jE_blk (bs := [(.iconst (1), 1, 0)]) (i := .invokevirtual 395) (a1 := 179) (a2 := 0) (pc1 := 380) (l1 := [(0, .ref 106), (1, .int x1), (2, .int x2)]) (st1 := [.int (1 : Int32), .int ((q4.1 114) (x1).toNatClampNeg), .ref 106]) (σ1 := q4) (by decide +kernel) rfl (fun hC => ?_)
    exact jE_loc (l := []) (ks := []) rfl (by decide) trivial (x_r_check_380 d hd (1 : Int32) ((q4.1 114) (x1).toNatClampNeg) q4 _ res h hK)
  · rw [if_neg hc] at h
    refine jE_icF 379 hC (by decide) hc ?_
    refine jE_blk (bs := [(.iconst (0), 0, 0), (.goto (4), 0, 0)]) (i := .invokevirtual 395) (a1 := 179) (a2 := 0) (pc1 := 380) (l1 := [(0, .ref 106), (1, .int x1), (2, .int x2)]) (st1 := [.int (0 : Int32), .int ((q4.1 114) (x1).toNatClampNeg), .ref 106]) (σ1 := q4) (by decide +kernel) rfl (fun hC => ?_)
    exact jE_loc (l := []) (ks := []) rfl (by decide) trivial (x_r_check_380 d hd (0 : Int32) ((q4.1 114) (x1).toNatClampNeg) q4 _ res h hK)
def p_r_check_414 (x1 : Int32) (σ : jx_S) : Option (Int32 × jx_S) := (if x1 < 0 ∨ 3000 ≤ (x1).toNatClampNeg then none else ((p_r_want ((σ.1 115) (x1).toNatClampNeg) (0 : Int32) σ).bind fun q8 => (if x1 < 0 ∨ 3000 ≤ (x1).toNatClampNeg then none else ((p_r_want ((q8.1 114) (x1).toNatClampNeg) (0 : Int32) q8).bind fun q9 => (some (((1 : Int32), q9)))))))
theorem x_r_check_414 (d : Nat) (hd : 4 ≤ d) (x1 : Int32) (σ : jx_S) (t : (Int32 × jx_S)) (res : Option Value × jx_S) (h : p_r_check_414 x1 σ = some t) (hK : kkI t res) : jE d 181 414 [(0, .ref 106), (1, .int x1)] [] σ res := by
  unfold p_r_check_414 at h
  refine jE_blk (bs := [(.aload_n 0, 0, 0), (.aload_n 0, 0, 0), (.getfield 38, 12, 14), (.iload_n 1, 0, 0)]) (i := .iaload) (a1 := 0) (a2 := 0) (pc1 := 420) (l1 := [(0, .ref 106), (1, .int x1)]) (st1 := [.int x1, .ref 115, .ref 106]) (σ1 := σ) (by decide +kernel) rfl (fun hC => ?_)
  obtain ⟨hi, h⟩ := jx_ite0_inv h
  refine jE_iald (n := 3000) hC (by decide) rfl hi ?_
  refine jE_blk (bs := [(.iconst (0), 0, 0)]) (i := .invokevirtual 395) (a1 := 179) (a2 := 0) (pc1 := 422) (l1 := [(0, .ref 106), (1, .int x1)]) (st1 := [.int (0 : Int32), .int ((σ.1 115) (x1).toNatClampNeg), .ref 106]) (σ1 := σ) (by decide +kernel) rfl (fun hC => ?_)
  obtain ⟨q8, hq, h⟩ := Option.bind_eq_some_iff.mp h
  refine jE_call (as := [.ref 106, .int ((σ.1 115) (x1).toNatClampNeg), .int (0 : Int32)]) (pc1 := 425) (st1 := []) hC rfl (by decide) (by omega) (x_r_want (d - 1) (by omega) ((σ.1 115) (x1).toNatClampNeg) (0 : Int32) σ q8 (none, q8) hq rfl) ?_
  refine jE_blk (bs := [(.aload_n 0, 0, 0), (.aload_n 0, 0, 0), (.getfield 35, 12, 13), (.iload_n 1, 0, 0)]) (i := .iaload) (a1 := 0) (a2 := 0) (pc1 := 431) (l1 := [(0, .ref 106), (1, .int x1)]) (st1 := [.int x1, .ref 114, .ref 106]) (σ1 := q8) (by decide +kernel) rfl (fun hC => ?_)
  obtain ⟨hi, h⟩ := jx_ite0_inv h
  refine jE_iald (n := 3000) hC (by decide) rfl hi ?_
  refine jE_blk (bs := [(.iconst (0), 0, 0)]) (i := .invokevirtual 395) (a1 := 179) (a2 := 0) (pc1 := 433) (l1 := [(0, .ref 106), (1, .int x1)]) (st1 := [.int (0 : Int32), .int ((q8.1 114) (x1).toNatClampNeg), .ref 106]) (σ1 := q8) (by decide +kernel) rfl (fun hC => ?_)
  obtain ⟨q9, hq, h⟩ := Option.bind_eq_some_iff.mp h
  refine jE_call (as := [.ref 106, .int ((q8.1 114) (x1).toNatClampNeg), .int (0 : Int32)]) (pc1 := 436) (st1 := []) hC rfl (by decide) (by omega) (x_r_want (d - 1) (by omega) ((q8.1 114) (x1).toNatClampNeg) (0 : Int32) q8 q9 (none, q9) hq rfl) ?_
  refine jE_blk (bs := [(.iconst (1), 1, 0)]) (i := .ireturn) (a1 := 1) (a2 := 0) (pc1 := 437) (l1 := [(0, .ref 106), (1, .int x1)]) (st1 := [.int (1 : Int32)]) (σ1 := q9) (by decide +kernel) rfl (fun hC => ?_)
  have h9 := Option.some.inj h
  subst h9
  have e9 : ((some (.int (1 : Int32)), q9) : Option Value × jx_S) = res := hK
  subst e9
  exact jE_ret hC rfl
def p_r_check_201 (x1 : Int32) (x2 : Int32) (x3 : Int32) (x4 : Int32) (σ : jx_S) : Option (Int32 × jx_S) := (if ¬ x4 = 0 then (if x1 < 0 ∨ 3000 ≤ (x1).toNatClampNeg then none else (if ((σ.1 112) (x1).toNatClampNeg) = 2 then (some (((1 : Int32), σ))) else (if ((σ.1 112) (x1).toNatClampNeg) = 5 then (if x1 < 0 ∨ 3000 ≤ (x1).toNatClampNeg then none else ((p_r_want ((σ.1 115) (x1).toNatClampNeg) x2 σ).bind fun q1 => (if x1 < 0 ∨ 3000 ≤ (x1).toNatClampNeg then none else (if x1 < 0 ∨ 3000 ≤ (x1).toNatClampNeg then none else (if (((30 : Int32) * (q1.1 106 56)) + ((q1.1 117) (x1).toNatClampNeg)) < 0 ∨ 1200 ≤ ((((30 : Int32) * (q1.1 106 56)) + ((q1.1 117) (x1).toNatClampNeg))).toNatClampNeg then none else ((p_r_want ((q1.1 114) (x1).toNatClampNeg) ((q1.1 137) ((((30 : Int32) * (q1.1 106 56)) + ((q1.1 117) (x1).toNatClampNeg))).toNatClampNeg) q1).bind fun q2 => (some (((1 : Int32), q2))))))))) else (if ((σ.1 112) (x1).toNatClampNeg) = 7 then (p_r_check_335 x1 x2 σ) else (if ((σ.1 112) (x1).toNatClampNeg) = 10 then (p_r_check_335 x1 x2 σ) else (if ((σ.1 112) (x1).toNatClampNeg) = 13 then (some (((1 : Int32), σ))) else (if ((σ.1 112) (x1).toNatClampNeg) = 14 then (if x1 < 0 ∨ 3000 ≤ (x1).toNatClampNeg then none else ((p_r_want ((σ.1 115) (x1).toNatClampNeg) (1 : Int32) σ).bind fun q6 => (if x1 < 0 ∨ 3000 ≤ (x1).toNatClampNeg then none else ((p_r_want ((q6.1 114) (x1).toNatClampNeg) (0 : Int32) q6).bind fun q7 => (some (((1 : Int32), q7))))))) else (if ((σ.1 112) (x1).toNatClampNeg) = 15 then (some (((1 : Int32), σ))) else (p_r_check_414 x1 σ))))))))) else ((p_r_fails (7 : Int32) x3 σ).bind fun q10 => (if q10.1 = 0 ∨ q10.1 = 1 then (some ((q10.1, q10.2))) else none)))
theorem x_r_check_201 (d : Nat) (hd : 4 ≤ d) (x1 : Int32) (x2 : Int32) (x3 : Int32) (x4 : Int32) (σ : jx_S) (t : (Int32 × jx_S)) (res : Option Value × jx_S) (h : p_r_check_201 x1 x2 x3 x4 σ = some t) (hK : kkI t res) : jE d 181 201 [(0, .ref 106), (1, .int x1), (2, .int x2), (3, .int x3), (4, .int x4)] [] σ res := by
  unfold p_r_check_201 at h
  refine jE_blk (bs := [(.iload 4, 0, 0)]) (i := .ifCond .ne (11)) (a1 := 0) (a2 := 0) (pc1 := 203) (l1 := [(0, .ref 106), (1, .int x1), (2, .int x2), (3, .int x3), (4, .int x4)]) (st1 := [.int x4]) (σ1 := σ) (by decide +kernel) rfl (fun hC => ?_)
  rcases Classical.em (¬ x4 = 0) with hc | hc
  · rw [if_pos hc] at h
    refine jE_ifT 214 hC (by decide) hc ?_
    refine jE_blk (bs := [(.aload_n 0, 0, 0), (.getfield 29, 12, 11), (.iload_n 1, 0, 0)]) (i := .iaload) (a1 := 0) (a2 := 0) (pc1 := 219) (l1 := [(0, .ref 106), (1, .int x1), (2, .int x2), (3, .int x3), (4, .int x4)]) (st1 := [.int x1, .ref 112]) (σ1 := σ) (by decide +kernel) rfl (fun hC => ?_)
    obtain ⟨hi, h⟩ := jx_ite0_inv h
    refine jE_iald (n := 3000) hC (by decide) rfl hi ?_
    refine jE_blk (bs := []) (i := .tableswitch (194) (2) (15) #[191, 194, 194, 72, 194, 115, 194, 194, 115, 194, 194, 191, 166, 191]) (a1 := 0) (a2 := 0) (pc1 := 220) (l1 := [(0, .ref 106), (1, .int x1), (2, .int x2), (3, .int x3), (4, .int x4)]) (st1 := [.int ((σ.1 112) (x1).toNatClampNeg)]) (σ1 := σ) (by decide +kernel) rfl (fun hC => ?_)
    rcases Classical.em (((σ.1 112) (x1).toNatClampNeg) = 2) with hc0 | hc0
    · rw [if_pos hc0] at h
      refine jE_tsw 411 2 hC hc0 (by decide +kernel) ?_
      refine jE_blk (bs := [(.goto (25), 0, 0), (.iconst (1), 1, 0)]) (i := .ireturn) (a1 := 1) (a2 := 0) (pc1 := 437) (l1 := [(0, .ref 106), (1, .int x1), (2, .int x2), (3, .int x3), (4, .int x4)]) (st1 := [.int (1 : Int32)]) (σ1 := σ) (by decide +kernel) rfl (fun hC => ?_)
      have h9 := Option.some.inj h
      subst h9
      have e9 : ((some (.int (1 : Int32)), σ) : Option Value × jx_S) = res := hK
      subst e9
      exact jE_ret hC rfl
    · rw [if_neg hc0] at h
      rcases Classical.em (((σ.1 112) (x1).toNatClampNeg) = 5) with hc1 | hc1
      · rw [if_pos hc1] at h
        refine jE_tsw 292 5 hC hc1 (by decide +kernel) ?_
        refine jE_blk (bs := [(.aload_n 0, 0, 0), (.aload_n 0, 0, 0), (.getfield 38, 12, 14), (.iload_n 1, 0, 0)]) (i := .iaload) (a1 := 0) (a2 := 0) (pc1 := 298) (l1 := [(0, .ref 106), (1, .int x1), (2, .int x2), (3, .int x3), (4, .int x4)]) (st1 := [.int x1, .ref 115, .ref 106]) (σ1 := σ) (by decide +kernel) rfl (fun hC => ?_)
        obtain ⟨hi, h⟩ := jx_ite0_inv h
        refine jE_iald (n := 3000) hC (by decide) rfl hi ?_
        refine jE_blk (bs := [(.iload_n 2, 0, 0)]) (i := .invokevirtual 395) (a1 := 179) (a2 := 0) (pc1 := 300) (l1 := [(0, .ref 106), (1, .int x1), (2, .int x2), (3, .int x3), (4, .int x4)]) (st1 := [.int x2, .int ((σ.1 115) (x1).toNatClampNeg), .ref 106]) (σ1 := σ) (by decide +kernel) rfl (fun hC => ?_)
        obtain ⟨q1, hq, h⟩ := Option.bind_eq_some_iff.mp h
        refine jE_call (as := [.ref 106, .int ((σ.1 115) (x1).toNatClampNeg), .int x2]) (pc1 := 303) (st1 := []) hC rfl (by decide) (by omega) (x_r_want (d - 1) (by omega) ((σ.1 115) (x1).toNatClampNeg) x2 σ q1 (none, q1) hq rfl) ?_
        refine jE_blk (bs := [(.aload_n 0, 0, 0), (.aload_n 0, 0, 0), (.getfield 35, 12, 13), (.iload_n 1, 0, 0)]) (i := .iaload) (a1 := 0) (a2 := 0) (pc1 := 309) (l1 := [(0, .ref 106), (1, .int x1), (2, .int x2), (3, .int x3), (4, .int x4)]) (st1 := [.int x1, .ref 114, .ref 106]) (σ1 := q1) (by decide +kernel) rfl (fun hC => ?_)
        obtain ⟨hi, h⟩ := jx_ite0_inv h
        refine jE_iald (n := 3000) hC (by decide) rfl hi ?_
        refine jE_blk (bs := [(.aload_n 0, 0, 0), (.getfield 105, 12, 37), (.bipush (30), 30, 0), (.aload_n 0, 0, 0), (.getfield 392, 12, 56), (.imul, 0, 0), (.aload_n 0, 0, 0), (.getfield 44, 12, 16), (.iload_n 1, 0, 0)]) (i := .iaload) (a1 := 0) (a2 := 0) (pc1 := 326) (l1 := [(0, .ref 106), (1, .int x1), (2, .int x2), (3, .int x3), (4, .int x4)]) (st1 := [.int x1, .ref 117, .int ((30 : Int32) * (q1.1 106 56)), .ref 137, .int ((q1.1 114) (x1).toNatClampNeg), .ref 106]) (σ1 := q1) (by decide +kernel) rfl (fun hC => ?_)
        obtain ⟨hi, h⟩ := jx_ite0_inv h
        refine jE_iald (n := 3000) hC (by decide) rfl hi ?_
        refine jE_blk (bs := [(.iadd, 0, 0)]) (i := .iaload) (a1 := 0) (a2 := 0) (pc1 := 328) (l1 := [(0, .ref 106), (1, .int x1), (2, .int x2), (3, .int x3), (4, .int x4)]) (st1 := [.int (((30 : Int32) * (q1.1 106 56)) + ((q1.1 117) (x1).toNatClampNeg)), .ref 137, .int ((q1.1 114) (x1).toNatClampNeg), .ref 106]) (σ1 := q1) (by decide +kernel) rfl (fun hC => ?_)
        obtain ⟨hi, h⟩ := jx_ite0_inv h
        refine jE_iald (n := 1200) hC (by decide) rfl hi ?_
        refine jE_blk (bs := []) (i := .invokevirtual 395) (a1 := 179) (a2 := 0) (pc1 := 329) (l1 := [(0, .ref 106), (1, .int x1), (2, .int x2), (3, .int x3), (4, .int x4)]) (st1 := [.int ((q1.1 137) ((((30 : Int32) * (q1.1 106 56)) + ((q1.1 117) (x1).toNatClampNeg))).toNatClampNeg), .int ((q1.1 114) (x1).toNatClampNeg), .ref 106]) (σ1 := q1) (by decide +kernel) rfl (fun hC => ?_)
        obtain ⟨q2, hq, h⟩ := Option.bind_eq_some_iff.mp h
        refine jE_call (as := [.ref 106, .int ((q1.1 114) (x1).toNatClampNeg), .int ((q1.1 137) ((((30 : Int32) * (q1.1 106 56)) + ((q1.1 117) (x1).toNatClampNeg))).toNatClampNeg)]) (pc1 := 332) (st1 := []) hC rfl (by decide) (by omega) (x_r_want (d - 1) (by omega) ((q1.1 114) (x1).toNatClampNeg) ((q1.1 137) ((((30 : Int32) * (q1.1 106 56)) + ((q1.1 117) (x1).toNatClampNeg))).toNatClampNeg) q1 q2 (none, q2) hq rfl) ?_
        refine jE_blk (bs := [(.goto (104), 0, 0), (.iconst (1), 1, 0)]) (i := .ireturn) (a1 := 1) (a2 := 0) (pc1 := 437) (l1 := [(0, .ref 106), (1, .int x1), (2, .int x2), (3, .int x3), (4, .int x4)]) (st1 := [.int (1 : Int32)]) (σ1 := q2) (by decide +kernel) rfl (fun hC => ?_)
        have h9 := Option.some.inj h
        subst h9
        have e9 : ((some (.int (1 : Int32)), q2) : Option Value × jx_S) = res := hK
        subst e9
        exact jE_ret hC rfl
      · rw [if_neg hc1] at h
        rcases Classical.em (((σ.1 112) (x1).toNatClampNeg) = 7) with hc2 | hc2
        · rw [if_pos hc2] at h
          refine jE_tsw 335 7 hC hc2 (by decide +kernel) ?_
          exact jE_loc (l := [(0, .ref 106), (1, .int x1), (2, .int x2)]) (ks := [0, 1, 2]) rfl (by decide) ⟨rfl, rfl, rfl, trivial⟩ (x_r_check_335 d hd x1 x2 σ _ res h hK)
        · rw [if_neg hc2] at h
          rcases Classical.em (((σ.1 112) (x1).toNatClampNeg) = 10) with hc3 | hc3
          · rw [if_pos hc3] at h
            refine jE_tsw 335 10 hC hc3 (by decide +kernel) ?_
            exact jE_loc (l := [(0, .ref 106), (1, .int x1), (2, .int x2)]) (ks := [0, 1, 2]) rfl (by decide) ⟨rfl, rfl, rfl, trivial⟩ (x_r_check_335 d hd x1 x2 σ _ res h hK)
          · rw [if_neg hc3] at h
            rcases Classical.em (((σ.1 112) (x1).toNatClampNeg) = 13) with hc4 | hc4
            · rw [if_pos hc4] at h
              refine jE_tsw 411 13 hC hc4 (by decide +kernel) ?_
              refine jE_blk (bs := [(.goto (25), 0, 0), (.iconst (1), 1, 0)]) (i := .ireturn) (a1 := 1) (a2 := 0) (pc1 := 437) (l1 := [(0, .ref 106), (1, .int x1), (2, .int x2), (3, .int x3), (4, .int x4)]) (st1 := [.int (1 : Int32)]) (σ1 := σ) (by decide +kernel) rfl (fun hC => ?_)
              have h9 := Option.some.inj h
              subst h9
              have e9 : ((some (.int (1 : Int32)), σ) : Option Value × jx_S) = res := hK
              subst e9
              exact jE_ret hC rfl
            · rw [if_neg hc4] at h
              rcases Classical.em (((σ.1 112) (x1).toNatClampNeg) = 14) with hc5 | hc5
              · rw [if_pos hc5] at h
                refine jE_tsw 386 14 hC hc5 (by decide +kernel) ?_
                refine jE_blk (bs := [(.aload_n 0, 0, 0), (.aload_n 0, 0, 0), (.getfield 38, 12, 14), (.iload_n 1, 0, 0)]) (i := .iaload) (a1 := 0) (a2 := 0) (pc1 := 392) (l1 := [(0, .ref 106), (1, .int x1), (2, .int x2), (3, .int x3), (4, .int x4)]) (st1 := [.int x1, .ref 115, .ref 106]) (σ1 := σ) (by decide +kernel) rfl (fun hC => ?_)
                obtain ⟨hi, h⟩ := jx_ite0_inv h
                refine jE_iald (n := 3000) hC (by decide) rfl hi ?_
                refine jE_blk (bs := [(.iconst (1), 1, 0)]) (i := .invokevirtual 395) (a1 := 179) (a2 := 0) (pc1 := 394) (l1 := [(0, .ref 106), (1, .int x1), (2, .int x2), (3, .int x3), (4, .int x4)]) (st1 := [.int (1 : Int32), .int ((σ.1 115) (x1).toNatClampNeg), .ref 106]) (σ1 := σ) (by decide +kernel) rfl (fun hC => ?_)
                obtain ⟨q6, hq, h⟩ := Option.bind_eq_some_iff.mp h
                refine jE_call (as := [.ref 106, .int ((σ.1 115) (x1).toNatClampNeg), .int (1 : Int32)]) (pc1 := 397) (st1 := []) hC rfl (by decide) (by omega) (x_r_want (d - 1) (by omega) ((σ.1 115) (x1).toNatClampNeg) (1 : Int32) σ q6 (none, q6) hq rfl) ?_
                refine jE_blk (bs := [(.aload_n 0, 0, 0), (.aload_n 0, 0, 0), (.getfield 35, 12, 13), (.iload_n 1, 0, 0)]) (i := .iaload) (a1 := 0) (a2 := 0) (pc1 := 403) (l1 := [(0, .ref 106), (1, .int x1), (2, .int x2), (3, .int x3), (4, .int x4)]) (st1 := [.int x1, .ref 114, .ref 106]) (σ1 := q6) (by decide +kernel) rfl (fun hC => ?_)
                obtain ⟨hi, h⟩ := jx_ite0_inv h
                refine jE_iald (n := 3000) hC (by decide) rfl hi ?_
                refine jE_blk (bs := [(.iconst (0), 0, 0)]) (i := .invokevirtual 395) (a1 := 179) (a2 := 0) (pc1 := 405) (l1 := [(0, .ref 106), (1, .int x1), (2, .int x2), (3, .int x3), (4, .int x4)]) (st1 := [.int (0 : Int32), .int ((q6.1 114) (x1).toNatClampNeg), .ref 106]) (σ1 := q6) (by decide +kernel) rfl (fun hC => ?_)
                obtain ⟨q7, hq, h⟩ := Option.bind_eq_some_iff.mp h
                refine jE_call (as := [.ref 106, .int ((q6.1 114) (x1).toNatClampNeg), .int (0 : Int32)]) (pc1 := 408) (st1 := []) hC rfl (by decide) (by omega) (x_r_want (d - 1) (by omega) ((q6.1 114) (x1).toNatClampNeg) (0 : Int32) q6 q7 (none, q7) hq rfl) ?_
                refine jE_blk (bs := [(.goto (28), 0, 0), (.iconst (1), 1, 0)]) (i := .ireturn) (a1 := 1) (a2 := 0) (pc1 := 437) (l1 := [(0, .ref 106), (1, .int x1), (2, .int x2), (3, .int x3), (4, .int x4)]) (st1 := [.int (1 : Int32)]) (σ1 := q7) (by decide +kernel) rfl (fun hC => ?_)
                have h9 := Option.some.inj h
                subst h9
                have e9 : ((some (.int (1 : Int32)), q7) : Option Value × jx_S) = res := hK
                subst e9
                exact jE_ret hC rfl
              · rw [if_neg hc5] at h
                rcases Classical.em (((σ.1 112) (x1).toNatClampNeg) = 15) with hc6 | hc6
                · rw [if_pos hc6] at h
                  refine jE_tsw 411 15 hC hc6 (by decide +kernel) ?_
                  refine jE_blk (bs := [(.goto (25), 0, 0), (.iconst (1), 1, 0)]) (i := .ireturn) (a1 := 1) (a2 := 0) (pc1 := 437) (l1 := [(0, .ref 106), (1, .int x1), (2, .int x2), (3, .int x3), (4, .int x4)]) (st1 := [.int (1 : Int32)]) (σ1 := σ) (by decide +kernel) rfl (fun hC => ?_)
                  have h9 := Option.some.inj h
                  subst h9
                  have e9 : ((some (.int (1 : Int32)), σ) : Option Value × jx_S) = res := hK
                  subst e9
                  exact jE_ret hC rfl
                · rw [if_neg hc6] at h
                  refine jE_tswD 414 [2, 5, 7, 10, 13, 14, 15] hC (by decide +kernel) ⟨hc0, hc1, hc2, hc3, hc4, hc5, hc6, trivial⟩ ?_
                  exact jE_loc (l := [(0, .ref 106), (1, .int x1)]) (ks := [0, 1]) rfl (by decide) ⟨rfl, rfl, trivial⟩ (x_r_check_414 d hd x1 σ _ res h hK)
  · rw [if_neg hc] at h
    refine jE_ifF 214 hC (by decide) hc ?_
    refine jE_blk (bs := [(.aload_n 0, 0, 0), (.bipush (7), 7, 0), (.iload_n 3, 0, 0)]) (i := .invokevirtual 296) (a1 := 146) (a2 := 0) (pc1 := 210) (l1 := [(0, .ref 106), (1, .int x1), (2, .int x2), (3, .int x3), (4, .int x4)]) (st1 := [.int x3, .int (7 : Int32), .ref 106]) (σ1 := σ) (by decide +kernel) rfl (fun hC => ?_)
    obtain ⟨q10, hq, h⟩ := Option.bind_eq_some_iff.mp h
    refine jE_call (as := [.ref 106, .int (7 : Int32), .int x3]) (pc1 := 213) (st1 := []) hC rfl (by decide) (by omega) (x_r_fails (d - 1) (by omega) (7 : Int32) x3 σ q10 (some (.int q10.1), q10.2) hq rfl) ?_
    refine jE_blk (bs := []) (i := .ireturn) (a1 := 1) (a2 := 0) (pc1 := 213) (l1 := [(0, .ref 106), (1, .int x1), (2, .int x2), (3, .int x3), (4, .int x4)]) (st1 := [.int q10.1]) (σ1 := q10.2) (by decide +kernel) rfl (fun hC => ?_)
    obtain ⟨hb, h⟩ := jx_ite_inv h
    have h9 := Option.some.inj h
    subst h9
    have e9 : ((some (.int q10.1), q10.2) : Option Value × jx_S) = res := hK
    subst e9
    exact jE_bret hC hb
def p_r_check_181 (x1 : Int32) (x2 : Int32) (x3 : Int32) (y0 : Int32) (σ : jx_S) : Option (Int32 × jx_S) := (p_r_check_201 x1 x2 x3 y0 σ)
theorem x_r_check_181 (d : Nat) (hd : 4 ≤ d) (x1 : Int32) (x2 : Int32) (x3 : Int32) (y0 : Int32) (σ : jx_S) (t : (Int32 × jx_S)) (res : Option Value × jx_S) (h : p_r_check_181 x1 x2 x3 y0 σ = some t) (hK : kkI t res) : jE d 181 181 [(0, .ref 106), (1, .int x1), (2, .int x2), (3, .int x3)] [.int y0] σ res := by
  unfold p_r_check_181 at h
  refine jE_blk (bs := [(.istore 4, 5, 0), (.goto (18), 0, 0)]) (i := .iload 4) (a1 := 0) (a2 := 0) (pc1 := 201) (l1 := [(4, .int y0), (0, .ref 106), (1, .int x1), (2, .int x2), (3, .int x3)]) (st1 := []) (σ1 := σ) (by decide +kernel) rfl (fun hC => ?_)
  exact jE_loc (l := [(0, .ref 106), (1, .int x1), (2, .int x2), (3, .int x3), (4, .int y0)]) (ks := [0, 1, 2, 3, 4]) rfl (by decide) ⟨rfl, rfl, rfl, rfl, rfl, trivial⟩ (x_r_check_201 d hd x1 x2 x3 y0 σ _ res h hK)
def p_r_check_172 (x1 : Int32) (x2 : Int32) (x3 : Int32) (σ : jx_S) : Option (Int32 × jx_S) := (if ¬ x2 = 0 then (p_r_check_181 x1 x2 x3 (0 : Int32) σ) else (p_r_check_181 x1 x2 x3 (1 : Int32) σ))
theorem x_r_check_172 (d : Nat) (hd : 4 ≤ d) (x1 : Int32) (x2 : Int32) (x3 : Int32) (σ : jx_S) (t : (Int32 × jx_S)) (res : Option Value × jx_S) (h : p_r_check_172 x1 x2 x3 σ = some t) (hK : kkI t res) : jE d 181 172 [(0, .ref 106), (1, .int x1), (2, .int x2), (3, .int x3)] [] σ res := by
  unfold p_r_check_172 at h
  refine jE_blk (bs := [(.iload_n 2, 0, 0)]) (i := .ifCond .ne (7)) (a1 := 0) (a2 := 0) (pc1 := 173) (l1 := [(0, .ref 106), (1, .int x1), (2, .int x2), (3, .int x3)]) (st1 := [.int x2]) (σ1 := σ) (by decide +kernel) rfl (fun hC => ?_)
  rcases Classical.em (¬ x2 = 0) with hc | hc
  · rw [if_pos hc] at h
    refine jE_ifT 180 hC (by decide) hc ?_
    refine jE_blk (bs := [(.iconst (0), 0, 0)]) (i := .istore 4) (a1 := 5) (a2 := 0) (pc1 := 181) (l1 := [(0, .ref 106), (1, .int x1), (2, .int x2), (3, .int x3)]) (st1 := [.int (0 : Int32)]) (σ1 := σ) (by decide +kernel) rfl (fun hC => ?_)
    exact jE_loc (l := [(0, .ref 106), (1, .int x1), (2, .int x2), (3, .int x3)]) (ks := [0, 1, 2, 3]) rfl (by decide) ⟨rfl, rfl, rfl, rfl, trivial⟩ (x_r_check_181 d hd x1 x2 x3 (0 : Int32) σ _ res h hK)
  · rw [if_neg hc] at h
    refine jE_ifF 180 hC (by decide) hc ?_
    refine jE_blk (bs := [(.iconst (1), 1, 0), (.goto (4), 0, 0)]) (i := .istore 4) (a1 := 5) (a2 := 0) (pc1 := 181) (l1 := [(0, .ref 106), (1, .int x1), (2, .int x2), (3, .int x3)]) (st1 := [.int (1 : Int32)]) (σ1 := σ) (by decide +kernel) rfl (fun hC => ?_)
    exact jE_loc (l := [(0, .ref 106), (1, .int x1), (2, .int x2), (3, .int x3)]) (ks := [0, 1, 2, 3]) rfl (by decide) ⟨rfl, rfl, rfl, rfl, trivial⟩ (x_r_check_181 d hd x1 x2 x3 (1 : Int32) σ _ res h hK)
def p_r_check_196 (x1 : Int32) (x2 : Int32) (x3 : Int32) (y0 : Int32) (σ : jx_S) : Option (Int32 × jx_S) := (p_r_check_201 x1 x2 x3 y0 σ)
theorem x_r_check_196 (d : Nat) (hd : 4 ≤ d) (x1 : Int32) (x2 : Int32) (x3 : Int32) (y0 : Int32) (σ : jx_S) (t : (Int32 × jx_S)) (res : Option Value × jx_S) (h : p_r_check_196 x1 x2 x3 y0 σ = some t) (hK : kkI t res) : jE d 181 196 [(0, .ref 106), (1, .int x1), (2, .int x2), (3, .int x3)] [.int y0] σ res := by
  unfold p_r_check_196 at h
  refine jE_blk (bs := [(.istore 4, 5, 0), (.goto (3), 0, 0)]) (i := .iload 4) (a1 := 0) (a2 := 0) (pc1 := 201) (l1 := [(4, .int y0), (0, .ref 106), (1, .int x1), (2, .int x2), (3, .int x3)]) (st1 := []) (σ1 := σ) (by decide +kernel) rfl (fun hC => ?_)
  exact jE_loc (l := [(0, .ref 106), (1, .int x1), (2, .int x2), (3, .int x3), (4, .int y0)]) (ks := [0, 1, 2, 3, 4]) rfl (by decide) ⟨rfl, rfl, rfl, rfl, rfl, trivial⟩ (x_r_check_201 d hd x1 x2 x3 y0 σ _ res h hK)
def p_r_check_186 (x1 : Int32) (x2 : Int32) (x3 : Int32) (σ : jx_S) : Option (Int32 × jx_S) := (if ¬ x2 = (1 : Int32) then (p_r_check_196 x1 x2 x3 (0 : Int32) σ) else (p_r_check_196 x1 x2 x3 (1 : Int32) σ))
theorem x_r_check_186 (d : Nat) (hd : 4 ≤ d) (x1 : Int32) (x2 : Int32) (x3 : Int32) (σ : jx_S) (t : (Int32 × jx_S)) (res : Option Value × jx_S) (h : p_r_check_186 x1 x2 x3 σ = some t) (hK : kkI t res) : jE d 181 186 [(0, .ref 106), (1, .int x1), (2, .int x2), (3, .int x3)] [] σ res := by
  unfold p_r_check_186 at h
  refine jE_blk (bs := [(.iload_n 2, 0, 0), (.iconst (1), 1, 0)]) (i := .if_icmp .ne (7)) (a1 := 0) (a2 := 0) (pc1 := 188) (l1 := [(0, .ref 106), (1, .int x1), (2, .int x2), (3, .int x3)]) (st1 := [.int (1 : Int32), .int x2]) (σ1 := σ) (by decide +kernel) rfl (fun hC => ?_)
  rcases Classical.em (¬ x2 = (1 : Int32)) with hc | hc
  · rw [if_pos hc] at h
    refine jE_icT 195 hC (by decide) hc ?_
    refine jE_blk (bs := [(.iconst (0), 0, 0)]) (i := .istore 4) (a1 := 5) (a2 := 0) (pc1 := 196) (l1 := [(0, .ref 106), (1, .int x1), (2, .int x2), (3, .int x3)]) (st1 := [.int (0 : Int32)]) (σ1 := σ) (by decide +kernel) rfl (fun hC => ?_)
    exact jE_loc (l := [(0, .ref 106), (1, .int x1), (2, .int x2), (3, .int x3)]) (ks := [0, 1, 2, 3]) rfl (by decide) ⟨rfl, rfl, rfl, rfl, trivial⟩ (x_r_check_196 d hd x1 x2 x3 (0 : Int32) σ _ res h hK)
  · rw [if_neg hc] at h
    refine jE_icF 195 hC (by decide) hc ?_
    refine jE_blk (bs := [(.iconst (1), 1, 0), (.goto (4), 0, 0)]) (i := .istore 4) (a1 := 5) (a2 := 0) (pc1 := 196) (l1 := [(0, .ref 106), (1, .int x1), (2, .int x2), (3, .int x3)]) (st1 := [.int (1 : Int32)]) (σ1 := σ) (by decide +kernel) rfl (fun hC => ?_)
    exact jE_loc (l := [(0, .ref 106), (1, .int x1), (2, .int x2), (3, .int x3)]) (ks := [0, 1, 2, 3]) rfl (by decide) ⟨rfl, rfl, rfl, rfl, trivial⟩ (x_r_check_196 d hd x1 x2 x3 (1 : Int32) σ _ res h hK)
def p_r_check_46 (x1 : Int32) (x2 : Int32) (x3 : Int32) (y0 : Int32) (σ : jx_S) : Option (Int32 × jx_S) := (if x1 < 0 ∨ 3000 ≤ (x1).toNatClampNeg then none else (if ((σ.1 112) (x1).toNatClampNeg) = 2 then (p_r_check_172 x1 x2 x3 σ) else (if ((σ.1 112) (x1).toNatClampNeg) = 13 then (p_r_check_186 x1 x2 x3 σ) else (if ((σ.1 112) (x1).toNatClampNeg) = 14 then (p_r_check_186 x1 x2 x3 σ) else (if ((σ.1 112) (x1).toNatClampNeg) = 19 then (p_r_check_172 x1 x2 x3 σ) else (if ((σ.1 112) (x1).toNatClampNeg) = 23 then (p_r_check_172 x1 x2 x3 σ) else (if ((σ.1 112) (x1).toNatClampNeg) = 24 then (p_r_check_172 x1 x2 x3 σ) else (if ((σ.1 112) (x1).toNatClampNeg) = 25 then (p_r_check_172 x1 x2 x3 σ) else (if ((σ.1 112) (x1).toNatClampNeg) = 26 then (p_r_check_172 x1 x2 x3 σ) else (if ((σ.1 112) (x1).toNatClampNeg) = 27 then (p_r_check_172 x1 x2 x3 σ) else (p_r_check_201 x1 x2 x3 y0 σ)))))))))))
theorem x_r_check_46 (d : Nat) (hd : 4 ≤ d) (x1 : Int32) (x2 : Int32) (x3 : Int32) (y0 : Int32) (σ : jx_S) (t : (Int32 × jx_S)) (res : Option Value × jx_S) (h : p_r_check_46 x1 x2 x3 y0 σ = some t) (hK : kkI t res) : jE d 181 46 [(0, .ref 106), (1, .int x1), (2, .int x2), (3, .int x3)] [.int y0] σ res := by
  unfold p_r_check_46 at h
  refine jE_blk (bs := [(.istore 4, 5, 0), (.aload_n 0, 0, 0), (.getfield 29, 12, 11), (.iload_n 1, 0, 0)]) (i := .iaload) (a1 := 0) (a2 := 0) (pc1 := 53) (l1 := [(4, .int y0), (0, .ref 106), (1, .int x1), (2, .int x2), (3, .int x3)]) (st1 := [.int x1, .ref 112]) (σ1 := σ) (by decide +kernel) rfl (fun hC => ?_)
  obtain ⟨hi, h⟩ := jx_ite0_inv h
  refine jE_iald (n := 3000) hC (by decide) rfl hi ?_
  refine jE_blk (bs := []) (i := .tableswitch (147) (2) (27) #[118, 147, 147, 147, 147, 147, 147, 147, 147, 147, 147, 132, 132, 147, 147, 147, 147, 118, 147, 147, 147, 118, 118, 118, 118, 118]) (a1 := 0) (a2 := 0) (pc1 := 54) (l1 := [(4, .int y0), (0, .ref 106), (1, .int x1), (2, .int x2), (3, .int x3)]) (st1 := [.int ((σ.1 112) (x1).toNatClampNeg)]) (σ1 := σ) (by decide +kernel) rfl (fun hC => ?_)
  rcases Classical.em (((σ.1 112) (x1).toNatClampNeg) = 2) with hc0 | hc0
  · rw [if_pos hc0] at h
    refine jE_tsw 172 2 hC hc0 (by decide +kernel) ?_
    exact jE_loc (l := [(0, .ref 106), (1, .int x1), (2, .int x2), (3, .int x3)]) (ks := [0, 1, 2, 3]) rfl (by decide) ⟨rfl, rfl, rfl, rfl, trivial⟩ (x_r_check_172 d hd x1 x2 x3 σ _ res h hK)
  · rw [if_neg hc0] at h
    rcases Classical.em (((σ.1 112) (x1).toNatClampNeg) = 13) with hc1 | hc1
    · rw [if_pos hc1] at h
      refine jE_tsw 186 13 hC hc1 (by decide +kernel) ?_
      exact jE_loc (l := [(0, .ref 106), (1, .int x1), (2, .int x2), (3, .int x3)]) (ks := [0, 1, 2, 3]) rfl (by decide) ⟨rfl, rfl, rfl, rfl, trivial⟩ (x_r_check_186 d hd x1 x2 x3 σ _ res h hK)
    · rw [if_neg hc1] at h
      rcases Classical.em (((σ.1 112) (x1).toNatClampNeg) = 14) with hc2 | hc2
      · rw [if_pos hc2] at h
        refine jE_tsw 186 14 hC hc2 (by decide +kernel) ?_
        exact jE_loc (l := [(0, .ref 106), (1, .int x1), (2, .int x2), (3, .int x3)]) (ks := [0, 1, 2, 3]) rfl (by decide) ⟨rfl, rfl, rfl, rfl, trivial⟩ (x_r_check_186 d hd x1 x2 x3 σ _ res h hK)
      · rw [if_neg hc2] at h
        rcases Classical.em (((σ.1 112) (x1).toNatClampNeg) = 19) with hc3 | hc3
        · rw [if_pos hc3] at h
          refine jE_tsw 172 19 hC hc3 (by decide +kernel) ?_
          exact jE_loc (l := [(0, .ref 106), (1, .int x1), (2, .int x2), (3, .int x3)]) (ks := [0, 1, 2, 3]) rfl (by decide) ⟨rfl, rfl, rfl, rfl, trivial⟩ (x_r_check_172 d hd x1 x2 x3 σ _ res h hK)
        · rw [if_neg hc3] at h
          rcases Classical.em (((σ.1 112) (x1).toNatClampNeg) = 23) with hc4 | hc4
          · rw [if_pos hc4] at h
            refine jE_tsw 172 23 hC hc4 (by decide +kernel) ?_
            exact jE_loc (l := [(0, .ref 106), (1, .int x1), (2, .int x2), (3, .int x3)]) (ks := [0, 1, 2, 3]) rfl (by decide) ⟨rfl, rfl, rfl, rfl, trivial⟩ (x_r_check_172 d hd x1 x2 x3 σ _ res h hK)
          · rw [if_neg hc4] at h
            rcases Classical.em (((σ.1 112) (x1).toNatClampNeg) = 24) with hc5 | hc5
            · rw [if_pos hc5] at h
              refine jE_tsw 172 24 hC hc5 (by decide +kernel) ?_
              exact jE_loc (l := [(0, .ref 106), (1, .int x1), (2, .int x2), (3, .int x3)]) (ks := [0, 1, 2, 3]) rfl (by decide) ⟨rfl, rfl, rfl, rfl, trivial⟩ (x_r_check_172 d hd x1 x2 x3 σ _ res h hK)
            · rw [if_neg hc5] at h
              rcases Classical.em (((σ.1 112) (x1).toNatClampNeg) = 25) with hc6 | hc6
              · rw [if_pos hc6] at h
                refine jE_tsw 172 25 hC hc6 (by decide +kernel) ?_
                exact jE_loc (l := [(0, .ref 106), (1, .int x1), (2, .int x2), (3, .int x3)]) (ks := [0, 1, 2, 3]) rfl (by decide) ⟨rfl, rfl, rfl, rfl, trivial⟩ (x_r_check_172 d hd x1 x2 x3 σ _ res h hK)
              · rw [if_neg hc6] at h
                rcases Classical.em (((σ.1 112) (x1).toNatClampNeg) = 26) with hc7 | hc7
                · rw [if_pos hc7] at h
                  refine jE_tsw 172 26 hC hc7 (by decide +kernel) ?_
                  exact jE_loc (l := [(0, .ref 106), (1, .int x1), (2, .int x2), (3, .int x3)]) (ks := [0, 1, 2, 3]) rfl (by decide) ⟨rfl, rfl, rfl, rfl, trivial⟩ (x_r_check_172 d hd x1 x2 x3 σ _ res h hK)
                · rw [if_neg hc7] at h
                  rcases Classical.em (((σ.1 112) (x1).toNatClampNeg) = 27) with hc8 | hc8
                  · rw [if_pos hc8] at h
                    refine jE_tsw 172 27 hC hc8 (by decide +kernel) ?_
                    exact jE_loc (l := [(0, .ref 106), (1, .int x1), (2, .int x2), (3, .int x3)]) (ks := [0, 1, 2, 3]) rfl (by decide) ⟨rfl, rfl, rfl, rfl, trivial⟩ (x_r_check_172 d hd x1 x2 x3 σ _ res h hK)
                  · rw [if_neg hc8] at h
                    refine jE_tswD 201 [2, 13, 14, 19, 23, 24, 25, 26, 27] hC (by decide +kernel) ⟨hc0, hc1, hc2, hc3, hc4, hc5, hc6, hc7, hc8, trivial⟩ ?_
                    exact jE_loc (l := [(0, .ref 106), (1, .int x1), (2, .int x2), (3, .int x3), (4, .int y0)]) (ks := [0, 1, 2, 3, 4]) rfl (by decide) ⟨rfl, rfl, rfl, rfl, rfl, trivial⟩ (x_r_check_201 d hd x1 x2 x3 y0 σ _ res h hK)
def p_r_check (x1 : Int32) (x2 : Int32) (σ : jx_S) : Option (Int32 × jx_S) := (if x1 < 0 ∨ 3000 ≤ (x1).toNatClampNeg then none else (if x1 < 0 ∨ 3000 ≤ (x1).toNatClampNeg then none else (if ((σ.1 113) (x1).toNatClampNeg) < 0 ∨ 1202 ≤ (((σ.1 113) (x1).toNatClampNeg)).toNatClampNeg then none else (if x1 < 0 ∨ 3000 ≤ (x1).toNatClampNeg then none else (if ¬ ((σ.1 112) (x1).toNatClampNeg) = (1 : Int32) then (if (2 : Int32) ≤ x2 then (p_r_check_46 x1 x2 ((σ.1 109) (((σ.1 113) (x1).toNatClampNeg)).toNatClampNeg) (0 : Int32) (jx_i σ 124 (x1).toNatClampNeg x2)) else (p_r_check_46 x1 x2 ((σ.1 109) (((σ.1 113) (x1).toNatClampNeg)).toNatClampNeg) (1 : Int32) (jx_i σ 124 (x1).toNatClampNeg x2))) else ((p_r_checkName x1 x2 (jx_i σ 124 (x1).toNatClampNeg x2)).bind fun q11 => (if q11.1 = 0 ∨ q11.1 = 1 then (some ((q11.1, q11.2))) else none)))))))
theorem x_r_check (d : Nat) (hd : 4 ≤ d) (x1 : Int32) (x2 : Int32) (σ : jx_S) (t : (Int32 × jx_S)) (res : Option Value × jx_S) (h : p_r_check x1 x2 σ = some t) (hK : kkI t res) : jE d 181 0 [(0, .ref 106), (1, .int x1), (2, .int x2)] [] σ res := by
  unfold p_r_check at h
  refine jE_blk (bs := [(.aload_n 0, 0, 0), (.getfield 65, 12, 23), (.iload_n 1, 0, 0), (.iload_n 2, 0, 0)]) (i := .iastore) (a1 := 0) (a2 := 0) (pc1 := 6) (l1 := [(0, .ref 106), (1, .int x1), (2, .int x2)]) (st1 := [.int x2, .int x1, .ref 124]) (σ1 := σ) (by decide +kernel) rfl (fun hC => ?_)
  obtain ⟨hi, h⟩ := jx_ite0_inv h
  refine jE_iast (n := 3000) hC (by decide) rfl hi ?_
  refine jE_blk (bs := [(.aload_n 0, 0, 0), (.getfield 20, 12, 7), (.aload_n 0, 0, 0), (.getfield 32, 12, 12), (.iload_n 1, 0, 0)]) (i := .iaload) (a1 := 0) (a2 := 0) (pc1 := 16) (l1 := [(0, .ref 106), (1, .int x1), (2, .int x2)]) (st1 := [.int x1, .ref 113, .ref 109]) (σ1 := (jx_i σ 124 (x1).toNatClampNeg x2)) (by decide +kernel) rfl (fun hC => ?_)
  obtain ⟨hi, h⟩ := jx_ite0_inv h
  refine jE_iald (n := 3000) hC (by decide) rfl hi ?_
  refine jE_blk (bs := []) (i := .iaload) (a1 := 0) (a2 := 0) (pc1 := 17) (l1 := [(0, .ref 106), (1, .int x1), (2, .int x2)]) (st1 := [.int ((σ.1 113) (x1).toNatClampNeg), .ref 109]) (σ1 := (jx_i σ 124 (x1).toNatClampNeg x2)) (by decide +kernel) rfl (fun hC => ?_)
  obtain ⟨hi, h⟩ := jx_ite0_inv h
  refine jE_iald (n := 1202) hC (by decide) rfl hi ?_
  refine jE_blk (bs := [(.istore_n 3, 5, 0), (.aload_n 0, 0, 0), (.getfield 29, 12, 11), (.iload_n 1, 0, 0)]) (i := .iaload) (a1 := 0) (a2 := 0) (pc1 := 24) (l1 := [(3, .int ((σ.1 109) (((σ.1 113) (x1).toNatClampNeg)).toNatClampNeg)), (0, .ref 106), (1, .int x1), (2, .int x2)]) (st1 := [.int x1, .ref 112]) (σ1 := (jx_i σ 124 (x1).toNatClampNeg x2)) (by decide +kernel) rfl (fun hC => ?_)
  obtain ⟨hi, h⟩ := jx_ite0_inv h
  refine jE_iald (n := 3000) hC (by decide) rfl hi ?_
  refine jE_blk (bs := [(.iconst (1), 1, 0)]) (i := .if_icmp .ne (10)) (a1 := 0) (a2 := 0) (pc1 := 26) (l1 := [(3, .int ((σ.1 109) (((σ.1 113) (x1).toNatClampNeg)).toNatClampNeg)), (0, .ref 106), (1, .int x1), (2, .int x2)]) (st1 := [.int (1 : Int32), .int ((σ.1 112) (x1).toNatClampNeg)]) (σ1 := (jx_i σ 124 (x1).toNatClampNeg x2)) (by decide +kernel) rfl (fun hC => ?_)
  rcases Classical.em (¬ ((σ.1 112) (x1).toNatClampNeg) = (1 : Int32)) with hc | hc
  · rw [if_pos hc] at h
    refine jE_icT 36 hC (by decide) hc ?_
    refine jE_blk (bs := [(.iload_n 2, 0, 0), (.iconst (2), 2, 0)]) (i := .if_icmp .ge (7)) (a1 := 0) (a2 := 0) (pc1 := 38) (l1 := [(3, .int ((σ.1 109) (((σ.1 113) (x1).toNatClampNeg)).toNatClampNeg)), (0, .ref 106), (1, .int x1), (2, .int x2)]) (st1 := [.int (2 : Int32), .int x2]) (σ1 := (jx_i σ 124 (x1).toNatClampNeg x2)) (by decide +kernel) rfl (fun hC => ?_)
    rcases Classical.em ((2 : Int32) ≤ x2) with hc | hc
    · rw [if_pos hc] at h
      refine jE_icT 45 hC (by decide) hc ?_
      refine jE_blk (bs := [(.iconst (0), 0, 0)]) (i := .istore 4) (a1 := 5) (a2 := 0) (pc1 := 46) (l1 := [(3, .int ((σ.1 109) (((σ.1 113) (x1).toNatClampNeg)).toNatClampNeg)), (0, .ref 106), (1, .int x1), (2, .int x2)]) (st1 := [.int (0 : Int32)]) (σ1 := (jx_i σ 124 (x1).toNatClampNeg x2)) (by decide +kernel) rfl (fun hC => ?_)
      exact jE_loc (l := [(0, .ref 106), (1, .int x1), (2, .int x2), (3, .int ((σ.1 109) (((σ.1 113) (x1).toNatClampNeg)).toNatClampNeg))]) (ks := [0, 1, 2, 3]) rfl (by decide) ⟨rfl, rfl, rfl, rfl, trivial⟩ (x_r_check_46 d hd x1 x2 ((σ.1 109) (((σ.1 113) (x1).toNatClampNeg)).toNatClampNeg) (0 : Int32) (jx_i σ 124 (x1).toNatClampNeg x2) _ res h hK)
    · rw [if_neg hc] at h
      refine jE_icF 45 hC (by decide) hc ?_
      refine jE_blk (bs := [(.iconst (1), 1, 0), (.goto (4), 0, 0)]) (i := .istore 4) (a1 := 5) (a2 := 0) (pc1 := 46) (l1 := [(3, .int ((σ.1 109) (((σ.1 113) (x1).toNatClampNeg)).toNatClampNeg)), (0, .ref 106), (1, .int x1), (2, .int x2)]) (st1 := [.int (1 : Int32)]) (σ1 := (jx_i σ 124 (x1).toNatClampNeg x2)) (by decide +kernel) rfl (fun hC => ?_)
      exact jE_loc (l := [(0, .ref 106), (1, .int x1), (2, .int x2), (3, .int ((σ.1 109) (((σ.1 113) (x1).toNatClampNeg)).toNatClampNeg))]) (ks := [0, 1, 2, 3]) rfl (by decide) ⟨rfl, rfl, rfl, rfl, trivial⟩ (x_r_check_46 d hd x1 x2 ((σ.1 109) (((σ.1 113) (x1).toNatClampNeg)).toNatClampNeg) (1 : Int32) (jx_i σ 124 (x1).toNatClampNeg x2) _ res h hK)
  · rw [if_neg hc] at h
    refine jE_icF 36 hC (by decide) hc ?_
    refine jE_blk (bs := [(.aload_n 0, 0, 0), (.iload_n 1, 0, 0), (.iload_n 2, 0, 0)]) (i := .invokevirtual 401) (a1 := 185) (a2 := 0) (pc1 := 32) (l1 := [(3, .int ((σ.1 109) (((σ.1 113) (x1).toNatClampNeg)).toNatClampNeg)), (0, .ref 106), (1, .int x1), (2, .int x2)]) (st1 := [.int x2, .int x1, .ref 106]) (σ1 := (jx_i σ 124 (x1).toNatClampNeg x2)) (by decide +kernel) rfl (fun hC => ?_)
    obtain ⟨q11, hq, h⟩ := Option.bind_eq_some_iff.mp h
    refine jE_call (as := [.ref 106, .int x1, .int x2]) (pc1 := 35) (st1 := []) hC rfl (by decide) (by omega) (x_r_checkName (d - 1) (by omega) x1 x2 (jx_i σ 124 (x1).toNatClampNeg x2) q11 (some (.int q11.1), q11.2) hq rfl) ?_
    refine jE_blk (bs := []) (i := .ireturn) (a1 := 1) (a2 := 0) (pc1 := 35) (l1 := [(3, .int ((σ.1 109) (((σ.1 113) (x1).toNatClampNeg)).toNatClampNeg)), (0, .ref 106), (1, .int x1), (2, .int x2)]) (st1 := [.int q11.1]) (σ1 := q11.2) (by decide +kernel) rfl (fun hC => ?_)
    obtain ⟨hb, h⟩ := jx_ite_inv h
    have h9 := Option.some.inj h
    subst h9
    have e9 : ((some (.int q11.1), q11.2) : Option Value × jx_S) = res := hK
    subst e9
    exact jE_bret hC hb
def kk_r_types_2 (d : Nat) (t : ((Int32 × jx_S) ⊕ (Int32 × jx_S))) (res : Option Value × jx_S) : Prop := match t with
  | .inl s => jE d 180 2 [(0, .ref 106), (1, .int s.1)] [] s.2 res
  | .inr t => kkI t res
def kk_r_types_36 (d : Nat) (t : ((Int32 × jx_S) ⊕ ((Int32 × jx_S) ⊕ (Int32 × jx_S)))) (res : Option Value × jx_S) : Prop := match t with
  | .inl s => jE d 180 36 [(0, .ref 106), (1, .int s.1)] [] s.2 res
  | .inr t => kk_r_types_2 d t res
def p_r_types_36_s (x1 : Int32) (σ : jx_S) : Option ((Int32 × jx_S) ⊕ ((Int32 × jx_S) ⊕ (Int32 × jx_S))) := (if (σ.1 106 55) ≤ 0 then (Option.map Sum.inr (some (.inl ((x1 + 1), σ)))) else (if ((σ.1 106 55) - (1 : Int32)) < 0 ∨ 3000 ≤ (((σ.1 106 55) - (1 : Int32))).toNatClampNeg then none else (if ((σ.1 106 55) - (1 : Int32)) < 0 ∨ 3000 ≤ (((σ.1 106 55) - (1 : Int32))).toNatClampNeg then none else ((p_r_check ((σ.1 144) (((σ.1 106 55) - (1 : Int32))).toNatClampNeg) ((σ.1 145) (((σ.1 106 55) - (1 : Int32))).toNatClampNeg) (jx_i σ 106 55 ((σ.1 106 55) - (1 : Int32)))).bind fun q4 => (if ¬ q4.1 = 0 then (some (.inl (x1, q4.2))) else (Option.map Sum.inr (Option.map Sum.inr (some (((0 : Int32), q4.2))))))))))
theorem x_r_types_36_s (d : Nat) (hd : 5 ≤ d) (x1 : Int32) (σ : jx_S) (t : ((Int32 × jx_S) ⊕ ((Int32 × jx_S) ⊕ (Int32 × jx_S)))) (res : Option Value × jx_S) (h : p_r_types_36_s x1 σ = some t) (hK : kk_r_types_36 d t res) : jE d 180 36 [(0, .ref 106), (1, .int x1)] [] σ res := by
  unfold p_r_types_36_s at h
  refine jE_blk (bs := [(.aload_n 0, 0, 0), (.getfield 389, 12, 55)]) (i := .ifCond .le (40)) (a1 := 0) (a2 := 0) (pc1 := 40) (l1 := [(0, .ref 106), (1, .int x1)]) (st1 := [.int (σ.1 106 55)]) (σ1 := σ) (by decide +kernel) rfl (fun hC => ?_)
  rcases Classical.em ((σ.1 106 55) ≤ 0) with hc | hc
  · rw [if_pos hc] at h
    refine jE_ifT 80 hC (by decide) hc ?_
    obtain ⟨t9_3, h9_3, h8_3⟩ := Option.map_eq_some_iff.mp h
    clear h
    subst h8_3
    have h := h9_3
    clear h9_3
    refine jE_blk (bs := [(.iinc 1 (1), 2, 2), (.goto (-81), 0, 0)]) (i := .iload_n 1) (a1 := 0) (a2 := 0) (pc1 := 2) (l1 := [(1, .int (x1 + 1)), (0, .ref 106)]) (st1 := []) (σ1 := σ) (by decide +kernel) rfl (fun hC => ?_)
    have h9 := Option.some.inj h
    subst h9
    exact jE_loc (l := [(0, .ref 106), (1, .int (x1 + 1))]) (ks := [0, 1]) rfl (by decide) ⟨rfl, rfl, trivial⟩ hK
  · rw [if_neg hc] at h
    refine jE_ifF 80 hC (by decide) hc ?_
    refine jE_blk (bs := [(.aload_n 0, 0, 0), (.dup, 0, 0), (.getfield 389, 12, 55), (.iconst (1), 1, 0), (.isub, 0, 0), (.putfield 389, 12, 55), (.aload_n 0, 0, 0), (.aload_n 0, 0, 0), (.getfield 126, 12, 53), (.aload_n 0, 0, 0), (.getfield 389, 12, 55)]) (i := .iaload) (a1 := 0) (a2 := 0) (pc1 := 62) (l1 := [(0, .ref 106), (1, .int x1)]) (st1 := [.int ((σ.1 106 55) - (1 : Int32)), .ref 144, .ref 106]) (σ1 := (jx_i σ 106 55 ((σ.1 106 55) - (1 : Int32)))) (by decide +kernel) rfl (fun hC => ?_)
    obtain ⟨hi, h⟩ := jx_ite0_inv h
    refine jE_iald (n := 3000) hC (by decide) rfl hi ?_
    refine jE_blk (bs := [(.aload_n 0, 0, 0), (.getfield 129, 12, 54), (.aload_n 0, 0, 0), (.getfield 389, 12, 55)]) (i := .iaload) (a1 := 0) (a2 := 0) (pc1 := 71) (l1 := [(0, .ref 106), (1, .int x1)]) (st1 := [.int ((σ.1 106 55) - (1 : Int32)), .ref 145, .int ((σ.1 144) (((σ.1 106 55) - (1 : Int32))).toNatClampNeg), .ref 106]) (σ1 := (jx_i σ 106 55 ((σ.1 106 55) - (1 : Int32)))) (by decide +kernel) rfl (fun hC => ?_)
    obtain ⟨hi, h⟩ := jx_ite0_inv h
    refine jE_iald (n := 3000) hC (by decide) rfl hi ?_
    refine jE_blk (bs := []) (i := .invokevirtual 398) (a1 := 181) (a2 := 0) (pc1 := 72) (l1 := [(0, .ref 106), (1, .int x1)]) (st1 := [.int ((σ.1 145) (((σ.1 106 55) - (1 : Int32))).toNatClampNeg), .int ((σ.1 144) (((σ.1 106 55) - (1 : Int32))).toNatClampNeg), .ref 106]) (σ1 := (jx_i σ 106 55 ((σ.1 106 55) - (1 : Int32)))) (by decide +kernel) rfl (fun hC => ?_)
    obtain ⟨q4, hq, h⟩ := Option.bind_eq_some_iff.mp h
    refine jE_call (as := [.ref 106, .int ((σ.1 144) (((σ.1 106 55) - (1 : Int32))).toNatClampNeg), .int ((σ.1 145) (((σ.1 106 55) - (1 : Int32))).toNatClampNeg)]) (pc1 := 75) (st1 := []) hC rfl (by decide) (by omega) (x_r_check (d - 1) (by omega) ((σ.1 144) (((σ.1 106 55) - (1 : Int32))).toNatClampNeg) ((σ.1 145) (((σ.1 106 55) - (1 : Int32))).toNatClampNeg) (jx_i σ 106 55 ((σ.1 106 55) - (1 : Int32))) q4 (some (.int q4.1), q4.2) hq rfl) ?_
    refine jE_blk (bs := []) (i := .ifCond .ne (-39)) (a1 := 0) (a2 := 0) (pc1 := 75) (l1 := [(0, .ref 106), (1, .int x1)]) (st1 := [.int q4.1]) (σ1 := q4.2) (by decide +kernel) rfl (fun hC => ?_)
    rcases Classical.em (¬ q4.1 = 0) with hc | hc
    · rw [if_pos hc] at h
      refine jE_ifT 36 hC (by decide) hc ?_
      have h9 := Option.some.inj h
      subst h9
      exact jE_loc (l := [(0, .ref 106), (1, .int x1)]) (ks := [0, 1]) rfl (by decide) ⟨rfl, rfl, trivial⟩ hK
    · rw [if_neg hc] at h
      refine jE_ifF 36 hC (by decide) hc ?_
      obtain ⟨t9_6, h9_6, h8_6⟩ := Option.map_eq_some_iff.mp h
      clear h
      subst h8_6
      have h := h9_6
      clear h9_6
      obtain ⟨t9_5, h9_5, h8_5⟩ := Option.map_eq_some_iff.mp h
      clear h
      subst h8_5
      have h := h9_5
      clear h9_5
      refine jE_blk (bs := [(.iconst (0), 0, 0)]) (i := .ireturn) (a1 := 1) (a2 := 0) (pc1 := 79) (l1 := [(0, .ref 106), (1, .int x1)]) (st1 := [.int (0 : Int32)]) (σ1 := q4.2) (by decide +kernel) rfl (fun hC => ?_)
      have h9 := Option.some.inj h
      subst h9
      have e9 : ((some (.int (0 : Int32)), q4.2) : Option Value × jx_S) = res := hK
      subst e9
      exact jE_ret hC rfl
def p_r_types_36 (x1 : Int32) (σ : jx_S) : Option ((Int32 × jx_S) ⊕ (Int32 × jx_S)) := jx_loop 100000000 (fun s => p_r_types_36_s s.1 (s.2)) (x1, σ)
theorem x_r_types_36 (d : Nat) (hd : 5 ≤ d) (x1 : Int32) (σ : jx_S) (t : ((Int32 × jx_S) ⊕ (Int32 × jx_S))) (res : Option Value × jx_S) (h : p_r_types_36 x1 σ = some t) (hK : kk_r_types_2 d t res) : jE d 180 36 [(0, .ref 106), (1, .int x1)] [] σ res := by
  refine jx_loop_ok (E := fun s t => ∀ res, kk_r_types_2 d t res → jE d 180 36 [(0, .ref 106), (1, .int s.1)] [] s.2 res) (fun s t hs => ?_) _ _ _ h res hK
  cases t with
  | inl s1 => exact fun b hb res hk => x_r_types_36_s d hd (s.1) (s.2) _ res hs (hb res hk)
  | inr b => exact fun res hk => x_r_types_36_s d hd (s.1) (s.2) _ res hs hk
def p_r_types_2_s (x1 : Int32) (σ : jx_S) : Option ((Int32 × jx_S) ⊕ (Int32 × jx_S)) := (if (σ.1 106 38) ≤ x1 then (Option.map Sum.inr (some (((1 : Int32), σ)))) else (if x1 < 0 ∨ 40 ≤ (x1).toNatClampNeg then none else (if x1 < 0 ∨ 40 ≤ (x1).toNatClampNeg then none else ((p_r_want ((σ.1 131) (x1).toNatClampNeg) ((σ.1 128) (x1).toNatClampNeg) (jx_i (jx_i σ 106 56 x1) 106 55 (0 : Int32))).bind fun q2 => (p_r_types_36 x1 q2)))))
theorem x_r_types_2_s (d : Nat) (hd : 5 ≤ d) (x1 : Int32) (σ : jx_S) (t : ((Int32 × jx_S) ⊕ (Int32 × jx_S))) (res : Option Value × jx_S) (h : p_r_types_2_s x1 σ = some t) (hK : kk_r_types_2 d t res) : jE d 180 2 [(0, .ref 106), (1, .int x1)] [] σ res := by
  unfold p_r_types_2_s at h
  refine jE_blk (bs := [(.iload_n 1, 0, 0), (.aload_n 0, 0, 0), (.getfield 219, 12, 38)]) (i := .if_icmp .ge (79)) (a1 := 0) (a2 := 0) (pc1 := 7) (l1 := [(0, .ref 106), (1, .int x1)]) (st1 := [.int (σ.1 106 38), .int x1]) (σ1 := σ) (by decide +kernel) rfl (fun hC => ?_)
  rcases Classical.em ((σ.1 106 38) ≤ x1) with hc | hc
  · rw [if_pos hc] at h
    refine jE_icT 86 hC (by decide) hc ?_
    obtain ⟨t9_1, h9_1, h8_1⟩ := Option.map_eq_some_iff.mp h
    clear h
    subst h8_1
    have h := h9_1
    clear h9_1
    refine jE_blk (bs := [(.iconst (1), 1, 0)]) (i := .ireturn) (a1 := 1) (a2 := 0) (pc1 := 87) (l1 := [(0, .ref 106), (1, .int x1)]) (st1 := [.int (1 : Int32)]) (σ1 := σ) (by decide +kernel) rfl (fun hC => ?_)
    have h9 := Option.some.inj h
    subst h9
    have e9 : ((some (.int (1 : Int32)), σ) : Option Value × jx_S) = res := hK
    subst e9
    exact jE_ret hC rfl
  · rw [if_neg hc] at h
    refine jE_icF 86 hC (by decide) hc ?_
    refine jE_blk (bs := [(.aload_n 0, 0, 0), (.iload_n 1, 0, 0), (.putfield 392, 12, 56), (.aload_n 0, 0, 0), (.iconst (0), 0, 0), (.putfield 389, 12, 55), (.aload_n 0, 0, 0), (.aload_n 0, 0, 0), (.getfield 87, 12, 31), (.iload_n 1, 0, 0)]) (i := .iaload) (a1 := 0) (a2 := 0) (pc1 := 26) (l1 := [(0, .ref 106), (1, .int x1)]) (st1 := [.int x1, .ref 131, .ref 106]) (σ1 := (jx_i (jx_i σ 106 56 x1) 106 55 (0 : Int32))) (by decide +kernel) rfl (fun hC => ?_)
    obtain ⟨hi, h⟩ := jx_ite0_inv h
    refine jE_iald (n := 40) hC (by decide) rfl hi ?_
    refine jE_blk (bs := [(.aload_n 0, 0, 0), (.getfield 78, 12, 28), (.iload_n 1, 0, 0)]) (i := .iaload) (a1 := 0) (a2 := 0) (pc1 := 32) (l1 := [(0, .ref 106), (1, .int x1)]) (st1 := [.int x1, .ref 128, .int ((σ.1 131) (x1).toNatClampNeg), .ref 106]) (σ1 := (jx_i (jx_i σ 106 56 x1) 106 55 (0 : Int32))) (by decide +kernel) rfl (fun hC => ?_)
    obtain ⟨hi, h⟩ := jx_ite0_inv h
    refine jE_iald (n := 40) hC (by decide) rfl hi ?_
    refine jE_blk (bs := []) (i := .invokevirtual 395) (a1 := 179) (a2 := 0) (pc1 := 33) (l1 := [(0, .ref 106), (1, .int x1)]) (st1 := [.int ((σ.1 128) (x1).toNatClampNeg), .int ((σ.1 131) (x1).toNatClampNeg), .ref 106]) (σ1 := (jx_i (jx_i σ 106 56 x1) 106 55 (0 : Int32))) (by decide +kernel) rfl (fun hC => ?_)
    obtain ⟨q2, hq, h⟩ := Option.bind_eq_some_iff.mp h
    refine jE_call (as := [.ref 106, .int ((σ.1 131) (x1).toNatClampNeg), .int ((σ.1 128) (x1).toNatClampNeg)]) (pc1 := 36) (st1 := []) hC rfl (by decide) (by omega) (x_r_want (d - 1) (by omega) ((σ.1 131) (x1).toNatClampNeg) ((σ.1 128) (x1).toNatClampNeg) (jx_i (jx_i σ 106 56 x1) 106 55 (0 : Int32)) q2 (none, q2) hq rfl) ?_
    exact jE_loc (l := [(0, .ref 106), (1, .int x1)]) (ks := [0, 1]) rfl (by decide) ⟨rfl, rfl, trivial⟩ (x_r_types_36 d hd x1 q2 _ res h hK)
def p_r_types_2 (x1 : Int32) (σ : jx_S) : Option (Int32 × jx_S) := jx_loop 100000000 (fun s => p_r_types_2_s s.1 (s.2)) (x1, σ)
theorem x_r_types_2 (d : Nat) (hd : 5 ≤ d) (x1 : Int32) (σ : jx_S) (t : (Int32 × jx_S)) (res : Option Value × jx_S) (h : p_r_types_2 x1 σ = some t) (hK : kkI t res) : jE d 180 2 [(0, .ref 106), (1, .int x1)] [] σ res := by
  refine jx_loop_ok (E := fun s t => ∀ res, kkI t res → jE d 180 2 [(0, .ref 106), (1, .int s.1)] [] s.2 res) (fun s t hs => ?_) _ _ _ h res hK
  cases t with
  | inl s1 => exact fun b hb res hk => x_r_types_2_s d hd (s.1) (s.2) _ res hs (hb res hk)
  | inr b => exact fun res hk => x_r_types_2_s d hd (s.1) (s.2) _ res hs hk
def p_r_types (σ : jx_S) : Option (Int32 × jx_S) := (p_r_types_2 (0 : Int32) σ)
theorem x_r_types (d : Nat) (hd : 5 ≤ d) (σ : jx_S) (t : (Int32 × jx_S)) (res : Option Value × jx_S) (h : p_r_types σ = some t) (hK : kkI t res) : jE d 180 0 [(0, .ref 106)] [] σ res := by
  unfold p_r_types at h
  refine jE_blk (bs := [(.iconst (0), 0, 0), (.istore_n 1, 2, 0)]) (i := .iload_n 1) (a1 := 0) (a2 := 0) (pc1 := 2) (l1 := [(1, .int (0 : Int32)), (0, .ref 106)]) (st1 := []) (σ1 := σ) (by decide +kernel) rfl (fun hC => ?_)
  exact jE_loc (l := [(0, .ref 106), (1, .int (0 : Int32))]) (ks := [0, 1]) rfl (by decide) ⟨rfl, rfl, trivial⟩ (x_r_types_2 d hd (0 : Int32) σ _ res h hK)
def kk_r_countCases_2 (d : Nat) (t : ((Int32 × jx_S) ⊕ (Int32 × jx_S))) (res : Option Value × jx_S) : Prop := match t with
  | .inl s => jE d 187 2 [(0, .ref 106), (1, .int s.1)] [] s.2 res
  | .inr t => kkI t res
def kk_r_countCases_14 (d : Nat) (t : ((Int32 × Int32 × Int32 × jx_S) ⊕ ((Int32 × jx_S) ⊕ (Int32 × jx_S)))) (res : Option Value × jx_S) : Prop := match t with
  | .inl s => jE d 187 14 [(0, .ref 106), (1, .int s.1), (2, .int s.2.1), (3, .int s.2.2.1)] [] s.2.2.2 res
  | .inr t => kk_r_countCases_2 d t res
def p_r_countCases_14_s (x1 : Int32) (x2 : Int32) (x3 : Int32) (σ : jx_S) : Option ((Int32 × Int32 × Int32 × jx_S) ⊕ ((Int32 × jx_S) ⊕ (Int32 × jx_S))) := (if x1 < 0 ∨ 40 ≤ (x1).toNatClampNeg then none else (if ((σ.1 127) (x1).toNatClampNeg) ≤ x3 then (Option.map Sum.inr (if x2 ≤ (1000 : Int32) then (if x1 < 0 ∨ 40 ≤ (x1).toNatClampNeg then none else (some (.inl ((x1 + 1), (jx_i σ 133 (x1).toNatClampNeg x2))))) else (Option.map Sum.inr (if x1 < 0 ∨ 40 ≤ (x1).toNatClampNeg then none else (if ((σ.1 126) (x1).toNatClampNeg) < 0 ∨ 1202 ≤ (((σ.1 126) (x1).toNatClampNeg)).toNatClampNeg then none else ((p_r_fails (8 : Int32) ((σ.1 109) (((σ.1 126) (x1).toNatClampNeg)).toNatClampNeg) σ).bind fun q2 => (if q2.1 = 0 ∨ q2.1 = 1 then (some ((q2.1, q2.2))) else none))))))) else (if (((8 : Int32) * x1) + x3) < 0 ∨ 320 ≤ ((((8 : Int32) * x1) + x3)).toNatClampNeg then none else (some (.inl (x1, (x2 * (v_r_points ((σ.1 135) ((((8 : Int32) * x1) + x3)).toNatClampNeg) σ)), (x3 + 1), σ))))))
theorem x_r_countCases_14_s (d : Nat) (hd : 1 ≤ d) (x1 : Int32) (x2 : Int32) (x3 : Int32) (σ : jx_S) (t : ((Int32 × Int32 × Int32 × jx_S) ⊕ ((Int32 × jx_S) ⊕ (Int32 × jx_S)))) (res : Option Value × jx_S) (h : p_r_countCases_14_s x1 x2 x3 σ = some t) (hK : kk_r_countCases_14 d t res) : jE d 187 14 [(0, .ref 106), (1, .int x1), (2, .int x2), (3, .int x3)] [] σ res := by
  unfold p_r_countCases_14_s at h
  refine jE_blk (bs := [(.iload_n 3, 0, 0), (.aload_n 0, 0, 0), (.getfield 75, 12, 27), (.iload_n 1, 0, 0)]) (i := .iaload) (a1 := 0) (a2 := 0) (pc1 := 20) (l1 := [(0, .ref 106), (1, .int x1), (2, .int x2), (3, .int x3)]) (st1 := [.int x1, .ref 127, .int x3]) (σ1 := σ) (by decide +kernel) rfl (fun hC => ?_)
  obtain ⟨hi, h⟩ := jx_ite0_inv h
  refine jE_iald (n := 40) hC (by decide) rfl hi ?_
  refine jE_blk (bs := []) (i := .if_icmp .ge (26)) (a1 := 0) (a2 := 0) (pc1 := 21) (l1 := [(0, .ref 106), (1, .int x1), (2, .int x2), (3, .int x3)]) (st1 := [.int ((σ.1 127) (x1).toNatClampNeg), .int x3]) (σ1 := σ) (by decide +kernel) rfl (fun hC => ?_)
  rcases Classical.em (((σ.1 127) (x1).toNatClampNeg) ≤ x3) with hc | hc
  · rw [if_pos hc] at h
    refine jE_icT 47 hC (by decide) hc ?_
    obtain ⟨t9_4, h9_4, h8_4⟩ := Option.map_eq_some_iff.mp h
    clear h
    subst h8_4
    have h := h9_4
    clear h9_4
    refine jE_blk (bs := [(.iload_n 2, 0, 0), (.sipush (1000), 1000, 0)]) (i := .if_icmp .le (21)) (a1 := 0) (a2 := 0) (pc1 := 51) (l1 := [(0, .ref 106), (1, .int x1), (2, .int x2), (3, .int x3)]) (st1 := [.int (1000 : Int32), .int x2]) (σ1 := σ) (by decide +kernel) rfl (fun hC => ?_)
    rcases Classical.em (x2 ≤ (1000 : Int32)) with hc | hc
    · rw [if_pos hc] at h
      refine jE_icT 72 hC (by decide) hc ?_
      refine jE_blk (bs := [(.aload_n 0, 0, 0), (.getfield 93, 12, 33), (.iload_n 1, 0, 0), (.iload_n 2, 0, 0)]) (i := .iastore) (a1 := 0) (a2 := 0) (pc1 := 78) (l1 := [(0, .ref 106), (1, .int x1), (2, .int x2), (3, .int x3)]) (st1 := [.int x2, .int x1, .ref 133]) (σ1 := σ) (by decide +kernel) rfl (fun hC => ?_)
      obtain ⟨hi, h⟩ := jx_ite0_inv h
      refine jE_iast (n := 40) hC (by decide) rfl hi ?_
      refine jE_blk (bs := [(.iinc 1 (1), 4, 2), (.goto (-80), 0, 0)]) (i := .iload_n 1) (a1 := 0) (a2 := 0) (pc1 := 2) (l1 := [(1, .int (x1 + 1)), (0, .ref 106), (2, .int x2), (3, .int x3)]) (st1 := []) (σ1 := (jx_i σ 133 (x1).toNatClampNeg x2)) (by decide +kernel) rfl (fun hC => ?_)
      have h9 := Option.some.inj h
      subst h9
      exact jE_loc (l := [(0, .ref 106), (1, .int (x1 + 1))]) (ks := [0, 1]) rfl (by decide) ⟨rfl, rfl, trivial⟩ hK
    · rw [if_neg hc] at h
      refine jE_icF 72 hC (by decide) hc ?_
      obtain ⟨t9_3, h9_3, h8_3⟩ := Option.map_eq_some_iff.mp h
      clear h
      subst h8_3
      have h := h9_3
      clear h9_3
      refine jE_blk (bs := [(.aload_n 0, 0, 0), (.bipush (8), 8, 0), (.aload_n 0, 0, 0), (.getfield 20, 12, 7), (.aload_n 0, 0, 0), (.getfield 72, 12, 26), (.iload_n 1, 0, 0)]) (i := .iaload) (a1 := 0) (a2 := 0) (pc1 := 66) (l1 := [(0, .ref 106), (1, .int x1), (2, .int x2), (3, .int x3)]) (st1 := [.int x1, .ref 126, .ref 109, .int (8 : Int32), .ref 106]) (σ1 := σ) (by decide +kernel) rfl (fun hC => ?_)
      obtain ⟨hi, h⟩ := jx_ite0_inv h
      refine jE_iald (n := 40) hC (by decide) rfl hi ?_
      refine jE_blk (bs := []) (i := .iaload) (a1 := 0) (a2 := 0) (pc1 := 67) (l1 := [(0, .ref 106), (1, .int x1), (2, .int x2), (3, .int x3)]) (st1 := [.int ((σ.1 126) (x1).toNatClampNeg), .ref 109, .int (8 : Int32), .ref 106]) (σ1 := σ) (by decide +kernel) rfl (fun hC => ?_)
      obtain ⟨hi, h⟩ := jx_ite0_inv h
      refine jE_iald (n := 1202) hC (by decide) rfl hi ?_
      refine jE_blk (bs := []) (i := .invokevirtual 296) (a1 := 146) (a2 := 0) (pc1 := 68) (l1 := [(0, .ref 106), (1, .int x1), (2, .int x2), (3, .int x3)]) (st1 := [.int ((σ.1 109) (((σ.1 126) (x1).toNatClampNeg)).toNatClampNeg), .int (8 : Int32), .ref 106]) (σ1 := σ) (by decide +kernel) rfl (fun hC => ?_)
      obtain ⟨q2, hq, h⟩ := Option.bind_eq_some_iff.mp h
      refine jE_call (as := [.ref 106, .int (8 : Int32), .int ((σ.1 109) (((σ.1 126) (x1).toNatClampNeg)).toNatClampNeg)]) (pc1 := 71) (st1 := []) hC rfl (by decide) (by omega) (x_r_fails (d - 1) (by omega) (8 : Int32) ((σ.1 109) (((σ.1 126) (x1).toNatClampNeg)).toNatClampNeg) σ q2 (some (.int q2.1), q2.2) hq rfl) ?_
      refine jE_blk (bs := []) (i := .ireturn) (a1 := 1) (a2 := 0) (pc1 := 71) (l1 := [(0, .ref 106), (1, .int x1), (2, .int x2), (3, .int x3)]) (st1 := [.int q2.1]) (σ1 := q2.2) (by decide +kernel) rfl (fun hC => ?_)
      obtain ⟨hb, h⟩ := jx_ite_inv h
      have h9 := Option.some.inj h
      subst h9
      have e9 : ((some (.int q2.1), q2.2) : Option Value × jx_S) = res := hK
      subst e9
      exact jE_bret hC hb
  · rw [if_neg hc] at h
    refine jE_icF 47 hC (by decide) hc ?_
    refine jE_blk (bs := [(.iload_n 2, 0, 0), (.aload_n 0, 0, 0), (.getfield 99, 12, 35), (.bipush (8), 8, 0), (.iload_n 1, 0, 0), (.imul, 0, 0), (.iload_n 3, 0, 0), (.iadd, 0, 0)]) (i := .iaload) (a1 := 0) (a2 := 0) (pc1 := 35) (l1 := [(0, .ref 106), (1, .int x1), (2, .int x2), (3, .int x3)]) (st1 := [.int (((8 : Int32) * x1) + x3), .ref 135, .int x2]) (σ1 := σ) (by decide +kernel) rfl (fun hC => ?_)
    obtain ⟨hi, h⟩ := jx_ite0_inv h
    refine jE_iald (n := 320) hC (by decide) rfl hi ?_
    refine jE_blk (bs := []) (i := .invokestatic 422) (a1 := 186) (a2 := 0) (pc1 := 36) (l1 := [(0, .ref 106), (1, .int x1), (2, .int x2), (3, .int x3)]) (st1 := [.int ((σ.1 135) ((((8 : Int32) * x1) + x3)).toNatClampNeg), .int x2]) (σ1 := σ) (by decide +kernel) rfl (fun hC => ?_)
    refine jE_call (as := [.int ((σ.1 135) ((((8 : Int32) * x1) + x3)).toNatClampNeg)]) (pc1 := 39) (st1 := [.int x2]) hC rfl (by decide) (by omega) (xv_r_points (d - 1) (by omega) ((σ.1 135) ((((8 : Int32) * x1) + x3)).toNatClampNeg) σ) ?_
    refine jE_blk (bs := [(.imul, 0, 0), (.istore_n 2, 4, 0), (.iinc 3 (1), 4, 2), (.goto (-30), 0, 0)]) (i := .iload_n 3) (a1 := 0) (a2 := 0) (pc1 := 14) (l1 := [(3, .int (x3 + 1)), (2, .int (x2 * (v_r_points ((σ.1 135) ((((8 : Int32) * x1) + x3)).toNatClampNeg) σ))), (0, .ref 106), (1, .int x1)]) (st1 := []) (σ1 := σ) (by decide +kernel) rfl (fun hC => ?_)
    have h9 := Option.some.inj h
    subst h9
    exact jE_loc (l := [(0, .ref 106), (1, .int x1), (2, .int (x2 * (v_r_points ((σ.1 135) ((((8 : Int32) * x1) + x3)).toNatClampNeg) σ))), (3, .int (x3 + 1))]) (ks := [0, 1, 2, 3]) rfl (by decide) ⟨rfl, rfl, rfl, rfl, trivial⟩ hK
def p_r_countCases_14 (x1 : Int32) (x2 : Int32) (x3 : Int32) (σ : jx_S) : Option ((Int32 × jx_S) ⊕ (Int32 × jx_S)) := jx_loop 100000000 (fun s => p_r_countCases_14_s s.1 s.2.1 s.2.2.1 (s.2.2.2)) (x1, x2, x3, σ)
theorem x_r_countCases_14 (d : Nat) (hd : 1 ≤ d) (x1 : Int32) (x2 : Int32) (x3 : Int32) (σ : jx_S) (t : ((Int32 × jx_S) ⊕ (Int32 × jx_S))) (res : Option Value × jx_S) (h : p_r_countCases_14 x1 x2 x3 σ = some t) (hK : kk_r_countCases_2 d t res) : jE d 187 14 [(0, .ref 106), (1, .int x1), (2, .int x2), (3, .int x3)] [] σ res := by
  refine jx_loop_ok (E := fun s t => ∀ res, kk_r_countCases_2 d t res → jE d 187 14 [(0, .ref 106), (1, .int s.1), (2, .int s.2.1), (3, .int s.2.2.1)] [] s.2.2.2 res) (fun s t hs => ?_) _ _ _ h res hK
  cases t with
  | inl s1 => exact fun b hb res hk => x_r_countCases_14_s d hd (s.1) (s.2.1) (s.2.2.1) (s.2.2.2) _ res hs (hb res hk)
  | inr b => exact fun res hk => x_r_countCases_14_s d hd (s.1) (s.2.1) (s.2.2.1) (s.2.2.2) _ res hs hk
def p_r_countCases_2_s (x1 : Int32) (σ : jx_S) : Option ((Int32 × jx_S) ⊕ (Int32 × jx_S)) := (if (σ.1 106 38) ≤ x1 then (Option.map Sum.inr (some (((1 : Int32), σ)))) else (p_r_countCases_14 x1 (1 : Int32) (0 : Int32) σ))
theorem x_r_countCases_2_s (d : Nat) (hd : 1 ≤ d) (x1 : Int32) (σ : jx_S) (t : ((Int32 × jx_S) ⊕ (Int32 × jx_S))) (res : Option Value × jx_S) (h : p_r_countCases_2_s x1 σ = some t) (hK : kk_r_countCases_2 d t res) : jE d 187 2 [(0, .ref 106), (1, .int x1)] [] σ res := by
  unfold p_r_countCases_2_s at h
  refine jE_blk (bs := [(.iload_n 1, 0, 0), (.aload_n 0, 0, 0), (.getfield 219, 12, 38)]) (i := .if_icmp .ge (78)) (a1 := 0) (a2 := 0) (pc1 := 7) (l1 := [(0, .ref 106), (1, .int x1)]) (st1 := [.int (σ.1 106 38), .int x1]) (σ1 := σ) (by decide +kernel) rfl (fun hC => ?_)
  rcases Classical.em ((σ.1 106 38) ≤ x1) with hc | hc
  · rw [if_pos hc] at h
    refine jE_icT 85 hC (by decide) hc ?_
    obtain ⟨t9_1, h9_1, h8_1⟩ := Option.map_eq_some_iff.mp h
    clear h
    subst h8_1
    have h := h9_1
    clear h9_1
    refine jE_blk (bs := [(.iconst (1), 1, 0)]) (i := .ireturn) (a1 := 1) (a2 := 0) (pc1 := 86) (l1 := [(0, .ref 106), (1, .int x1)]) (st1 := [.int (1 : Int32)]) (σ1 := σ) (by decide +kernel) rfl (fun hC => ?_)
    have h9 := Option.some.inj h
    subst h9
    have e9 : ((some (.int (1 : Int32)), σ) : Option Value × jx_S) = res := hK
    subst e9
    exact jE_ret hC rfl
  · rw [if_neg hc] at h
    refine jE_icF 85 hC (by decide) hc ?_
    refine jE_blk (bs := [(.iconst (1), 1, 0), (.istore_n 2, 4, 0), (.iconst (0), 0, 0), (.istore_n 3, 4, 0)]) (i := .iload_n 3) (a1 := 0) (a2 := 0) (pc1 := 14) (l1 := [(3, .int (0 : Int32)), (2, .int (1 : Int32)), (0, .ref 106), (1, .int x1)]) (st1 := []) (σ1 := σ) (by decide +kernel) rfl (fun hC => ?_)
    exact jE_loc (l := [(0, .ref 106), (1, .int x1), (2, .int (1 : Int32)), (3, .int (0 : Int32))]) (ks := [0, 1, 2, 3]) rfl (by decide) ⟨rfl, rfl, rfl, rfl, trivial⟩ (x_r_countCases_14 d hd x1 (1 : Int32) (0 : Int32) σ _ res h hK)
def p_r_countCases_2 (x1 : Int32) (σ : jx_S) : Option (Int32 × jx_S) := jx_loop 100000000 (fun s => p_r_countCases_2_s s.1 (s.2)) (x1, σ)
theorem x_r_countCases_2 (d : Nat) (hd : 1 ≤ d) (x1 : Int32) (σ : jx_S) (t : (Int32 × jx_S)) (res : Option Value × jx_S) (h : p_r_countCases_2 x1 σ = some t) (hK : kkI t res) : jE d 187 2 [(0, .ref 106), (1, .int x1)] [] σ res := by
  refine jx_loop_ok (E := fun s t => ∀ res, kkI t res → jE d 187 2 [(0, .ref 106), (1, .int s.1)] [] s.2 res) (fun s t hs => ?_) _ _ _ h res hK
  cases t with
  | inl s1 => exact fun b hb res hk => x_r_countCases_2_s d hd (s.1) (s.2) _ res hs (hb res hk)
  | inr b => exact fun res hk => x_r_countCases_2_s d hd (s.1) (s.2) _ res hs hk
def p_r_countCases (σ : jx_S) : Option (Int32 × jx_S) := (p_r_countCases_2 (0 : Int32) σ)
theorem x_r_countCases (d : Nat) (hd : 1 ≤ d) (σ : jx_S) (t : (Int32 × jx_S)) (res : Option Value × jx_S) (h : p_r_countCases σ = some t) (hK : kkI t res) : jE d 187 0 [(0, .ref 106)] [] σ res := by
  unfold p_r_countCases at h
  refine jE_blk (bs := [(.iconst (0), 0, 0), (.istore_n 1, 4, 0)]) (i := .iload_n 1) (a1 := 0) (a2 := 0) (pc1 := 2) (l1 := [(1, .int (0 : Int32)), (0, .ref 106)]) (st1 := []) (σ1 := σ) (by decide +kernel) rfl (fun hC => ?_)
  exact jE_loc (l := [(0, .ref 106), (1, .int (0 : Int32))]) (ks := [0, 1]) rfl (by decide) ⟨rfl, rfl, trivial⟩ (x_r_countCases_2 d hd (0 : Int32) σ _ res h hK)
def kk_r_called_22 (d : Nat) (t : ((Int32 × Int32 × Int32 × Int32 × Int32 × Int32 × Int32 × jx_S) ⊕ (Int32 × jx_S))) (res : Option Value × jx_S) : Prop := match t with
  | .inl s => jE d 191 22 [(0, .ref 106), (1, .int s.1), (2, .int s.2.1), (3, .int s.2.2.1), (4, .int s.2.2.2.1), (5, .int s.2.2.2.2.1), (6, .int s.2.2.2.2.2.1), (7, .int s.2.2.2.2.2.2.1)] [] s.2.2.2.2.2.2.2 res
  | .inr t => kkI t res
def p_r_called_96 (x1 : Int32) (x2 : Int32) (x3 : Int32) (x4 : Int32) (x5 : Int32) (x7 : Int32) (x8 : Int32) (y0 : Int32) (σ : jx_S) : Option ((Int32 × Int32 × Int32 × Int32 × Int32 × Int32 × Int32 × jx_S) ⊕ (Int32 × jx_S)) := (if (((8 : Int32) * x4) + x7) < 0 ∨ 320 ≤ ((((8 : Int32) * x4) + x7)).toNatClampNeg then none else (some (.inl (x1, x2, x3, x4, ((x5 * (v_r_points ((σ.1 135) ((((8 : Int32) * x4) + x7)).toNatClampNeg) σ)) + x8), y0, (x7 + 1), σ))))
theorem x_r_called_96 (d : Nat) (hd : 1 ≤ d) (x1 : Int32) (x2 : Int32) (x3 : Int32) (x4 : Int32) (x5 : Int32) (x7 : Int32) (x8 : Int32) (y0 : Int32) (σ : jx_S) (t : ((Int32 × Int32 × Int32 × Int32 × Int32 × Int32 × Int32 × jx_S) ⊕ (Int32 × jx_S))) (res : Option Value × jx_S) (h : p_r_called_96 x1 x2 x3 x4 x5 x7 x8 y0 σ = some t) (hK : kk_r_called_22 d t res) : jE d 191 96 [(0, .ref 106), (1, .int x1), (2, .int x2), (3, .int x3), (4, .int x4), (5, .int x5), (7, .int x7), (8, .int x8)] [.int y0] σ res := by
  unfold p_r_called_96 at h
  refine jE_blk (bs := [(.istore 6, 9, 0), (.iload 5, 0, 0), (.aload_n 0, 0, 0), (.getfield 99, 12, 35), (.bipush (8), 8, 0), (.iload 4, 0, 0), (.imul, 0, 0), (.iload 7, 0, 0), (.iadd, 0, 0)]) (i := .iaload) (a1 := 0) (a2 := 0) (pc1 := 112) (l1 := [(6, .int y0), (0, .ref 106), (1, .int x1), (2, .int x2), (3, .int x3), (4, .int x4), (5, .int x5), (7, .int x7), (8, .int x8)]) (st1 := [.int (((8 : Int32) * x4) + x7), .ref 135, .int x5]) (σ1 := σ) (by decide +kernel) rfl (fun hC => ?_)
  obtain ⟨hi, h⟩ := jx_ite0_inv h
  refine jE_iald (n := 320) hC (by decide) rfl hi ?_
  refine jE_blk (bs := []) (i := .invokestatic 422) (a1 := 186) (a2 := 0) (pc1 := 113) (l1 := [(6, .int y0), (0, .ref 106), (1, .int x1), (2, .int x2), (3, .int x3), (4, .int x4), (5, .int x5), (7, .int x7), (8, .int x8)]) (st1 := [.int ((σ.1 135) ((((8 : Int32) * x4) + x7)).toNatClampNeg), .int x5]) (σ1 := σ) (by decide +kernel) rfl (fun hC => ?_)
  refine jE_call (as := [.int ((σ.1 135) ((((8 : Int32) * x4) + x7)).toNatClampNeg)]) (pc1 := 116) (st1 := [.int x5]) hC rfl (by decide) (by omega) (xv_r_points (d - 1) (by omega) ((σ.1 135) ((((8 : Int32) * x4) + x7)).toNatClampNeg) σ) ?_
  refine jE_blk (bs := [(.imul, 0, 0), (.iload 8, 0, 0), (.iadd, 0, 0), (.istore 5, 9, 0), (.iinc 7 (1), 9, 2), (.goto (-103), 0, 0)]) (i := .iload 7) (a1 := 0) (a2 := 0) (pc1 := 22) (l1 := [(7, .int (x7 + 1)), (5, .int ((x5 * (v_r_points ((σ.1 135) ((((8 : Int32) * x4) + x7)).toNatClampNeg) σ)) + x8)), (6, .int y0), (0, .ref 106), (1, .int x1), (2, .int x2), (3, .int x3), (4, .int x4), (8, .int x8)]) (st1 := []) (σ1 := σ) (by decide +kernel) rfl (fun hC => ?_)
  have h9 := Option.some.inj h
  subst h9
  exact jE_loc (l := [(0, .ref 106), (1, .int x1), (2, .int x2), (3, .int x3), (4, .int x4), (5, .int ((x5 * (v_r_points ((σ.1 135) ((((8 : Int32) * x4) + x7)).toNatClampNeg) σ)) + x8)), (6, .int y0), (7, .int (x7 + 1))]) (ks := [0, 1, 2, 3, 4, 5, 6, 7]) rfl (by decide) ⟨rfl, rfl, rfl, rfl, rfl, rfl, rfl, rfl, trivial⟩ hK
def p_r_called_71 (x1 : Int32) (x2 : Int32) (x3 : Int32) (x4 : Int32) (x5 : Int32) (x6 : Int32) (x7 : Int32) (y0 : Int32) (σ : jx_S) : Option ((Int32 × Int32 × Int32 × Int32 × Int32 × Int32 × Int32 × jx_S) ⊕ (Int32 × jx_S)) := (if x1 < 0 ∨ 3000 ≤ (x1).toNatClampNeg then none else (if ((σ.1 119) (x1).toNatClampNeg) ≤ x7 then (p_r_called_96 x1 x2 x3 x4 x5 x7 y0 x6 σ) else (if x6 < 0 ∨ 3000 ≤ (x6).toNatClampNeg then none else (p_r_called_96 x1 x2 x3 x4 x5 x7 y0 ((σ.1 120) (x6).toNatClampNeg) σ))))
theorem x_r_called_71 (d : Nat) (hd : 1 ≤ d) (x1 : Int32) (x2 : Int32) (x3 : Int32) (x4 : Int32) (x5 : Int32) (x6 : Int32) (x7 : Int32) (y0 : Int32) (σ : jx_S) (t : ((Int32 × Int32 × Int32 × Int32 × Int32 × Int32 × Int32 × jx_S) ⊕ (Int32 × jx_S))) (res : Option Value × jx_S) (h : p_r_called_71 x1 x2 x3 x4 x5 x6 x7 y0 σ = some t) (hK : kk_r_called_22 d t res) : jE d 191 71 [(0, .ref 106), (1, .int x1), (2, .int x2), (3, .int x3), (4, .int x4), (5, .int x5), (6, .int x6), (7, .int x7)] [.int y0] σ res := by
  unfold p_r_called_71 at h
  refine jE_blk (bs := [(.istore 8, 9, 0), (.iload 7, 0, 0), (.aload_n 0, 0, 0), (.getfield 50, 12, 18), (.iload_n 1, 0, 0)]) (i := .iaload) (a1 := 0) (a2 := 0) (pc1 := 80) (l1 := [(8, .int y0), (0, .ref 106), (1, .int x1), (2, .int x2), (3, .int x3), (4, .int x4), (5, .int x5), (6, .int x6), (7, .int x7)]) (st1 := [.int x1, .ref 119, .int x7]) (σ1 := σ) (by decide +kernel) rfl (fun hC => ?_)
  obtain ⟨hi, h⟩ := jx_ite0_inv h
  refine jE_iald (n := 3000) hC (by decide) rfl hi ?_
  refine jE_blk (bs := []) (i := .if_icmp .ge (13)) (a1 := 0) (a2 := 0) (pc1 := 81) (l1 := [(8, .int y0), (0, .ref 106), (1, .int x1), (2, .int x2), (3, .int x3), (4, .int x4), (5, .int x5), (6, .int x6), (7, .int x7)]) (st1 := [.int ((σ.1 119) (x1).toNatClampNeg), .int x7]) (σ1 := σ) (by decide +kernel) rfl (fun hC => ?_)
  rcases Classical.em (((σ.1 119) (x1).toNatClampNeg) ≤ x7) with hc | hc
  · rw [if_pos hc] at h
    refine jE_icT 94 hC (by decide) hc ?_
    refine jE_blk (bs := [(.iload 6, 0, 0)]) (i := .istore 6) (a1 := 9) (a2 := 0) (pc1 := 96) (l1 := [(8, .int y0), (0, .ref 106), (1, .int x1), (2, .int x2), (3, .int x3), (4, .int x4), (5, .int x5), (6, .int x6), (7, .int x7)]) (st1 := [.int x6]) (σ1 := σ) (by decide +kernel) rfl (fun hC => ?_)
    exact jE_loc (l := [(0, .ref 106), (1, .int x1), (2, .int x2), (3, .int x3), (4, .int x4), (5, .int x5), (7, .int x7), (8, .int y0)]) (ks := [0, 1, 2, 3, 4, 5, 7, 8]) rfl (by decide) ⟨rfl, rfl, rfl, rfl, rfl, rfl, rfl, rfl, trivial⟩ (x_r_called_96 d hd x1 x2 x3 x4 x5 x7 y0 x6 σ _ res h hK)
  · rw [if_neg hc] at h
    refine jE_icF 94 hC (by decide) hc ?_
    refine jE_blk (bs := [(.aload_n 0, 0, 0), (.getfield 53, 12, 19), (.iload 6, 0, 0)]) (i := .iaload) (a1 := 0) (a2 := 0) (pc1 := 90) (l1 := [(8, .int y0), (0, .ref 106), (1, .int x1), (2, .int x2), (3, .int x3), (4, .int x4), (5, .int x5), (6, .int x6), (7, .int x7)]) (st1 := [.int x6, .ref 120]) (σ1 := σ) (by decide +kernel) rfl (fun hC => ?_)
    obtain ⟨hi, h⟩ := jx_ite0_inv h
    refine jE_iald (n := 3000) hC (by decide) rfl hi ?_
    refine jE_blk (bs := [(.goto (5), 0, 0)]) (i := .istore 6) (a1 := 9) (a2 := 0) (pc1 := 96) (l1 := [(8, .int y0), (0, .ref 106), (1, .int x1), (2, .int x2), (3, .int x3), (4, .int x4), (5, .int x5), (6, .int x6), (7, .int x7)]) (st1 := [.int ((σ.1 120) (x6).toNatClampNeg)]) (σ1 := σ) (by decide +kernel) rfl (fun hC => ?_)
    exact jE_loc (l := [(0, .ref 106), (1, .int x1), (2, .int x2), (3, .int x3), (4, .int x4), (5, .int x5), (7, .int x7), (8, .int y0)]) (ks := [0, 1, 2, 3, 4, 5, 7, 8]) rfl (by decide) ⟨rfl, rfl, rfl, rfl, rfl, rfl, rfl, rfl, trivial⟩ (x_r_called_96 d hd x1 x2 x3 x4 x5 x7 y0 ((σ.1 120) (x6).toNatClampNeg) σ _ res h hK)
def p_r_called_22_s (x1 : Int32) (x2 : Int32) (x3 : Int32) (x4 : Int32) (x5 : Int32) (x6 : Int32) (x7 : Int32) (σ : jx_S) : Option ((Int32 × Int32 × Int32 × Int32 × Int32 × Int32 × Int32 × jx_S) ⊕ (Int32 × jx_S)) := (if x4 < 0 ∨ 40 ≤ (x4).toNatClampNeg then none else (if ((σ.1 127) (x4).toNatClampNeg) ≤ x7 then (Option.map Sum.inr (if (((1000 : Int32) * x4) + x5) < 0 ∨ 40000 ≤ ((((1000 : Int32) * x4) + x5)).toNatClampNeg then none else (some ((((σ.1 146) ((((1000 : Int32) * x4) + x5)).toNatClampNeg), σ))))) else (if x1 < 0 ∨ 3000 ≤ (x1).toNatClampNeg then none else (if ((σ.1 119) (x1).toNatClampNeg) ≤ x7 then (if x1 < 0 ∨ 3000 ≤ (x1).toNatClampNeg then none else (if ¬ x7 = ((σ.1 119) (x1).toNatClampNeg) then (p_r_called_71 x1 x2 x3 x4 x5 x6 x7 x3 σ) else (p_r_called_71 x1 x2 x3 x4 x5 x6 x7 x2 σ))) else (if x6 < 0 ∨ 3000 ≤ (x6).toNatClampNeg then none else (p_r_called_71 x1 x2 x3 x4 x5 x6 x7 ((σ.1 148) (x6).toNatClampNeg) σ))))))
theorem x_r_called_22_s (d : Nat) (hd : 1 ≤ d) (x1 : Int32) (x2 : Int32) (x3 : Int32) (x4 : Int32) (x5 : Int32) (x6 : Int32) (x7 : Int32) (σ : jx_S) (t : ((Int32 × Int32 × Int32 × Int32 × Int32 × Int32 × Int32 × jx_S) ⊕ (Int32 × jx_S))) (res : Option Value × jx_S) (h : p_r_called_22_s x1 x2 x3 x4 x5 x6 x7 σ = some t) (hK : kk_r_called_22 d t res) : jE d 191 22 [(0, .ref 106), (1, .int x1), (2, .int x2), (3, .int x3), (4, .int x4), (5, .int x5), (6, .int x6), (7, .int x7)] [] σ res := by
  unfold p_r_called_22_s at h
  refine jE_blk (bs := [(.iload 7, 0, 0), (.aload_n 0, 0, 0), (.getfield 75, 12, 27), (.iload 4, 0, 0)]) (i := .iaload) (a1 := 0) (a2 := 0) (pc1 := 30) (l1 := [(0, .ref 106), (1, .int x1), (2, .int x2), (3, .int x3), (4, .int x4), (5, .int x5), (6, .int x6), (7, .int x7)]) (st1 := [.int x4, .ref 127, .int x7]) (σ1 := σ) (by decide +kernel) rfl (fun hC => ?_)
  obtain ⟨hi, h⟩ := jx_ite0_inv h
  refine jE_iald (n := 40) hC (by decide) rfl hi ?_
  refine jE_blk (bs := []) (i := .if_icmp .ge (97)) (a1 := 0) (a2 := 0) (pc1 := 31) (l1 := [(0, .ref 106), (1, .int x1), (2, .int x2), (3, .int x3), (4, .int x4), (5, .int x5), (6, .int x6), (7, .int x7)]) (st1 := [.int ((σ.1 127) (x4).toNatClampNeg), .int x7]) (σ1 := σ) (by decide +kernel) rfl (fun hC => ?_)
  rcases Classical.em (((σ.1 127) (x4).toNatClampNeg) ≤ x7) with hc | hc
  · rw [if_pos hc] at h
    refine jE_icT 128 hC (by decide) hc ?_
    obtain ⟨t9_1, h9_1, h8_1⟩ := Option.map_eq_some_iff.mp h
    clear h
    subst h8_1
    have h := h9_1
    clear h9_1
    refine jE_blk (bs := [(.aload_n 0, 0, 0), (.getfield 133, 12, 57), (.sipush (1000), 1000, 0), (.iload 4, 0, 0), (.imul, 0, 0), (.iload 5, 0, 0), (.iadd, 0, 0)]) (i := .iaload) (a1 := 0) (a2 := 0) (pc1 := 141) (l1 := [(0, .ref 106), (1, .int x1), (2, .int x2), (3, .int x3), (4, .int x4), (5, .int x5), (6, .int x6), (7, .int x7)]) (st1 := [.int (((1000 : Int32) * x4) + x5), .ref 146]) (σ1 := σ) (by decide +kernel) rfl (fun hC => ?_)
    obtain ⟨hi, h⟩ := jx_ite0_inv h
    refine jE_iald (n := 40000) hC (by decide) rfl hi ?_
    refine jE_blk (bs := []) (i := .ireturn) (a1 := 0) (a2 := 0) (pc1 := 142) (l1 := [(0, .ref 106), (1, .int x1), (2, .int x2), (3, .int x3), (4, .int x4), (5, .int x5), (6, .int x6), (7, .int x7)]) (st1 := [.int ((σ.1 146) ((((1000 : Int32) * x4) + x5)).toNatClampNeg)]) (σ1 := σ) (by decide +kernel) rfl (fun hC => ?_)
    have h9 := Option.some.inj h
    subst h9
    have e9 : ((some (.int ((σ.1 146) ((((1000 : Int32) * x4) + x5)).toNatClampNeg)), σ) : Option Value × jx_S) = res := hK
    subst e9
    exact jE_ret hC rfl
  · rw [if_neg hc] at h
    refine jE_icF 128 hC (by decide) hc ?_
    refine jE_blk (bs := [(.iload 7, 0, 0), (.aload_n 0, 0, 0), (.getfield 50, 12, 18), (.iload_n 1, 0, 0)]) (i := .iaload) (a1 := 0) (a2 := 0) (pc1 := 41) (l1 := [(0, .ref 106), (1, .int x1), (2, .int x2), (3, .int x3), (4, .int x4), (5, .int x5), (6, .int x6), (7, .int x7)]) (st1 := [.int x1, .ref 119, .int x7]) (σ1 := σ) (by decide +kernel) rfl (fun hC => ?_)
    obtain ⟨hi, h⟩ := jx_ite0_inv h
    refine jE_iald (n := 3000) hC (by decide) rfl hi ?_
    refine jE_blk (bs := []) (i := .if_icmp .ge (13)) (a1 := 0) (a2 := 0) (pc1 := 42) (l1 := [(0, .ref 106), (1, .int x1), (2, .int x2), (3, .int x3), (4, .int x4), (5, .int x5), (6, .int x6), (7, .int x7)]) (st1 := [.int ((σ.1 119) (x1).toNatClampNeg), .int x7]) (σ1 := σ) (by decide +kernel) rfl (fun hC => ?_)
    rcases Classical.em (((σ.1 119) (x1).toNatClampNeg) ≤ x7) with hc | hc
    · rw [if_pos hc] at h
      refine jE_icT 55 hC (by decide) hc ?_
      refine jE_blk (bs := [(.iload 7, 0, 0), (.aload_n 0, 0, 0), (.getfield 50, 12, 18), (.iload_n 1, 0, 0)]) (i := .iaload) (a1 := 0) (a2 := 0) (pc1 := 62) (l1 := [(0, .ref 106), (1, .int x1), (2, .int x2), (3, .int x3), (4, .int x4), (5, .int x5), (6, .int x6), (7, .int x7)]) (st1 := [.int x1, .ref 119, .int x7]) (σ1 := σ) (by decide +kernel) rfl (fun hC => ?_)
      obtain ⟨hi, h⟩ := jx_ite0_inv h
      refine jE_iald (n := 3000) hC (by decide) rfl hi ?_
      refine jE_blk (bs := []) (i := .if_icmp .ne (7)) (a1 := 0) (a2 := 0) (pc1 := 63) (l1 := [(0, .ref 106), (1, .int x1), (2, .int x2), (3, .int x3), (4, .int x4), (5, .int x5), (6, .int x6), (7, .int x7)]) (st1 := [.int ((σ.1 119) (x1).toNatClampNeg), .int x7]) (σ1 := σ) (by decide +kernel) rfl (fun hC => ?_)
      rcases Classical.em (¬ x7 = ((σ.1 119) (x1).toNatClampNeg)) with hc | hc
      · rw [if_pos hc] at h
        refine jE_icT 70 hC (by decide) hc ?_
        refine jE_blk (bs := [(.iload_n 3, 0, 0)]) (i := .istore 8) (a1 := 9) (a2 := 0) (pc1 := 71) (l1 := [(0, .ref 106), (1, .int x1), (2, .int x2), (3, .int x3), (4, .int x4), (5, .int x5), (6, .int x6), (7, .int x7)]) (st1 := [.int x3]) (σ1 := σ) (by decide +kernel) rfl (fun hC => ?_)
        exact jE_loc (l := [(0, .ref 106), (1, .int x1), (2, .int x2), (3, .int x3), (4, .int x4), (5, .int x5), (6, .int x6), (7, .int x7)]) (ks := [0, 1, 2, 3, 4, 5, 6, 7]) rfl (by decide) ⟨rfl, rfl, rfl, rfl, rfl, rfl, rfl, rfl, trivial⟩ (x_r_called_71 d hd x1 x2 x3 x4 x5 x6 x7 x3 σ _ res h hK)
      · rw [if_neg hc] at h
        refine jE_icF 70 hC (by decide) hc ?_
        refine jE_blk (bs := [(.iload_n 2, 0, 0), (.goto (4), 0, 0)]) (i := .istore 8) (a1 := 9) (a2 := 0) (pc1 := 71) (l1 := [(0, .ref 106), (1, .int x1), (2, .int x2), (3, .int x3), (4, .int x4), (5, .int x5), (6, .int x6), (7, .int x7)]) (st1 := [.int x2]) (σ1 := σ) (by decide +kernel) rfl (fun hC => ?_)
        exact jE_loc (l := [(0, .ref 106), (1, .int x1), (2, .int x2), (3, .int x3), (4, .int x4), (5, .int x5), (6, .int x6), (7, .int x7)]) (ks := [0, 1, 2, 3, 4, 5, 6, 7]) rfl (by decide) ⟨rfl, rfl, rfl, rfl, rfl, rfl, rfl, rfl, trivial⟩ (x_r_called_71 d hd x1 x2 x3 x4 x5 x6 x7 x2 σ _ res h hK)
    · rw [if_neg hc] at h
      refine jE_icF 55 hC (by decide) hc ?_
      refine jE_blk (bs := [(.aload_n 0, 0, 0), (.getfield 139, 12, 59), (.iload 6, 0, 0)]) (i := .iaload) (a1 := 0) (a2 := 0) (pc1 := 51) (l1 := [(0, .ref 106), (1, .int x1), (2, .int x2), (3, .int x3), (4, .int x4), (5, .int x5), (6, .int x6), (7, .int x7)]) (st1 := [.int x6, .ref 148]) (σ1 := σ) (by decide +kernel) rfl (fun hC => ?_)
      obtain ⟨hi, h⟩ := jx_ite0_inv h
      refine jE_iald (n := 3000) hC (by decide) rfl hi ?_
      refine jE_blk (bs := [(.goto (19), 0, 0)]) (i := .istore 8) (a1 := 9) (a2 := 0) (pc1 := 71) (l1 := [(0, .ref 106), (1, .int x1), (2, .int x2), (3, .int x3), (4, .int x4), (5, .int x5), (6, .int x6), (7, .int x7)]) (st1 := [.int ((σ.1 148) (x6).toNatClampNeg)]) (σ1 := σ) (by decide +kernel) rfl (fun hC => ?_)
      exact jE_loc (l := [(0, .ref 106), (1, .int x1), (2, .int x2), (3, .int x3), (4, .int x4), (5, .int x5), (6, .int x6), (7, .int x7)]) (ks := [0, 1, 2, 3, 4, 5, 6, 7]) rfl (by decide) ⟨rfl, rfl, rfl, rfl, rfl, rfl, rfl, rfl, trivial⟩ (x_r_called_71 d hd x1 x2 x3 x4 x5 x6 x7 ((σ.1 148) (x6).toNatClampNeg) σ _ res h hK)
def p_r_called_22 (x1 : Int32) (x2 : Int32) (x3 : Int32) (x4 : Int32) (x5 : Int32) (x6 : Int32) (x7 : Int32) (σ : jx_S) : Option (Int32 × jx_S) := jx_loop 100000000 (fun s => p_r_called_22_s s.1 s.2.1 s.2.2.1 s.2.2.2.1 s.2.2.2.2.1 s.2.2.2.2.2.1 s.2.2.2.2.2.2.1 (s.2.2.2.2.2.2.2)) (x1, x2, x3, x4, x5, x6, x7, σ)
theorem x_r_called_22 (d : Nat) (hd : 1 ≤ d) (x1 : Int32) (x2 : Int32) (x3 : Int32) (x4 : Int32) (x5 : Int32) (x6 : Int32) (x7 : Int32) (σ : jx_S) (t : (Int32 × jx_S)) (res : Option Value × jx_S) (h : p_r_called_22 x1 x2 x3 x4 x5 x6 x7 σ = some t) (hK : kkI t res) : jE d 191 22 [(0, .ref 106), (1, .int x1), (2, .int x2), (3, .int x3), (4, .int x4), (5, .int x5), (6, .int x6), (7, .int x7)] [] σ res := by
  refine jx_loop_ok (E := fun s t => ∀ res, kkI t res → jE d 191 22 [(0, .ref 106), (1, .int s.1), (2, .int s.2.1), (3, .int s.2.2.1), (4, .int s.2.2.2.1), (5, .int s.2.2.2.2.1), (6, .int s.2.2.2.2.2.1), (7, .int s.2.2.2.2.2.2.1)] [] s.2.2.2.2.2.2.2 res) (fun s t hs => ?_) _ _ _ h res hK
  cases t with
  | inl s1 => exact fun b hb res hk => x_r_called_22_s d hd (s.1) (s.2.1) (s.2.2.1) (s.2.2.2.1) (s.2.2.2.2.1) (s.2.2.2.2.2.1) (s.2.2.2.2.2.2.1) (s.2.2.2.2.2.2.2) _ res hs (hb res hk)
  | inr b => exact fun res hk => x_r_called_22_s d hd (s.1) (s.2.1) (s.2.2.1) (s.2.2.2.1) (s.2.2.2.2.1) (s.2.2.2.2.2.1) (s.2.2.2.2.2.2.1) (s.2.2.2.2.2.2.2) _ res hs hk
def p_r_called (x1 : Int32) (x2 : Int32) (x3 : Int32) (σ : jx_S) : Option (Int32 × jx_S) := (if x1 < 0 ∨ 3000 ≤ (x1).toNatClampNeg then none else (if x1 < 0 ∨ 3000 ≤ (x1).toNatClampNeg then none else (p_r_called_22 x1 x2 x3 ((σ.1 123) (x1).toNatClampNeg) (0 : Int32) ((σ.1 114) (x1).toNatClampNeg) (0 : Int32) σ)))
theorem x_r_called (d : Nat) (hd : 1 ≤ d) (x1 : Int32) (x2 : Int32) (x3 : Int32) (σ : jx_S) (t : (Int32 × jx_S)) (res : Option Value × jx_S) (h : p_r_called x1 x2 x3 σ = some t) (hK : kkI t res) : jE d 191 0 [(0, .ref 106), (1, .int x1), (2, .int x2), (3, .int x3)] [] σ res := by
  unfold p_r_called at h
  refine jE_blk (bs := [(.aload_n 0, 0, 0), (.getfield 62, 12, 22), (.iload_n 1, 0, 0)]) (i := .iaload) (a1 := 0) (a2 := 0) (pc1 := 5) (l1 := [(0, .ref 106), (1, .int x1), (2, .int x2), (3, .int x3)]) (st1 := [.int x1, .ref 123]) (σ1 := σ) (by decide +kernel) rfl (fun hC => ?_)
  obtain ⟨hi, h⟩ := jx_ite0_inv h
  refine jE_iald (n := 3000) hC (by decide) rfl hi ?_
  refine jE_blk (bs := [(.istore 4, 9, 0), (.iconst (0), 0, 0), (.istore 5, 9, 0), (.aload_n 0, 0, 0), (.getfield 35, 12, 13), (.iload_n 1, 0, 0)]) (i := .iaload) (a1 := 0) (a2 := 0) (pc1 := 16) (l1 := [(5, .int (0 : Int32)), (4, .int ((σ.1 123) (x1).toNatClampNeg)), (0, .ref 106), (1, .int x1), (2, .int x2), (3, .int x3)]) (st1 := [.int x1, .ref 114]) (σ1 := σ) (by decide +kernel) rfl (fun hC => ?_)
  obtain ⟨hi, h⟩ := jx_ite0_inv h
  refine jE_iald (n := 3000) hC (by decide) rfl hi ?_
  refine jE_blk (bs := [(.istore 6, 9, 0), (.iconst (0), 0, 0), (.istore 7, 9, 0)]) (i := .iload 7) (a1 := 0) (a2 := 0) (pc1 := 22) (l1 := [(7, .int (0 : Int32)), (6, .int ((σ.1 114) (x1).toNatClampNeg)), (5, .int (0 : Int32)), (4, .int ((σ.1 123) (x1).toNatClampNeg)), (0, .ref 106), (1, .int x1), (2, .int x2), (3, .int x3)]) (st1 := []) (σ1 := σ) (by decide +kernel) rfl (fun hC => ?_)
  exact jE_loc (l := [(0, .ref 106), (1, .int x1), (2, .int x2), (3, .int x3), (4, .int ((σ.1 123) (x1).toNatClampNeg)), (5, .int (0 : Int32)), (6, .int ((σ.1 114) (x1).toNatClampNeg)), (7, .int (0 : Int32))]) (ks := [0, 1, 2, 3, 4, 5, 6, 7]) rfl (by decide) ⟨rfl, rfl, rfl, rfl, rfl, rfl, rfl, rfl, trivial⟩ (x_r_called_22 d hd x1 x2 x3 ((σ.1 123) (x1).toNatClampNeg) (0 : Int32) ((σ.1 114) (x1).toNatClampNeg) (0 : Int32) σ _ res h hK)
