def p_cRea_readParameter_25 (x1 : Int32) (σ : jx_S) : Option jx_S := ((p_cRea_readLocal (0 : Int32) σ).bind fun q2 => ((p_cRea_pass (18 : Int32) q2.2).bind fun q3 => ((p_cRea_readType q3).bind fun q4 => ((p_cFun_setType (q3.1 5 7) q2.1 q4.1 q4.2).bind fun q5 => ((p_cRea_pass (17 : Int32) q5).bind fun q6 => ((p_cRea_show q2.1 (jI_put 40 q6 43 (q6.1 5 7) (x1 + (1 : Int32)))).bind fun q7 => (some (q7))))))))
theorem x_cRea_readParameter_25 (d : Nat) (hd : 4 ≤ d) (x1 : Int32) (σ : jx_S) (t : jx_S) (res : Option Value × jx_S) (h : p_cRea_readParameter_25 x1 σ = some t) (hK : kkV t res) : jE d 45 25 [(0, .ref 5), (1, .int x1)] [] σ res := by
  unfold p_cRea_readParameter_25 at h
  refine jE_blk (bs := [(.aload_n 0, 0, 0), (.iconst (0), 0, 0)]) (i := .invokevirtual 90) (a1 := 48) (a2 := 0) (pc1 := 27) (l1 := [(0, .ref 5), (1, .int x1)]) (st1 := [.int (0 : Int32), .ref 5]) (σ1 := σ) (by decide +kernel) rfl (fun hC => ?_)
  obtain ⟨q2, hq, h⟩ := Option.bind_eq_some_iff.mp h
  refine jE_call (as := [.ref 5, .int (0 : Int32)]) (pc1 := 30) (st1 := []) hC rfl (by decide) (by omega) (x_cRea_readLocal (d - 1) (by omega) (0 : Int32) σ q2 (some (.int q2.1), q2.2) hq rfl) ?_
  refine jE_blk (bs := [(.istore_n 2, 3, 0), (.aload_n 0, 0, 0), (.bipush (18), 18, 0)]) (i := .invokevirtual 68) (a1 := 66) (a2 := 0) (pc1 := 34) (l1 := [(2, .int q2.1), (0, .ref 5), (1, .int x1)]) (st1 := [.int (18 : Int32), .ref 5]) (σ1 := q2.2) (by decide +kernel) rfl (fun hC => ?_)
  obtain ⟨q3, hq, h⟩ := Option.bind_eq_some_iff.mp h
  refine jE_call (as := [.ref 5, .int (18 : Int32)]) (pc1 := 37) (st1 := []) hC rfl (by decide) (by omega) (x_cRea_pass (d - 1) (by omega) (18 : Int32) q2.2 q3 (none, q3) hq rfl) ?_
  refine jE_blk (bs := [(.aload_n 0, 0, 0), (.getfield 28, 5, 2), (.aload_n 0, 0, 0), (.getfield 58, 5, 7), (.iload_n 2, 0, 0), (.aload_n 0, 0, 0)]) (i := .invokevirtual 93) (a1 := 46) (a2 := 0) (pc1 := 47) (l1 := [(2, .int q2.1), (0, .ref 5), (1, .int x1)]) (st1 := [.ref 5, .int q2.1, .int (q3.1 5 7), .ref 4]) (σ1 := q3) (by decide +kernel) rfl (fun hC => ?_)
  obtain ⟨q4, hq, h⟩ := Option.bind_eq_some_iff.mp h
  refine jE_call (as := [.ref 5]) (pc1 := 50) (st1 := [.int q2.1, .int (q3.1 5 7), .ref 4]) hC rfl (by decide) (by omega) (x_cRea_readType (d - 1) (by omega) q3 q4 (some (.int q4.1), q4.2) hq rfl) ?_
  refine jE_blk (bs := []) (i := .invokevirtual 96) (a1 := 37) (a2 := 0) (pc1 := 50) (l1 := [(2, .int q2.1), (0, .ref 5), (1, .int x1)]) (st1 := [.int q4.1, .int q2.1, .int (q3.1 5 7), .ref 4]) (σ1 := q4.2) (by decide +kernel) rfl (fun hC => ?_)
  obtain ⟨q5, hq, h⟩ := Option.bind_eq_some_iff.mp h
  refine jE_call (as := [.ref 4, .int (q3.1 5 7), .int q2.1, .int q4.1]) (pc1 := 53) (st1 := []) hC rfl (by decide) (by omega) (x_cFun_setType (d - 1) (by omega) (q3.1 5 7) q2.1 q4.1 q4.2 q5 (none, q5) hq rfl) ?_
  refine jE_blk (bs := [(.aload_n 0, 0, 0), (.bipush (17), 17, 0)]) (i := .invokevirtual 68) (a1 := 66) (a2 := 0) (pc1 := 56) (l1 := [(2, .int q2.1), (0, .ref 5), (1, .int x1)]) (st1 := [.int (17 : Int32), .ref 5]) (σ1 := q5) (by decide +kernel) rfl (fun hC => ?_)
  obtain ⟨q6, hq, h⟩ := Option.bind_eq_some_iff.mp h
  refine jE_call (as := [.ref 5, .int (17 : Int32)]) (pc1 := 59) (st1 := []) hC rfl (by decide) (by omega) (x_cRea_pass (d - 1) (by omega) (17 : Int32) q5 q6 (none, q6) hq rfl) ?_
  refine jE_blk (bs := [(.aload_n 0, 0, 0), (.getfield 28, 5, 2), (.getfield 100, 4, 1), (.aload_n 0, 0, 0), (.getfield 58, 5, 7), (.iload_n 1, 0, 0), (.iconst (1), 1, 0), (.iadd, 0, 0)]) (i := .invokevirtual 80) (a1 := 137) (a2 := 0) (pc1 := 73) (l1 := [(2, .int q2.1), (0, .ref 5), (1, .int x1)]) (st1 := [.int (x1 + (1 : Int32)), .int (q6.1 5 7), .ref 42]) (σ1 := q6) (by decide +kernel) rfl (fun hC => ?_)
  refine jE_call (as := [.ref 42, .int (q6.1 5 7), .int (x1 + (1 : Int32))]) (pc1 := 76) (st1 := []) hC rfl (by decide) (by omega) (xI_put (d - 1) 42 40 (q6.1 5 7) (x1 + (1 : Int32)) q6 (by decide) rfl rfl) ?_
  refine jE_blk (bs := [(.aload_n 0, 0, 0), (.iload_n 2, 0, 0)]) (i := .invokevirtual 103) (a1 := 62) (a2 := 0) (pc1 := 78) (l1 := [(2, .int q2.1), (0, .ref 5), (1, .int x1)]) (st1 := [.int q2.1, .ref 5]) (σ1 := (jI_put 40 q6 43 (q6.1 5 7) (x1 + (1 : Int32)))) (by decide +kernel) rfl (fun hC => ?_)
  obtain ⟨q7, hq, h⟩ := Option.bind_eq_some_iff.mp h
  refine jE_call (as := [.ref 5, .int q2.1]) (pc1 := 81) (st1 := []) hC rfl (by decide) (by omega) (x_cRea_show (d - 1) (by omega) q2.1 (jI_put 40 q6 43 (q6.1 5 7) (x1 + (1 : Int32))) q7 (none, q7) hq rfl) ?_
  refine jE_blk (bs := []) (i := .return_) (a1 := 0) (a2 := 0) (pc1 := 81) (l1 := [(2, .int q2.1), (0, .ref 5), (1, .int x1)]) (st1 := []) (σ1 := q7) (by decide +kernel) rfl (fun hC => ?_)
  have h9 := Option.some.inj h
  subst h9
  have e9 : ((none, q7) : Option Value × jx_S) = res := hK
  subst e9
  exact jE_ret hC rfl
def p_cRea_readParameter (x1 : Int32) (σ : jx_S) : Option jx_S := ((p_cRea_pass (16 : Int32) σ).bind fun q1 => (if ¬ x1 = (8 : Int32) then (p_cRea_readParameter_25 x1 q1) else (if ¬ (v_cRea_kind q1) = (1 : Int32) then (p_cRea_readParameter_25 x1 q1) else ((p_cRea_tell (4 : Int32) q1).bind fun q8 => (p_cRea_readParameter_25 x1 q8)))))
theorem x_cRea_readParameter (d : Nat) (hd : 4 ≤ d) (x1 : Int32) (σ : jx_S) (t : jx_S) (res : Option Value × jx_S) (h : p_cRea_readParameter x1 σ = some t) (hK : kkV t res) : jE d 45 0 [(0, .ref 5), (1, .int x1)] [] σ res := by
  unfold p_cRea_readParameter at h
  refine jE_blk (bs := [(.aload_n 0, 0, 0), (.bipush (16), 16, 0)]) (i := .invokevirtual 68) (a1 := 66) (a2 := 0) (pc1 := 3) (l1 := [(0, .ref 5), (1, .int x1)]) (st1 := [.int (16 : Int32), .ref 5]) (σ1 := σ) (by decide +kernel) rfl (fun hC => ?_)
  obtain ⟨q1, hq, h⟩ := Option.bind_eq_some_iff.mp h
  refine jE_call (as := [.ref 5, .int (16 : Int32)]) (pc1 := 6) (st1 := []) hC rfl (by decide) (by omega) (x_cRea_pass (d - 1) (by omega) (16 : Int32) σ q1 (none, q1) hq rfl) ?_
  refine jE_blk (bs := [(.iload_n 1, 0, 0), (.bipush (8), 8, 0)]) (i := .if_icmp .ne (16)) (a1 := 0) (a2 := 0) (pc1 := 9) (l1 := [(0, .ref 5), (1, .int x1)]) (st1 := [.int (8 : Int32), .int x1]) (σ1 := q1) (by decide +kernel) rfl (fun hC => ?_)
  rcases Classical.em (¬ x1 = (8 : Int32)) with hc | hc
  · rw [if_pos hc] at h
    refine jE_icT 25 hC (by decide) hc ?_
    exact jE_loc (l := [(0, .ref 5), (1, .int x1)]) (ks := [0, 1]) rfl (by decide) ⟨rfl, rfl, trivial⟩ (x_cRea_readParameter_25 d hd x1 q1 _ res h hK)
  · rw [if_neg hc] at h
    refine jE_icF 25 hC (by decide) hc ?_
    refine jE_blk (bs := [(.aload_n 0, 0, 0)]) (i := .invokevirtual 48) (a1 := 64) (a2 := 0) (pc1 := 13) (l1 := [(0, .ref 5), (1, .int x1)]) (st1 := [.ref 5]) (σ1 := q1) (by decide +kernel) rfl (fun hC => ?_)
    refine jE_call (as := [.ref 5]) (pc1 := 16) (st1 := []) hC rfl (by decide) (by omega) (xv_cRea_kind (d - 1) (by omega) q1) ?_
    refine jE_blk (bs := [(.iconst (1), 1, 0)]) (i := .if_icmp .ne (8)) (a1 := 0) (a2 := 0) (pc1 := 17) (l1 := [(0, .ref 5), (1, .int x1)]) (st1 := [.int (1 : Int32), .int (v_cRea_kind q1)]) (σ1 := q1) (by decide +kernel) rfl (fun hC => ?_)
    rcases Classical.em (¬ (v_cRea_kind q1) = (1 : Int32)) with hc | hc
    · rw [if_pos hc] at h
      refine jE_icT 25 hC (by decide) hc ?_
      exact jE_loc (l := [(0, .ref 5), (1, .int x1)]) (ks := [0, 1]) rfl (by decide) ⟨rfl, rfl, trivial⟩ (x_cRea_readParameter_25 d hd x1 q1 _ res h hK)
    · rw [if_neg hc] at h
      refine jE_icF 25 hC (by decide) hc ?_
      refine jE_blk (bs := [(.aload_n 0, 0, 0), (.iconst (4), 4, 0)]) (i := .invokevirtual 55) (a1 := 67) (a2 := 0) (pc1 := 22) (l1 := [(0, .ref 5), (1, .int x1)]) (st1 := [.int (4 : Int32), .ref 5]) (σ1 := q1) (by decide +kernel) rfl (fun hC => ?_)
      obtain ⟨q8, hq, h⟩ := Option.bind_eq_some_iff.mp h
      refine jE_call (as := [.ref 5, .int (4 : Int32)]) (pc1 := 25) (st1 := []) hC rfl (by decide) (by omega) (x_cRea_tell (d - 1) (by omega) (4 : Int32) q1 q8 (none, q8) hq rfl) ?_
      exact jE_loc (l := [(0, .ref 5), (1, .int x1)]) (ks := [0, 1]) rfl (by decide) ⟨rfl, rfl, trivial⟩ (x_cRea_readParameter_25 d hd x1 q8 _ res h hK)
def p_cRea_hide (x1 : Int32) (σ : jx_S) : Option jx_S := (some ((jx_i σ 5 5 ((σ.1 5 5) - x1))))
theorem x_cRea_hide (d : Nat) (hd : 0 ≤ d) (x1 : Int32) (σ : jx_S) (t : jx_S) (res : Option Value × jx_S) (h : p_cRea_hide x1 σ = some t) (hK : kkV t res) : jE d 63 0 [(0, .ref 5), (1, .int x1)] [] σ res := by
  unfold p_cRea_hide at h
  refine jE_blk (bs := [(.aload_n 0, 0, 0), (.dup, 0, 0), (.getfield 61, 5, 5), (.iload_n 1, 0, 0), (.isub, 0, 0), (.putfield 61, 5, 5)]) (i := .return_) (a1 := 0) (a2 := 0) (pc1 := 10) (l1 := [(0, .ref 5), (1, .int x1)]) (st1 := []) (σ1 := (jx_i σ 5 5 ((σ.1 5 5) - x1))) (by decide +kernel) rfl (fun hC => ?_)
  have h9 := Option.some.inj h
  subst h9
  have e9 : ((none, (jx_i σ 5 5 ((σ.1 5 5) - x1))) : Option Value × jx_S) = res := hK
  subst e9
  exact jE_ret hC rfl
def kk_cTre_adopt_11 (d : Nat) (t : ((Int32 × Int32 × Int32 × jx_S) ⊕ jx_S)) (res : Option Value × jx_S) : Prop := match t with
  | .inl s => jE d 34 11 [(0, .ref 3), (1, .int s.1), (2, .int s.2.1), (3, .int s.2.2.1)] [] s.2.2.2 res
  | .inr t => kkV t res
def p_cTre_adopt_11_s (x1 : Int32) (x2 : Int32) (x3 : Int32) (σ : jx_S) : Option ((Int32 × Int32 × Int32 × jx_S) ⊕ jx_S) := (if (1200 : Int32) ≤ x3 then (Option.map Sum.inr (some (σ))) else (if x2 = 0 then (Option.map Sum.inr (some (σ))) else (some (.inl (x1, (jI_at 1201 (σ.1 29) x2), (x3 + 1), (jI_put 1201 σ 31 x2 x1))))))
theorem x_cTre_adopt_11_s (d : Nat) (hd : 1 ≤ d) (x1 : Int32) (x2 : Int32) (x3 : Int32) (σ : jx_S) (t : ((Int32 × Int32 × Int32 × jx_S) ⊕ jx_S)) (res : Option Value × jx_S) (h : p_cTre_adopt_11_s x1 x2 x3 σ = some t) (hK : kk_cTre_adopt_11 d t res) : jE d 34 11 [(0, .ref 3), (1, .int x1), (2, .int x2), (3, .int x3)] [] σ res := by
  unfold p_cTre_adopt_11_s at h
  refine jE_blk (bs := [(.iload_n 3, 0, 0), (.sipush (1200), 1200, 0)]) (i := .if_icmp .ge (31)) (a1 := 0) (a2 := 0) (pc1 := 15) (l1 := [(0, .ref 3), (1, .int x1), (2, .int x2), (3, .int x3)]) (st1 := [.int (1200 : Int32), .int x3]) (σ1 := σ) (by decide +kernel) rfl (fun hC => ?_)
  rcases Classical.em ((1200 : Int32) ≤ x3) with hc | hc
  · rw [if_pos hc] at h
    refine jE_icT 46 hC (by decide) hc ?_
    obtain ⟨t9_1, h9_1, h8_1⟩ := Option.map_eq_some_iff.mp h
    clear h
    subst h8_1
    have h := h9_1
    clear h9_1
    refine jE_blk (bs := []) (i := .return_) (a1 := 0) (a2 := 0) (pc1 := 46) (l1 := [(0, .ref 3), (1, .int x1), (2, .int x2), (3, .int x3)]) (st1 := []) (σ1 := σ) (by decide +kernel) rfl (fun hC => ?_)
    have h9 := Option.some.inj h
    subst h9
    have e9 : ((none, σ) : Option Value × jx_S) = res := hK
    subst e9
    exact jE_ret hC rfl
  · rw [if_neg hc] at h
    refine jE_icF 46 hC (by decide) hc ?_
    refine jE_blk (bs := [(.iload_n 2, 0, 0)]) (i := .ifCond .eq (27)) (a1 := 0) (a2 := 0) (pc1 := 19) (l1 := [(0, .ref 3), (1, .int x1), (2, .int x2), (3, .int x3)]) (st1 := [.int x2]) (σ1 := σ) (by decide +kernel) rfl (fun hC => ?_)
    rcases Classical.em (x2 = 0) with hc | hc
    · rw [if_pos hc] at h
      refine jE_ifT 46 hC (by decide) hc ?_
      obtain ⟨t9_2, h9_2, h8_2⟩ := Option.map_eq_some_iff.mp h
      clear h
      subst h8_2
      have h := h9_2
      clear h9_2
      refine jE_blk (bs := []) (i := .return_) (a1 := 0) (a2 := 0) (pc1 := 46) (l1 := [(0, .ref 3), (1, .int x1), (2, .int x2), (3, .int x3)]) (st1 := []) (σ1 := σ) (by decide +kernel) rfl (fun hC => ?_)
      have h9 := Option.some.inj h
      subst h9
      have e9 : ((none, σ) : Option Value × jx_S) = res := hK
      subst e9
      exact jE_ret hC rfl
    · rw [if_neg hc] at h
      refine jE_ifF 46 hC (by decide) hc ?_
      refine jE_blk (bs := [(.aload_n 0, 0, 0), (.getfield 29, 3, 4), (.iload_n 2, 0, 0), (.iload_n 1, 0, 0)]) (i := .invokevirtual 48) (a1 := 137) (a2 := 0) (pc1 := 28) (l1 := [(0, .ref 3), (1, .int x1), (2, .int x2), (3, .int x3)]) (st1 := [.int x1, .int x2, .ref 30]) (σ1 := σ) (by decide +kernel) rfl (fun hC => ?_)
      refine jE_call (as := [.ref 30, .int x2, .int x1]) (pc1 := 31) (st1 := []) hC rfl (by decide) (by omega) (xI_put (d - 1) 30 1201 x2 x1 σ (by decide) rfl rfl) ?_
      refine jE_blk (bs := [(.aload_n 0, 0, 0), (.getfield 26, 3, 3), (.iload_n 2, 0, 0)]) (i := .invokevirtual 55) (a1 := 136) (a2 := 0) (pc1 := 36) (l1 := [(0, .ref 3), (1, .int x1), (2, .int x2), (3, .int x3)]) (st1 := [.int x2, .ref 28]) (σ1 := (jI_put 1201 σ 31 x2 x1)) (by decide +kernel) rfl (fun hC => ?_)
      refine jE_call (as := [.ref 28, .int x2]) (pc1 := 39) (st1 := []) hC rfl (by decide) (by omega) (xI_at (d - 1) 28 1201 x2 (jI_put 1201 σ 31 x2 x1) (by decide) rfl rfl) ?_
      refine jE_blk (bs := [(.istore_n 2, 4, 0), (.iinc 3 (1), 4, 2), (.goto (-32), 0, 0)]) (i := .iload_n 3) (a1 := 0) (a2 := 0) (pc1 := 11) (l1 := [(3, .int (x3 + 1)), (2, .int (jI_at 1201 (σ.1 29) x2)), (0, .ref 3), (1, .int x1)]) (st1 := []) (σ1 := (jI_put 1201 σ 31 x2 x1)) (by decide +kernel) rfl (fun hC => ?_)
      have h9 := Option.some.inj h
      subst h9
      exact jE_loc (l := [(0, .ref 3), (1, .int x1), (2, .int (jI_at 1201 (σ.1 29) x2)), (3, .int (x3 + 1))]) (ks := [0, 1, 2, 3]) rfl (by decide) ⟨rfl, rfl, rfl, rfl, trivial⟩ hK
def p_cTre_adopt_11 (x1 : Int32) (x2 : Int32) (x3 : Int32) (σ : jx_S) : Option jx_S := jx_loop 100000000 (fun s => p_cTre_adopt_11_s s.1 s.2.1 s.2.2.1 (s.2.2.2)) (x1, x2, x3, σ)
theorem x_cTre_adopt_11 (d : Nat) (hd : 1 ≤ d) (x1 : Int32) (x2 : Int32) (x3 : Int32) (σ : jx_S) (t : jx_S) (res : Option Value × jx_S) (h : p_cTre_adopt_11 x1 x2 x3 σ = some t) (hK : kkV t res) : jE d 34 11 [(0, .ref 3), (1, .int x1), (2, .int x2), (3, .int x3)] [] σ res := by
  refine jx_loop_ok (E := fun s t => ∀ res, kkV t res → jE d 34 11 [(0, .ref 3), (1, .int s.1), (2, .int s.2.1), (3, .int s.2.2.1)] [] s.2.2.2 res) (fun s t hs => ?_) _ _ _ h res hK
  cases t with
  | inl s1 => exact fun b hb res hk => x_cTre_adopt_11_s d hd (s.1) (s.2.1) (s.2.2.1) (s.2.2.2) _ res hs (hb res hk)
  | inr b => exact fun res hk => x_cTre_adopt_11_s d hd (s.1) (s.2.1) (s.2.2.1) (s.2.2.2) _ res hs hk
def p_cTre_adopt (x1 : Int32) (σ : jx_S) : Option jx_S := (p_cTre_adopt_11 x1 (jI_at 1201 (σ.1 27) x1) (0 : Int32) σ)
theorem x_cTre_adopt (d : Nat) (hd : 1 ≤ d) (x1 : Int32) (σ : jx_S) (t : jx_S) (res : Option Value × jx_S) (h : p_cTre_adopt x1 σ = some t) (hK : kkV t res) : jE d 34 0 [(0, .ref 3), (1, .int x1)] [] σ res := by
  unfold p_cTre_adopt at h
  refine jE_blk (bs := [(.aload_n 0, 0, 0), (.getfield 23, 3, 2), (.iload_n 1, 0, 0)]) (i := .invokevirtual 55) (a1 := 136) (a2 := 0) (pc1 := 5) (l1 := [(0, .ref 3), (1, .int x1)]) (st1 := [.int x1, .ref 26]) (σ1 := σ) (by decide +kernel) rfl (fun hC => ?_)
  refine jE_call (as := [.ref 26, .int x1]) (pc1 := 8) (st1 := []) hC rfl (by decide) (by omega) (xI_at (d - 1) 26 1201 x1 σ (by decide) rfl rfl) ?_
  refine jE_blk (bs := [(.istore_n 2, 4, 0), (.iconst (0), 0, 0), (.istore_n 3, 4, 0)]) (i := .iload_n 3) (a1 := 0) (a2 := 0) (pc1 := 11) (l1 := [(3, .int (0 : Int32)), (2, .int (jI_at 1201 (σ.1 27) x1)), (0, .ref 3), (1, .int x1)]) (st1 := []) (σ1 := σ) (by decide +kernel) rfl (fun hC => ?_)
  exact jE_loc (l := [(0, .ref 3), (1, .int x1), (2, .int (jI_at 1201 (σ.1 27) x1)), (3, .int (0 : Int32))]) (ks := [0, 1, 2, 3]) rfl (by decide) ⟨rfl, rfl, rfl, rfl, trivial⟩ (x_cTre_adopt_11 d hd x1 (jI_at 1201 (σ.1 27) x1) (0 : Int32) σ _ res h hK)
def p_cTre_add_79 (y0 : Int32) (y1 : Int32) (σ : jx_S) : Option (Int32 × jx_S) := ((p_cTre_adopt (σ.1 3 9) (jI_put 1201 (jI_put 1201 (jI_put 1201 (jI_put 1201 σ 33 y1 y0) 35 (σ.1 3 9) (0 : Int32)) 37 (σ.1 3 9) (0 : Int32)) 39 (σ.1 3 9) (0 : Int32))).bind fun q1 => (some (((q1.1 3 9), q1))))
theorem x_cTre_add_79 (d : Nat) (hd : 2 ≤ d) (y0 : Int32) (y1 : Int32) (σ : jx_S) (t : (Int32 × jx_S)) (res : Option Value × jx_S) (h : p_cTre_add_79 y0 y1 σ = some t) (hK : kkI t res) : jE d 30 79 [(0, .ref 3)] [.int y0, .int y1, .ref 32] σ res := by
  unfold p_cTre_add_79 at h
  refine jE_blk (bs := []) (i := .invokevirtual 48) (a1 := 137) (a2 := 0) (pc1 := 79) (l1 := [(0, .ref 3)]) (st1 := [.int y0, .int y1, .ref 32]) (σ1 := σ) (by decide +kernel) rfl (fun hC => ?_)
  refine jE_call (as := [.ref 32, .int y1, .int y0]) (pc1 := 82) (st1 := []) hC rfl (by decide) (by omega) (xI_put (d - 1) 32 1201 y1 y0 σ (by decide) rfl rfl) ?_
  refine jE_blk (bs := [(.aload_n 0, 0, 0), (.getfield 35, 3, 6), (.aload_n 0, 0, 0), (.getfield 44, 3, 9), (.iconst (0), 0, 0)]) (i := .invokevirtual 48) (a1 := 137) (a2 := 0) (pc1 := 91) (l1 := [(0, .ref 3)]) (st1 := [.int (0 : Int32), .int (σ.1 3 9), .ref 34]) (σ1 := (jI_put 1201 σ 33 y1 y0)) (by decide +kernel) rfl (fun hC => ?_)
  refine jE_call (as := [.ref 34, .int (σ.1 3 9), .int (0 : Int32)]) (pc1 := 94) (st1 := []) hC rfl (by decide) (by omega) (xI_put (d - 1) 34 1201 (σ.1 3 9) (0 : Int32) (jI_put 1201 σ 33 y1 y0) (by decide) rfl rfl) ?_
  refine jE_blk (bs := [(.aload_n 0, 0, 0), (.getfield 38, 3, 7), (.aload_n 0, 0, 0), (.getfield 44, 3, 9), (.iconst (0), 0, 0)]) (i := .invokevirtual 48) (a1 := 137) (a2 := 0) (pc1 := 103) (l1 := [(0, .ref 3)]) (st1 := [.int (0 : Int32), .int (σ.1 3 9), .ref 36]) (σ1 := (jI_put 1201 (jI_put 1201 σ 33 y1 y0) 35 (σ.1 3 9) (0 : Int32))) (by decide +kernel) rfl (fun hC => ?_)
  refine jE_call (as := [.ref 36, .int (σ.1 3 9), .int (0 : Int32)]) (pc1 := 106) (st1 := []) hC rfl (by decide) (by omega) (xI_put (d - 1) 36 1201 (σ.1 3 9) (0 : Int32) (jI_put 1201 (jI_put 1201 σ 33 y1 y0) 35 (σ.1 3 9) (0 : Int32)) (by decide) rfl rfl) ?_
  refine jE_blk (bs := [(.aload_n 0, 0, 0), (.getfield 41, 3, 8), (.aload_n 0, 0, 0), (.getfield 44, 3, 9), (.iconst (0), 0, 0)]) (i := .invokevirtual 48) (a1 := 137) (a2 := 0) (pc1 := 115) (l1 := [(0, .ref 3)]) (st1 := [.int (0 : Int32), .int (σ.1 3 9), .ref 38]) (σ1 := (jI_put 1201 (jI_put 1201 (jI_put 1201 σ 33 y1 y0) 35 (σ.1 3 9) (0 : Int32)) 37 (σ.1 3 9) (0 : Int32))) (by decide +kernel) rfl (fun hC => ?_)
  refine jE_call (as := [.ref 38, .int (σ.1 3 9), .int (0 : Int32)]) (pc1 := 118) (st1 := []) hC rfl (by decide) (by omega) (xI_put (d - 1) 38 1201 (σ.1 3 9) (0 : Int32) (jI_put 1201 (jI_put 1201 (jI_put 1201 σ 33 y1 y0) 35 (σ.1 3 9) (0 : Int32)) 37 (σ.1 3 9) (0 : Int32)) (by decide) rfl rfl) ?_
  refine jE_blk (bs := [(.aload_n 0, 0, 0), (.aload_n 0, 0, 0), (.getfield 44, 3, 9)]) (i := .invokevirtual 52) (a1 := 34) (a2 := 0) (pc1 := 123) (l1 := [(0, .ref 3)]) (st1 := [.int (σ.1 3 9), .ref 3]) (σ1 := (jI_put 1201 (jI_put 1201 (jI_put 1201 (jI_put 1201 σ 33 y1 y0) 35 (σ.1 3 9) (0 : Int32)) 37 (σ.1 3 9) (0 : Int32)) 39 (σ.1 3 9) (0 : Int32))) (by decide +kernel) rfl (fun hC => ?_)
  obtain ⟨q1, hq, h⟩ := Option.bind_eq_some_iff.mp h
  refine jE_call (as := [.ref 3, .int (σ.1 3 9)]) (pc1 := 126) (st1 := []) hC rfl (by decide) (by omega) (x_cTre_adopt (d - 1) (by omega) (σ.1 3 9) (jI_put 1201 (jI_put 1201 (jI_put 1201 (jI_put 1201 σ 33 y1 y0) 35 (σ.1 3 9) (0 : Int32)) 37 (σ.1 3 9) (0 : Int32)) 39 (σ.1 3 9) (0 : Int32)) q1 (none, q1) hq rfl) ?_
  refine jE_blk (bs := [(.aload_n 0, 0, 0), (.getfield 44, 3, 9)]) (i := .ireturn) (a1 := 0) (a2 := 0) (pc1 := 130) (l1 := [(0, .ref 3)]) (st1 := [.int (q1.1 3 9)]) (σ1 := q1) (by decide +kernel) rfl (fun hC => ?_)
  have h9 := Option.some.inj h
  subst h9
  have e9 : ((some (.int (q1.1 3 9)), q1) : Option Value × jx_S) = res := hK
  subst e9
  exact jE_ret hC rfl
def p_cTre_add (x1 : Int32) (x2 : Int32) (x3 : Int32) (σ : jx_S) : Option (Int32 × jx_S) := (p_cTre_add_79 (0 : Int32) ((σ.1 3 9) + (1 : Int32)) (jI_put 1201 (jI_put 1201 (jI_put 1201 (jI_put 1201 (jI_put 1201 (jx_i σ 3 9 ((σ.1 3 9) + (1 : Int32))) 23 ((σ.1 3 9) + (1 : Int32)) x1) 25 ((σ.1 3 9) + (1 : Int32)) x2) 27 ((σ.1 3 9) + (1 : Int32)) x3) 29 ((σ.1 3 9) + (1 : Int32)) (0 : Int32)) 31 ((σ.1 3 9) + (1 : Int32)) (0 : Int32)))
theorem x_cTre_add (d : Nat) (hd : 2 ≤ d) (x1 : Int32) (x2 : Int32) (x3 : Int32) (σ : jx_S) (t : (Int32 × jx_S)) (res : Option Value × jx_S) (h : p_cTre_add x1 x2 x3 σ = some t) (hK : kkI t res) : jE d 30 0 [(0, .ref 3), (1, .int x1), (2, .int x2), (3, .int x3)] [] σ res := by
  unfold p_cTre_add at h
  refine jE_blk (bs := [(.aload_n 0, 0, 0), (.dup, 0, 0), (.getfield 44, 3, 9), (.iconst (1), 1, 0), (.iadd, 0, 0), (.putfield 44, 3, 9), (.aload_n 0, 0, 0), (.getfield 14, 3, 0), (.aload_n 0, 0, 0), (.getfield 44, 3, 9), (.iload_n 1, 0, 0)]) (i := .invokevirtual 48) (a1 := 137) (a2 := 0) (pc1 := 19) (l1 := [(0, .ref 3), (1, .int x1), (2, .int x2), (3, .int x3)]) (st1 := [.int x1, .int ((σ.1 3 9) + (1 : Int32)), .ref 22]) (σ1 := (jx_i σ 3 9 ((σ.1 3 9) + (1 : Int32)))) (by decide +kernel) rfl (fun hC => ?_)
  refine jE_call (as := [.ref 22, .int ((σ.1 3 9) + (1 : Int32)), .int x1]) (pc1 := 22) (st1 := []) hC rfl (by decide) (by omega) (xI_put (d - 1) 22 1201 ((σ.1 3 9) + (1 : Int32)) x1 (jx_i σ 3 9 ((σ.1 3 9) + (1 : Int32))) (by decide) rfl rfl) ?_
  refine jE_blk (bs := [(.aload_n 0, 0, 0), (.getfield 20, 3, 1), (.aload_n 0, 0, 0), (.getfield 44, 3, 9), (.iload_n 2, 0, 0)]) (i := .invokevirtual 48) (a1 := 137) (a2 := 0) (pc1 := 31) (l1 := [(0, .ref 3), (1, .int x1), (2, .int x2), (3, .int x3)]) (st1 := [.int x2, .int ((σ.1 3 9) + (1 : Int32)), .ref 24]) (σ1 := (jI_put 1201 (jx_i σ 3 9 ((σ.1 3 9) + (1 : Int32))) 23 ((σ.1 3 9) + (1 : Int32)) x1)) (by decide +kernel) rfl (fun hC => ?_)
  refine jE_call (as := [.ref 24, .int ((σ.1 3 9) + (1 : Int32)), .int x2]) (pc1 := 34) (st1 := []) hC rfl (by decide) (by omega) (xI_put (d - 1) 24 1201 ((σ.1 3 9) + (1 : Int32)) x2 (jI_put 1201 (jx_i σ 3 9 ((σ.1 3 9) + (1 : Int32))) 23 ((σ.1 3 9) + (1 : Int32)) x1) (by decide) rfl rfl) ?_
  refine jE_blk (bs := [(.aload_n 0, 0, 0), (.getfield 23, 3, 2), (.aload_n 0, 0, 0), (.getfield 44, 3, 9), (.iload_n 3, 0, 0)]) (i := .invokevirtual 48) (a1 := 137) (a2 := 0) (pc1 := 43) (l1 := [(0, .ref 3), (1, .int x1), (2, .int x2), (3, .int x3)]) (st1 := [.int x3, .int ((σ.1 3 9) + (1 : Int32)), .ref 26]) (σ1 := (jI_put 1201 (jI_put 1201 (jx_i σ 3 9 ((σ.1 3 9) + (1 : Int32))) 23 ((σ.1 3 9) + (1 : Int32)) x1) 25 ((σ.1 3 9) + (1 : Int32)) x2)) (by decide +kernel) rfl (fun hC => ?_)
  refine jE_call (as := [.ref 26, .int ((σ.1 3 9) + (1 : Int32)), .int x3]) (pc1 := 46) (st1 := []) hC rfl (by decide) (by omega) (xI_put (d - 1) 26 1201 ((σ.1 3 9) + (1 : Int32)) x3 (jI_put 1201 (jI_put 1201 (jx_i σ 3 9 ((σ.1 3 9) + (1 : Int32))) 23 ((σ.1 3 9) + (1 : Int32)) x1) 25 ((σ.1 3 9) + (1 : Int32)) x2) (by decide) rfl rfl) ?_
  refine jE_blk (bs := [(.aload_n 0, 0, 0), (.getfield 26, 3, 3), (.aload_n 0, 0, 0), (.getfield 44, 3, 9), (.iconst (0), 0, 0)]) (i := .invokevirtual 48) (a1 := 137) (a2 := 0) (pc1 := 55) (l1 := [(0, .ref 3), (1, .int x1), (2, .int x2), (3, .int x3)]) (st1 := [.int (0 : Int32), .int ((σ.1 3 9) + (1 : Int32)), .ref 28]) (σ1 := (jI_put 1201 (jI_put 1201 (jI_put 1201 (jx_i σ 3 9 ((σ.1 3 9) + (1 : Int32))) 23 ((σ.1 3 9) + (1 : Int32)) x1) 25 ((σ.1 3 9) + (1 : Int32)) x2) 27 ((σ.1 3 9) + (1 : Int32)) x3)) (by decide +kernel) rfl (fun hC => ?_)
  refine jE_call (as := [.ref 28, .int ((σ.1 3 9) + (1 : Int32)), .int (0 : Int32)]) (pc1 := 58) (st1 := []) hC rfl (by decide) (by omega) (xI_put (d - 1) 28 1201 ((σ.1 3 9) + (1 : Int32)) (0 : Int32) (jI_put 1201 (jI_put 1201 (jI_put 1201 (jx_i σ 3 9 ((σ.1 3 9) + (1 : Int32))) 23 ((σ.1 3 9) + (1 : Int32)) x1) 25 ((σ.1 3 9) + (1 : Int32)) x2) 27 ((σ.1 3 9) + (1 : Int32)) x3) (by decide) rfl rfl) ?_
  refine jE_blk (bs := [(.aload_n 0, 0, 0), (.getfield 29, 3, 4), (.aload_n 0, 0, 0), (.getfield 44, 3, 9), (.iconst (0), 0, 0)]) (i := .invokevirtual 48) (a1 := 137) (a2 := 0) (pc1 := 67) (l1 := [(0, .ref 3), (1, .int x1), (2, .int x2), (3, .int x3)]) (st1 := [.int (0 : Int32), .int ((σ.1 3 9) + (1 : Int32)), .ref 30]) (σ1 := (jI_put 1201 (jI_put 1201 (jI_put 1201 (jI_put 1201 (jx_i σ 3 9 ((σ.1 3 9) + (1 : Int32))) 23 ((σ.1 3 9) + (1 : Int32)) x1) 25 ((σ.1 3 9) + (1 : Int32)) x2) 27 ((σ.1 3 9) + (1 : Int32)) x3) 29 ((σ.1 3 9) + (1 : Int32)) (0 : Int32))) (by decide +kernel) rfl (fun hC => ?_)
  refine jE_call (as := [.ref 30, .int ((σ.1 3 9) + (1 : Int32)), .int (0 : Int32)]) (pc1 := 70) (st1 := []) hC rfl (by decide) (by omega) (xI_put (d - 1) 30 1201 ((σ.1 3 9) + (1 : Int32)) (0 : Int32) (jI_put 1201 (jI_put 1201 (jI_put 1201 (jI_put 1201 (jx_i σ 3 9 ((σ.1 3 9) + (1 : Int32))) 23 ((σ.1 3 9) + (1 : Int32)) x1) 25 ((σ.1 3 9) + (1 : Int32)) x2) 27 ((σ.1 3 9) + (1 : Int32)) x3) 29 ((σ.1 3 9) + (1 : Int32)) (0 : Int32)) (by decide) rfl rfl) ?_
  refine jE_blk (bs := [(.aload_n 0, 0, 0), (.getfield 32, 3, 5), (.aload_n 0, 0, 0), (.getfield 44, 3, 9), (.iconst (0), 0, 0)]) (i := .invokevirtual 48) (a1 := 137) (a2 := 0) (pc1 := 79) (l1 := [(0, .ref 3), (1, .int x1), (2, .int x2), (3, .int x3)]) (st1 := [.int (0 : Int32), .int ((σ.1 3 9) + (1 : Int32)), .ref 32]) (σ1 := (jI_put 1201 (jI_put 1201 (jI_put 1201 (jI_put 1201 (jI_put 1201 (jx_i σ 3 9 ((σ.1 3 9) + (1 : Int32))) 23 ((σ.1 3 9) + (1 : Int32)) x1) 25 ((σ.1 3 9) + (1 : Int32)) x2) 27 ((σ.1 3 9) + (1 : Int32)) x3) 29 ((σ.1 3 9) + (1 : Int32)) (0 : Int32)) 31 ((σ.1 3 9) + (1 : Int32)) (0 : Int32))) (by decide +kernel) rfl (fun hC => ?_)
  exact jE_loc (l := [(0, .ref 3)]) (ks := [0]) rfl (by decide) ⟨rfl, trivial⟩ (x_cTre_add_79 d hd (0 : Int32) ((σ.1 3 9) + (1 : Int32)) (jI_put 1201 (jI_put 1201 (jI_put 1201 (jI_put 1201 (jI_put 1201 (jx_i σ 3 9 ((σ.1 3 9) + (1 : Int32))) 23 ((σ.1 3 9) + (1 : Int32)) x1) 25 ((σ.1 3 9) + (1 : Int32)) x2) 27 ((σ.1 3 9) + (1 : Int32)) x3) 29 ((σ.1 3 9) + (1 : Int32)) (0 : Int32)) 31 ((σ.1 3 9) + (1 : Int32)) (0 : Int32)) _ res h hK)
def p_cRea_addNode (x1 : Int32) (x2 : Int32) (x3 : Int32) (x4 : Int32) (x5 : Int32) (x6 : Int32) (σ : jx_S) : Option (Int32 × jx_S) := (if (v_cFau_isTold σ) = 0 then ((p_cTre_add x1 x2 x4 (jI_put 1201 (jI_put 1201 σ 29 x4 x5) 29 x5 x6)).bind fun q1 => (some ((q1.1, (jI_put 1201 q1.2 33 q1.1 x3))))) else (some (((0 : Int32), σ))))
theorem x_cRea_addNode (d : Nat) (hd : 3 ≤ d) (x1 : Int32) (x2 : Int32) (x3 : Int32) (x4 : Int32) (x5 : Int32) (x6 : Int32) (σ : jx_S) (t : (Int32 × jx_S)) (res : Option Value × jx_S) (h : p_cRea_addNode x1 x2 x3 x4 x5 x6 σ = some t) (hK : kkI t res) : jE d 60 0 [(0, .ref 5), (1, .int x1), (2, .int x2), (3, .int x3), (4, .int x4), (5, .int x5), (6, .int x6)] [] σ res := by
  unfold p_cRea_addNode at h
  refine jE_blk (bs := [(.aload_n 0, 0, 0), (.getfield 32, 5, 3)]) (i := .invokevirtual 111) (a1 := 17) (a2 := 0) (pc1 := 4) (l1 := [(0, .ref 5), (1, .int x1), (2, .int x2), (3, .int x3), (4, .int x4), (5, .int x5), (6, .int x6)]) (st1 := [.ref 1]) (σ1 := σ) (by decide +kernel) rfl (fun hC => ?_)
  refine jE_call (as := [.ref 1]) (pc1 := 7) (st1 := []) hC rfl (by decide) (by omega) (xv_cFau_isTold (d - 1) (by omega) σ) ?_
  refine jE_blk (bs := []) (i := .ifCond .eq (5)) (a1 := 0) (a2 := 0) (pc1 := 7) (l1 := [(0, .ref 5), (1, .int x1), (2, .int x2), (3, .int x3), (4, .int x4), (5, .int x5), (6, .int x6)]) (st1 := [.int (v_cFau_isTold σ)]) (σ1 := σ) (by decide +kernel) rfl (fun hC => ?_)
  rcases Classical.em ((v_cFau_isTold σ) = 0) with hc | hc
  · rw [if_pos hc] at h
    refine jE_ifT 12 hC (by decide) hc ?_
    refine jE_blk (bs := [(.aload_n 0, 0, 0), (.getfield 24, 5, 1), (.getfield 159, 3, 3), (.iload 4, 0, 0), (.iload 5, 0, 0)]) (i := .invokevirtual 80) (a1 := 137) (a2 := 0) (pc1 := 23) (l1 := [(0, .ref 5), (1, .int x1), (2, .int x2), (3, .int x3), (4, .int x4), (5, .int x5), (6, .int x6)]) (st1 := [.int x5, .int x4, .ref 28]) (σ1 := σ) (by decide +kernel) rfl (fun hC => ?_)
    refine jE_call (as := [.ref 28, .int x4, .int x5]) (pc1 := 26) (st1 := []) hC rfl (by decide) (by omega) (xI_put (d - 1) 28 1201 x4 x5 σ (by decide) rfl rfl) ?_
    refine jE_blk (bs := [(.aload_n 0, 0, 0), (.getfield 24, 5, 1), (.getfield 159, 3, 3), (.iload 5, 0, 0), (.iload 6, 0, 0)]) (i := .invokevirtual 80) (a1 := 137) (a2 := 0) (pc1 := 37) (l1 := [(0, .ref 5), (1, .int x1), (2, .int x2), (3, .int x3), (4, .int x4), (5, .int x5), (6, .int x6)]) (st1 := [.int x6, .int x5, .ref 28]) (σ1 := (jI_put 1201 σ 29 x4 x5)) (by decide +kernel) rfl (fun hC => ?_)
    refine jE_call (as := [.ref 28, .int x5, .int x6]) (pc1 := 40) (st1 := []) hC rfl (by decide) (by omega) (xI_put (d - 1) 28 1201 x5 x6 (jI_put 1201 σ 29 x4 x5) (by decide) rfl rfl) ?_
    refine jE_blk (bs := [(.aload_n 0, 0, 0), (.getfield 24, 5, 1), (.iload_n 1, 0, 0), (.iload_n 2, 0, 0), (.iload 4, 0, 0)]) (i := .invokevirtual 168) (a1 := 30) (a2 := 0) (pc1 := 48) (l1 := [(0, .ref 5), (1, .int x1), (2, .int x2), (3, .int x3), (4, .int x4), (5, .int x5), (6, .int x6)]) (st1 := [.int x4, .int x2, .int x1, .ref 3]) (σ1 := (jI_put 1201 (jI_put 1201 σ 29 x4 x5) 29 x5 x6)) (by decide +kernel) rfl (fun hC => ?_)
    obtain ⟨q1, hq, h⟩ := Option.bind_eq_some_iff.mp h
    refine jE_call (as := [.ref 3, .int x1, .int x2, .int x4]) (pc1 := 51) (st1 := []) hC rfl (by decide) (by omega) (x_cTre_add (d - 1) (by omega) x1 x2 x4 (jI_put 1201 (jI_put 1201 σ 29 x4 x5) 29 x5 x6) q1 (some (.int q1.1), q1.2) hq rfl) ?_
    refine jE_blk (bs := [(.istore 7, 8, 0), (.aload_n 0, 0, 0), (.getfield 24, 5, 1), (.getfield 171, 3, 5), (.iload 7, 0, 0), (.iload_n 3, 0, 0)]) (i := .invokevirtual 80) (a1 := 137) (a2 := 0) (pc1 := 63) (l1 := [(7, .int q1.1), (0, .ref 5), (1, .int x1), (2, .int x2), (3, .int x3), (4, .int x4), (5, .int x5), (6, .int x6)]) (st1 := [.int x3, .int q1.1, .ref 32]) (σ1 := q1.2) (by decide +kernel) rfl (fun hC => ?_)
    refine jE_call (as := [.ref 32, .int q1.1, .int x3]) (pc1 := 66) (st1 := []) hC rfl (by decide) (by omega) (xI_put (d - 1) 32 1201 q1.1 x3 q1.2 (by decide) rfl rfl) ?_
    refine jE_blk (bs := [(.iload 7, 0, 0)]) (i := .ireturn) (a1 := 0) (a2 := 0) (pc1 := 68) (l1 := [(7, .int q1.1), (0, .ref 5), (1, .int x1), (2, .int x2), (3, .int x3), (4, .int x4), (5, .int x5), (6, .int x6)]) (st1 := [.int q1.1]) (σ1 := (jI_put 1201 q1.2 33 q1.1 x3)) (by decide +kernel) rfl (fun hC => ?_)
    have h9 := Option.some.inj h
    subst h9
    have e9 : ((some (.int q1.1), (jI_put 1201 q1.2 33 q1.1 x3)) : Option Value × jx_S) = res := hK
    subst e9
    exact jE_ret hC rfl
  · rw [if_neg hc] at h
    refine jE_ifF 12 hC (by decide) hc ?_
    refine jE_blk (bs := [(.iconst (0), 0, 0)]) (i := .ireturn) (a1 := 0) (a2 := 0) (pc1 := 11) (l1 := [(0, .ref 5), (1, .int x1), (2, .int x2), (3, .int x3), (4, .int x4), (5, .int x5), (6, .int x6)]) (st1 := [.int (0 : Int32)]) (σ1 := σ) (by decide +kernel) rfl (fun hC => ?_)
    have h9 := Option.some.inj h
    subst h9
    have e9 : ((some (.int (0 : Int32)), σ) : Option Value × jx_S) = res := hK
    subst e9
    exact jE_ret hC rfl
def p_cRea_readLet (rec : (Int32 → jx_S → Option (Int32 × jx_S))) (x1 : Int32) (σ : jx_S) : Option (Int32 × jx_S) := ((p_cRea_pass (5 : Int32) σ).bind fun q1 => ((p_cRea_readLocal (0 : Int32) q1).bind fun q2 => ((p_cRea_pass (18 : Int32) q2.2).bind fun q3 => ((p_cRea_readBase q3).bind fun q4 => ((p_cFun_setType (q3.1 5 7) q2.1 q4.1 q4.2).bind fun q5 => ((p_cRea_pass (19 : Int32) q5).bind fun q6 => ((rec (x1 + (1 : Int32)) q6).bind fun q7 => ((p_cRea_pass (6 : Int32) q7.2).bind fun q8 => ((p_cRea_show q2.1 q8).bind fun q9 => ((rec (x1 + (1 : Int32)) q9).bind fun q10 => ((p_cRea_hide (1 : Int32) q10.2).bind fun q11 => ((p_cRea_addNode (5 : Int32) (σ.1 5 6) q2.1 q7.1 q10.1 (0 : Int32) q11).bind fun q12 => (some ((q12.1, q12.2)))))))))))))))
theorem x_cRea_readLet (d : Nat) (rec : (Int32 → jx_S → Option (Int32 × jx_S))) (Dr : Nat) (hrec : ∀ z0 s r, rec z0 s = some r → jE Dr 49 0 (lv_args 0 [.ref 5, .int z0]) [] s (some (.int r.1), r.2)) (hd : Dr + 4 ≤ d) (x1 : Int32) (σ : jx_S) (t : (Int32 × jx_S)) (res : Option Value × jx_S) (h : p_cRea_readLet rec x1 σ = some t) (hK : kkI t res) : jE d 50 0 [(0, .ref 5), (1, .int x1)] [] σ res := by
  unfold p_cRea_readLet at h
  refine jE_blk (bs := [(.aload_n 0, 0, 0), (.getfield 36, 5, 6), (.istore_n 2, 6, 0), (.aload_n 0, 0, 0), (.iconst (5), 5, 0)]) (i := .invokevirtual 68) (a1 := 66) (a2 := 0) (pc1 := 7) (l1 := [(2, .int (σ.1 5 6)), (0, .ref 5), (1, .int x1)]) (st1 := [.int (5 : Int32), .ref 5]) (σ1 := σ) (by decide +kernel) rfl (fun hC => ?_)
  obtain ⟨q1, hq, h⟩ := Option.bind_eq_some_iff.mp h
  refine jE_call (as := [.ref 5, .int (5 : Int32)]) (pc1 := 10) (st1 := []) hC rfl (by decide) (by omega) (x_cRea_pass (d - 1) (by omega) (5 : Int32) σ q1 (none, q1) hq rfl) ?_
  refine jE_blk (bs := [(.aload_n 0, 0, 0), (.iconst (0), 0, 0)]) (i := .invokevirtual 90) (a1 := 48) (a2 := 0) (pc1 := 12) (l1 := [(2, .int (σ.1 5 6)), (0, .ref 5), (1, .int x1)]) (st1 := [.int (0 : Int32), .ref 5]) (σ1 := q1) (by decide +kernel) rfl (fun hC => ?_)
  obtain ⟨q2, hq, h⟩ := Option.bind_eq_some_iff.mp h
  refine jE_call (as := [.ref 5, .int (0 : Int32)]) (pc1 := 15) (st1 := []) hC rfl (by decide) (by omega) (x_cRea_readLocal (d - 1) (by omega) (0 : Int32) q1 q2 (some (.int q2.1), q2.2) hq rfl) ?_
  refine jE_blk (bs := [(.istore_n 3, 6, 0), (.aload_n 0, 0, 0), (.bipush (18), 18, 0)]) (i := .invokevirtual 68) (a1 := 66) (a2 := 0) (pc1 := 19) (l1 := [(3, .int q2.1), (2, .int (σ.1 5 6)), (0, .ref 5), (1, .int x1)]) (st1 := [.int (18 : Int32), .ref 5]) (σ1 := q2.2) (by decide +kernel) rfl (fun hC => ?_)
  obtain ⟨q3, hq, h⟩ := Option.bind_eq_some_iff.mp h
  refine jE_call (as := [.ref 5, .int (18 : Int32)]) (pc1 := 22) (st1 := []) hC rfl (by decide) (by omega) (x_cRea_pass (d - 1) (by omega) (18 : Int32) q2.2 q3 (none, q3) hq rfl) ?_
  refine jE_blk (bs := [(.aload_n 0, 0, 0), (.getfield 28, 5, 2), (.aload_n 0, 0, 0), (.getfield 58, 5, 7), (.iload_n 3, 0, 0), (.aload_n 0, 0, 0)]) (i := .invokevirtual 77) (a1 := 47) (a2 := 0) (pc1 := 32) (l1 := [(3, .int q2.1), (2, .int (σ.1 5 6)), (0, .ref 5), (1, .int x1)]) (st1 := [.ref 5, .int q2.1, .int (q3.1 5 7), .ref 4]) (σ1 := q3) (by decide +kernel) rfl (fun hC => ?_)
  obtain ⟨q4, hq, h⟩ := Option.bind_eq_some_iff.mp h
  refine jE_call (as := [.ref 5]) (pc1 := 35) (st1 := [.int q2.1, .int (q3.1 5 7), .ref 4]) hC rfl (by decide) (by omega) (x_cRea_readBase (d - 1) (by omega) q3 q4 (some (.int q4.1), q4.2) hq rfl) ?_
  refine jE_blk (bs := []) (i := .invokevirtual 96) (a1 := 37) (a2 := 0) (pc1 := 35) (l1 := [(3, .int q2.1), (2, .int (σ.1 5 6)), (0, .ref 5), (1, .int x1)]) (st1 := [.int q4.1, .int q2.1, .int (q3.1 5 7), .ref 4]) (σ1 := q4.2) (by decide +kernel) rfl (fun hC => ?_)
  obtain ⟨q5, hq, h⟩ := Option.bind_eq_some_iff.mp h
  refine jE_call (as := [.ref 4, .int (q3.1 5 7), .int q2.1, .int q4.1]) (pc1 := 38) (st1 := []) hC rfl (by decide) (by omega) (x_cFun_setType (d - 1) (by omega) (q3.1 5 7) q2.1 q4.1 q4.2 q5 (none, q5) hq rfl) ?_
  refine jE_blk (bs := [(.aload_n 0, 0, 0), (.bipush (19), 19, 0)]) (i := .invokevirtual 68) (a1 := 66) (a2 := 0) (pc1 := 41) (l1 := [(3, .int q2.1), (2, .int (σ.1 5 6)), (0, .ref 5), (1, .int x1)]) (st1 := [.int (19 : Int32), .ref 5]) (σ1 := q5) (by decide +kernel) rfl (fun hC => ?_)
  obtain ⟨q6, hq, h⟩ := Option.bind_eq_some_iff.mp h
  refine jE_call (as := [.ref 5, .int (19 : Int32)]) (pc1 := 44) (st1 := []) hC rfl (by decide) (by omega) (x_cRea_pass (d - 1) (by omega) (19 : Int32) q5 q6 (none, q6) hq rfl) ?_
  refine jE_blk (bs := [(.aload_n 0, 0, 0), (.iload_n 1, 0, 0), (.iconst (1), 1, 0), (.iadd, 0, 0)]) (i := .invokevirtual 86) (a1 := 49) (a2 := 0) (pc1 := 48) (l1 := [(3, .int q2.1), (2, .int (σ.1 5 6)), (0, .ref 5), (1, .int x1)]) (st1 := [.int (x1 + (1 : Int32)), .ref 5]) (σ1 := q6) (by decide +kernel) rfl (fun hC => ?_)
  obtain ⟨q7, hq, h⟩ := Option.bind_eq_some_iff.mp h
  refine jE_call (as := [.ref 5, .int (x1 + (1 : Int32))]) (pc1 := 51) (st1 := []) hC rfl (by decide) (by omega) (jE_up (hrec (x1 + (1 : Int32)) q6 q7 hq) (by omega)) ?_
  refine jE_blk (bs := [(.istore 4, 6, 0), (.aload_n 0, 0, 0), (.bipush (6), 6, 0)]) (i := .invokevirtual 68) (a1 := 66) (a2 := 0) (pc1 := 56) (l1 := [(4, .int q7.1), (3, .int q2.1), (2, .int (σ.1 5 6)), (0, .ref 5), (1, .int x1)]) (st1 := [.int (6 : Int32), .ref 5]) (σ1 := q7.2) (by decide +kernel) rfl (fun hC => ?_)
  obtain ⟨q8, hq, h⟩ := Option.bind_eq_some_iff.mp h
  refine jE_call (as := [.ref 5, .int (6 : Int32)]) (pc1 := 59) (st1 := []) hC rfl (by decide) (by omega) (x_cRea_pass (d - 1) (by omega) (6 : Int32) q7.2 q8 (none, q8) hq rfl) ?_
  refine jE_blk (bs := [(.aload_n 0, 0, 0), (.iload_n 3, 0, 0)]) (i := .invokevirtual 103) (a1 := 62) (a2 := 0) (pc1 := 61) (l1 := [(4, .int q7.1), (3, .int q2.1), (2, .int (σ.1 5 6)), (0, .ref 5), (1, .int x1)]) (st1 := [.int q2.1, .ref 5]) (σ1 := q8) (by decide +kernel) rfl (fun hC => ?_)
  obtain ⟨q9, hq, h⟩ := Option.bind_eq_some_iff.mp h
  refine jE_call (as := [.ref 5, .int q2.1]) (pc1 := 64) (st1 := []) hC rfl (by decide) (by omega) (x_cRea_show (d - 1) (by omega) q2.1 q8 q9 (none, q9) hq rfl) ?_
  refine jE_blk (bs := [(.aload_n 0, 0, 0), (.iload_n 1, 0, 0), (.iconst (1), 1, 0), (.iadd, 0, 0)]) (i := .invokevirtual 86) (a1 := 49) (a2 := 0) (pc1 := 68) (l1 := [(4, .int q7.1), (3, .int q2.1), (2, .int (σ.1 5 6)), (0, .ref 5), (1, .int x1)]) (st1 := [.int (x1 + (1 : Int32)), .ref 5]) (σ1 := q9) (by decide +kernel) rfl (fun hC => ?_)
  obtain ⟨q10, hq, h⟩ := Option.bind_eq_some_iff.mp h
  refine jE_call (as := [.ref 5, .int (x1 + (1 : Int32))]) (pc1 := 71) (st1 := []) hC rfl (by decide) (by omega) (jE_up (hrec (x1 + (1 : Int32)) q9 q10 hq) (by omega)) ?_
  refine jE_blk (bs := [(.istore 5, 6, 0), (.aload_n 0, 0, 0), (.iconst (1), 1, 0)]) (i := .invokevirtual 133) (a1 := 63) (a2 := 0) (pc1 := 75) (l1 := [(5, .int q10.1), (4, .int q7.1), (3, .int q2.1), (2, .int (σ.1 5 6)), (0, .ref 5), (1, .int x1)]) (st1 := [.int (1 : Int32), .ref 5]) (σ1 := q10.2) (by decide +kernel) rfl (fun hC => ?_)
  obtain ⟨q11, hq, h⟩ := Option.bind_eq_some_iff.mp h
  refine jE_call (as := [.ref 5, .int (1 : Int32)]) (pc1 := 78) (st1 := []) hC rfl (by decide) (by omega) (x_cRea_hide (d - 1) (by omega) (1 : Int32) q10.2 q11 (none, q11) hq rfl) ?_
  refine jE_blk (bs := [(.aload_n 0, 0, 0), (.iconst (5), 5, 0), (.iload_n 2, 0, 0), (.iload_n 3, 0, 0), (.iload 4, 0, 0), (.iload 5, 0, 0), (.iconst (0), 0, 0)]) (i := .invokevirtual 136) (a1 := 60) (a2 := 0) (pc1 := 87) (l1 := [(5, .int q10.1), (4, .int q7.1), (3, .int q2.1), (2, .int (σ.1 5 6)), (0, .ref 5), (1, .int x1)]) (st1 := [.int (0 : Int32), .int q10.1, .int q7.1, .int q2.1, .int (σ.1 5 6), .int (5 : Int32), .ref 5]) (σ1 := q11) (by decide +kernel) rfl (fun hC => ?_)
  obtain ⟨q12, hq, h⟩ := Option.bind_eq_some_iff.mp h
  refine jE_call (as := [.ref 5, .int (5 : Int32), .int (σ.1 5 6), .int q2.1, .int q7.1, .int q10.1, .int (0 : Int32)]) (pc1 := 90) (st1 := []) hC rfl (by decide) (by omega) (x_cRea_addNode (d - 1) (by omega) (5 : Int32) (σ.1 5 6) q2.1 q7.1 q10.1 (0 : Int32) q11 q12 (some (.int q12.1), q12.2) hq rfl) ?_
  refine jE_blk (bs := []) (i := .ireturn) (a1 := 0) (a2 := 0) (pc1 := 90) (l1 := [(5, .int q10.1), (4, .int q7.1), (3, .int q2.1), (2, .int (σ.1 5 6)), (0, .ref 5), (1, .int x1)]) (st1 := [.int q12.1]) (σ1 := q12.2) (by decide +kernel) rfl (fun hC => ?_)
  have h9 := Option.some.inj h
  subst h9
  have e9 : ((some (.int q12.1), q12.2) : Option Value × jx_S) = res := hK
  subst e9
  exact jE_ret hC rfl
def p_cRea_readIf (rec : (Int32 → jx_S → Option (Int32 × jx_S))) (x1 : Int32) (σ : jx_S) : Option (Int32 × jx_S) := ((p_cRea_pass (7 : Int32) σ).bind fun q1 => ((rec (x1 + (1 : Int32)) q1).bind fun q2 => ((p_cRea_pass (8 : Int32) q2.2).bind fun q3 => ((rec (x1 + (1 : Int32)) q3).bind fun q4 => ((p_cRea_pass (9 : Int32) q4.2).bind fun q5 => ((rec (x1 + (1 : Int32)) q5).bind fun q6 => ((p_cRea_addNode (7 : Int32) (σ.1 5 6) (0 : Int32) q2.1 q4.1 q6.1 q6.2).bind fun q7 => (some ((q7.1, q7.2))))))))))
theorem x_cRea_readIf (d : Nat) (rec : (Int32 → jx_S → Option (Int32 × jx_S))) (Dr : Nat) (hrec : ∀ z0 s r, rec z0 s = some r → jE Dr 49 0 (lv_args 0 [.ref 5, .int z0]) [] s (some (.int r.1), r.2)) (hd : Dr + 4 ≤ d) (x1 : Int32) (σ : jx_S) (t : (Int32 × jx_S)) (res : Option Value × jx_S) (h : p_cRea_readIf rec x1 σ = some t) (hK : kkI t res) : jE d 51 0 [(0, .ref 5), (1, .int x1)] [] σ res := by
  unfold p_cRea_readIf at h
  refine jE_blk (bs := [(.aload_n 0, 0, 0), (.getfield 36, 5, 6), (.istore_n 2, 6, 0), (.aload_n 0, 0, 0), (.bipush (7), 7, 0)]) (i := .invokevirtual 68) (a1 := 66) (a2 := 0) (pc1 := 8) (l1 := [(2, .int (σ.1 5 6)), (0, .ref 5), (1, .int x1)]) (st1 := [.int (7 : Int32), .ref 5]) (σ1 := σ) (by decide +kernel) rfl (fun hC => ?_)
  obtain ⟨q1, hq, h⟩ := Option.bind_eq_some_iff.mp h
  refine jE_call (as := [.ref 5, .int (7 : Int32)]) (pc1 := 11) (st1 := []) hC rfl (by decide) (by omega) (x_cRea_pass (d - 1) (by omega) (7 : Int32) σ q1 (none, q1) hq rfl) ?_
  refine jE_blk (bs := [(.aload_n 0, 0, 0), (.iload_n 1, 0, 0), (.iconst (1), 1, 0), (.iadd, 0, 0)]) (i := .invokevirtual 86) (a1 := 49) (a2 := 0) (pc1 := 15) (l1 := [(2, .int (σ.1 5 6)), (0, .ref 5), (1, .int x1)]) (st1 := [.int (x1 + (1 : Int32)), .ref 5]) (σ1 := q1) (by decide +kernel) rfl (fun hC => ?_)
  obtain ⟨q2, hq, h⟩ := Option.bind_eq_some_iff.mp h
  refine jE_call (as := [.ref 5, .int (x1 + (1 : Int32))]) (pc1 := 18) (st1 := []) hC rfl (by decide) (by omega) (jE_up (hrec (x1 + (1 : Int32)) q1 q2 hq) (by omega)) ?_
  refine jE_blk (bs := [(.istore_n 3, 6, 0), (.aload_n 0, 0, 0), (.bipush (8), 8, 0)]) (i := .invokevirtual 68) (a1 := 66) (a2 := 0) (pc1 := 22) (l1 := [(3, .int q2.1), (2, .int (σ.1 5 6)), (0, .ref 5), (1, .int x1)]) (st1 := [.int (8 : Int32), .ref 5]) (σ1 := q2.2) (by decide +kernel) rfl (fun hC => ?_)
  obtain ⟨q3, hq, h⟩ := Option.bind_eq_some_iff.mp h
  refine jE_call (as := [.ref 5, .int (8 : Int32)]) (pc1 := 25) (st1 := []) hC rfl (by decide) (by omega) (x_cRea_pass (d - 1) (by omega) (8 : Int32) q2.2 q3 (none, q3) hq rfl) ?_
  refine jE_blk (bs := [(.aload_n 0, 0, 0), (.iload_n 1, 0, 0), (.iconst (1), 1, 0), (.iadd, 0, 0)]) (i := .invokevirtual 86) (a1 := 49) (a2 := 0) (pc1 := 29) (l1 := [(3, .int q2.1), (2, .int (σ.1 5 6)), (0, .ref 5), (1, .int x1)]) (st1 := [.int (x1 + (1 : Int32)), .ref 5]) (σ1 := q3) (by decide +kernel) rfl (fun hC => ?_)
  obtain ⟨q4, hq, h⟩ := Option.bind_eq_some_iff.mp h
  refine jE_call (as := [.ref 5, .int (x1 + (1 : Int32))]) (pc1 := 32) (st1 := []) hC rfl (by decide) (by omega) (jE_up (hrec (x1 + (1 : Int32)) q3 q4 hq) (by omega)) ?_
  refine jE_blk (bs := [(.istore 4, 6, 0), (.aload_n 0, 0, 0), (.bipush (9), 9, 0)]) (i := .invokevirtual 68) (a1 := 66) (a2 := 0) (pc1 := 37) (l1 := [(4, .int q4.1), (3, .int q2.1), (2, .int (σ.1 5 6)), (0, .ref 5), (1, .int x1)]) (st1 := [.int (9 : Int32), .ref 5]) (σ1 := q4.2) (by decide +kernel) rfl (fun hC => ?_)
  obtain ⟨q5, hq, h⟩ := Option.bind_eq_some_iff.mp h
  refine jE_call (as := [.ref 5, .int (9 : Int32)]) (pc1 := 40) (st1 := []) hC rfl (by decide) (by omega) (x_cRea_pass (d - 1) (by omega) (9 : Int32) q4.2 q5 (none, q5) hq rfl) ?_
  refine jE_blk (bs := [(.aload_n 0, 0, 0), (.iload_n 1, 0, 0), (.iconst (1), 1, 0), (.iadd, 0, 0)]) (i := .invokevirtual 86) (a1 := 49) (a2 := 0) (pc1 := 44) (l1 := [(4, .int q4.1), (3, .int q2.1), (2, .int (σ.1 5 6)), (0, .ref 5), (1, .int x1)]) (st1 := [.int (x1 + (1 : Int32)), .ref 5]) (σ1 := q5) (by decide +kernel) rfl (fun hC => ?_)
  obtain ⟨q6, hq, h⟩ := Option.bind_eq_some_iff.mp h
  refine jE_call (as := [.ref 5, .int (x1 + (1 : Int32))]) (pc1 := 47) (st1 := []) hC rfl (by decide) (by omega) (jE_up (hrec (x1 + (1 : Int32)) q5 q6 hq) (by omega)) ?_
  refine jE_blk (bs := [(.istore 5, 6, 0), (.aload_n 0, 0, 0), (.bipush (7), 7, 0), (.iload_n 2, 0, 0), (.iconst (0), 0, 0), (.iload_n 3, 0, 0), (.iload 4, 0, 0), (.iload 5, 0, 0)]) (i := .invokevirtual 136) (a1 := 60) (a2 := 0) (pc1 := 59) (l1 := [(5, .int q6.1), (4, .int q4.1), (3, .int q2.1), (2, .int (σ.1 5 6)), (0, .ref 5), (1, .int x1)]) (st1 := [.int q6.1, .int q4.1, .int q2.1, .int (0 : Int32), .int (σ.1 5 6), .int (7 : Int32), .ref 5]) (σ1 := q6.2) (by decide +kernel) rfl (fun hC => ?_)
  obtain ⟨q7, hq, h⟩ := Option.bind_eq_some_iff.mp h
  refine jE_call (as := [.ref 5, .int (7 : Int32), .int (σ.1 5 6), .int (0 : Int32), .int q2.1, .int q4.1, .int q6.1]) (pc1 := 62) (st1 := []) hC rfl (by decide) (by omega) (x_cRea_addNode (d - 1) (by omega) (7 : Int32) (σ.1 5 6) (0 : Int32) q2.1 q4.1 q6.1 q6.2 q7 (some (.int q7.1), q7.2) hq rfl) ?_
  refine jE_blk (bs := []) (i := .ireturn) (a1 := 0) (a2 := 0) (pc1 := 62) (l1 := [(5, .int q6.1), (4, .int q4.1), (3, .int q2.1), (2, .int (σ.1 5 6)), (0, .ref 5), (1, .int x1)]) (st1 := [.int q7.1]) (σ1 := q7.2) (by decide +kernel) rfl (fun hC => ?_)
  have h9 := Option.some.inj h
  subst h9
  have e9 : ((some (.int q7.1), q7.2) : Option Value × jx_S) = res := hK
  subst e9
  exact jE_ret hC rfl
def p_cRea_readCase (rec : (Int32 → jx_S → Option (Int32 × jx_S))) (x1 : Int32) (σ : jx_S) : Option (Int32 × jx_S) := ((p_cRea_pass (10 : Int32) σ).bind fun q1 => ((rec (x1 + (1 : Int32)) q1).bind fun q2 => ((p_cRea_pass (11 : Int32) q2.2).bind fun q3 => ((p_cRea_pass (12 : Int32) q3).bind fun q4 => ((p_cRea_pass (21 : Int32) q4).bind fun q5 => ((rec (x1 + (1 : Int32)) q5).bind fun q6 => ((p_cRea_pass (22 : Int32) q6.2).bind fun q7 => ((p_cRea_readLocal (0 : Int32) q7).bind fun q8 => ((p_cRea_pass (18 : Int32) q8.2).bind fun q9 => ((p_cRea_readLocal (1 : Int32) q9).bind fun q10 => ((p_cRea_pass (21 : Int32) q10.2).bind fun q11 => ((p_cRea_show q8.1 q11).bind fun q12 => ((p_cRea_show q10.1 q12).bind fun q13 => ((rec (x1 + (1 : Int32)) q13).bind fun q14 => ((p_cRea_hide (2 : Int32) q14.2).bind fun q15 => ((p_cRea_addNode (10 : Int32) (σ.1 5 6) q8.1 q2.1 q6.1 q14.1 q15).bind fun q16 => (some ((q16.1, q16.2)))))))))))))))))))
theorem x_cRea_readCase (d : Nat) (rec : (Int32 → jx_S → Option (Int32 × jx_S))) (Dr : Nat) (hrec : ∀ z0 s r, rec z0 s = some r → jE Dr 49 0 (lv_args 0 [.ref 5, .int z0]) [] s (some (.int r.1), r.2)) (hd : Dr + 4 ≤ d) (x1 : Int32) (σ : jx_S) (t : (Int32 × jx_S)) (res : Option Value × jx_S) (h : p_cRea_readCase rec x1 σ = some t) (hK : kkI t res) : jE d 52 0 [(0, .ref 5), (1, .int x1)] [] σ res := by
  unfold p_cRea_readCase at h
  refine jE_blk (bs := [(.aload_n 0, 0, 0), (.getfield 36, 5, 6), (.istore_n 2, 8, 0), (.aload_n 0, 0, 0), (.bipush (10), 10, 0)]) (i := .invokevirtual 68) (a1 := 66) (a2 := 0) (pc1 := 8) (l1 := [(2, .int (σ.1 5 6)), (0, .ref 5), (1, .int x1)]) (st1 := [.int (10 : Int32), .ref 5]) (σ1 := σ) (by decide +kernel) rfl (fun hC => ?_)
  obtain ⟨q1, hq, h⟩ := Option.bind_eq_some_iff.mp h
  refine jE_call (as := [.ref 5, .int (10 : Int32)]) (pc1 := 11) (st1 := []) hC rfl (by decide) (by omega) (x_cRea_pass (d - 1) (by omega) (10 : Int32) σ q1 (none, q1) hq rfl) ?_
  refine jE_blk (bs := [(.aload_n 0, 0, 0), (.iload_n 1, 0, 0), (.iconst (1), 1, 0), (.iadd, 0, 0)]) (i := .invokevirtual 86) (a1 := 49) (a2 := 0) (pc1 := 15) (l1 := [(2, .int (σ.1 5 6)), (0, .ref 5), (1, .int x1)]) (st1 := [.int (x1 + (1 : Int32)), .ref 5]) (σ1 := q1) (by decide +kernel) rfl (fun hC => ?_)
  obtain ⟨q2, hq, h⟩ := Option.bind_eq_some_iff.mp h
  refine jE_call (as := [.ref 5, .int (x1 + (1 : Int32))]) (pc1 := 18) (st1 := []) hC rfl (by decide) (by omega) (jE_up (hrec (x1 + (1 : Int32)) q1 q2 hq) (by omega)) ?_
  refine jE_blk (bs := [(.istore_n 3, 8, 0), (.aload_n 0, 0, 0), (.bipush (11), 11, 0)]) (i := .invokevirtual 68) (a1 := 66) (a2 := 0) (pc1 := 22) (l1 := [(3, .int q2.1), (2, .int (σ.1 5 6)), (0, .ref 5), (1, .int x1)]) (st1 := [.int (11 : Int32), .ref 5]) (σ1 := q2.2) (by decide +kernel) rfl (fun hC => ?_)
  obtain ⟨q3, hq, h⟩ := Option.bind_eq_some_iff.mp h
  refine jE_call (as := [.ref 5, .int (11 : Int32)]) (pc1 := 25) (st1 := []) hC rfl (by decide) (by omega) (x_cRea_pass (d - 1) (by omega) (11 : Int32) q2.2 q3 (none, q3) hq rfl) ?_
  refine jE_blk (bs := [(.aload_n 0, 0, 0), (.bipush (12), 12, 0)]) (i := .invokevirtual 68) (a1 := 66) (a2 := 0) (pc1 := 28) (l1 := [(3, .int q2.1), (2, .int (σ.1 5 6)), (0, .ref 5), (1, .int x1)]) (st1 := [.int (12 : Int32), .ref 5]) (σ1 := q3) (by decide +kernel) rfl (fun hC => ?_)
  obtain ⟨q4, hq, h⟩ := Option.bind_eq_some_iff.mp h
  refine jE_call (as := [.ref 5, .int (12 : Int32)]) (pc1 := 31) (st1 := []) hC rfl (by decide) (by omega) (x_cRea_pass (d - 1) (by omega) (12 : Int32) q3 q4 (none, q4) hq rfl) ?_
  refine jE_blk (bs := [(.aload_n 0, 0, 0), (.bipush (21), 21, 0)]) (i := .invokevirtual 68) (a1 := 66) (a2 := 0) (pc1 := 34) (l1 := [(3, .int q2.1), (2, .int (σ.1 5 6)), (0, .ref 5), (1, .int x1)]) (st1 := [.int (21 : Int32), .ref 5]) (σ1 := q4) (by decide +kernel) rfl (fun hC => ?_)
  obtain ⟨q5, hq, h⟩ := Option.bind_eq_some_iff.mp h
  refine jE_call (as := [.ref 5, .int (21 : Int32)]) (pc1 := 37) (st1 := []) hC rfl (by decide) (by omega) (x_cRea_pass (d - 1) (by omega) (21 : Int32) q4 q5 (none, q5) hq rfl) ?_
  refine jE_blk (bs := [(.aload_n 0, 0, 0), (.iload_n 1, 0, 0), (.iconst (1), 1, 0), (.iadd, 0, 0)]) (i := .invokevirtual 86) (a1 := 49) (a2 := 0) (pc1 := 41) (l1 := [(3, .int q2.1), (2, .int (σ.1 5 6)), (0, .ref 5), (1, .int x1)]) (st1 := [.int (x1 + (1 : Int32)), .ref 5]) (σ1 := q5) (by decide +kernel) rfl (fun hC => ?_)
  obtain ⟨q6, hq, h⟩ := Option.bind_eq_some_iff.mp h
  refine jE_call (as := [.ref 5, .int (x1 + (1 : Int32))]) (pc1 := 44) (st1 := []) hC rfl (by decide) (by omega) (jE_up (hrec (x1 + (1 : Int32)) q5 q6 hq) (by omega)) ?_
  refine jE_blk (bs := [(.istore 4, 8, 0), (.aload_n 0, 0, 0), (.bipush (22), 22, 0)]) (i := .invokevirtual 68) (a1 := 66) (a2 := 0) (pc1 := 49) (l1 := [(4, .int q6.1), (3, .int q2.1), (2, .int (σ.1 5 6)), (0, .ref 5), (1, .int x1)]) (st1 := [.int (22 : Int32), .ref 5]) (σ1 := q6.2) (by decide +kernel) rfl (fun hC => ?_)
  obtain ⟨q7, hq, h⟩ := Option.bind_eq_some_iff.mp h
  refine jE_call (as := [.ref 5, .int (22 : Int32)]) (pc1 := 52) (st1 := []) hC rfl (by decide) (by omega) (x_cRea_pass (d - 1) (by omega) (22 : Int32) q6.2 q7 (none, q7) hq rfl) ?_
  refine jE_blk (bs := [(.aload_n 0, 0, 0), (.iconst (0), 0, 0)]) (i := .invokevirtual 90) (a1 := 48) (a2 := 0) (pc1 := 54) (l1 := [(4, .int q6.1), (3, .int q2.1), (2, .int (σ.1 5 6)), (0, .ref 5), (1, .int x1)]) (st1 := [.int (0 : Int32), .ref 5]) (σ1 := q7) (by decide +kernel) rfl (fun hC => ?_)
  obtain ⟨q8, hq, h⟩ := Option.bind_eq_some_iff.mp h
  refine jE_call (as := [.ref 5, .int (0 : Int32)]) (pc1 := 57) (st1 := []) hC rfl (by decide) (by omega) (x_cRea_readLocal (d - 1) (by omega) (0 : Int32) q7 q8 (some (.int q8.1), q8.2) hq rfl) ?_
  refine jE_blk (bs := [(.istore 5, 8, 0), (.aload_n 0, 0, 0), (.bipush (18), 18, 0)]) (i := .invokevirtual 68) (a1 := 66) (a2 := 0) (pc1 := 62) (l1 := [(5, .int q8.1), (4, .int q6.1), (3, .int q2.1), (2, .int (σ.1 5 6)), (0, .ref 5), (1, .int x1)]) (st1 := [.int (18 : Int32), .ref 5]) (σ1 := q8.2) (by decide +kernel) rfl (fun hC => ?_)
  obtain ⟨q9, hq, h⟩ := Option.bind_eq_some_iff.mp h
  refine jE_call (as := [.ref 5, .int (18 : Int32)]) (pc1 := 65) (st1 := []) hC rfl (by decide) (by omega) (x_cRea_pass (d - 1) (by omega) (18 : Int32) q8.2 q9 (none, q9) hq rfl) ?_
  refine jE_blk (bs := [(.aload_n 0, 0, 0), (.iconst (1), 1, 0)]) (i := .invokevirtual 90) (a1 := 48) (a2 := 0) (pc1 := 67) (l1 := [(5, .int q8.1), (4, .int q6.1), (3, .int q2.1), (2, .int (σ.1 5 6)), (0, .ref 5), (1, .int x1)]) (st1 := [.int (1 : Int32), .ref 5]) (σ1 := q9) (by decide +kernel) rfl (fun hC => ?_)
  obtain ⟨q10, hq, h⟩ := Option.bind_eq_some_iff.mp h
  refine jE_call (as := [.ref 5, .int (1 : Int32)]) (pc1 := 70) (st1 := []) hC rfl (by decide) (by omega) (x_cRea_readLocal (d - 1) (by omega) (1 : Int32) q9 q10 (some (.int q10.1), q10.2) hq rfl) ?_
  refine jE_blk (bs := [(.istore 6, 8, 0), (.aload_n 0, 0, 0), (.bipush (21), 21, 0)]) (i := .invokevirtual 68) (a1 := 66) (a2 := 0) (pc1 := 75) (l1 := [(6, .int q10.1), (5, .int q8.1), (4, .int q6.1), (3, .int q2.1), (2, .int (σ.1 5 6)), (0, .ref 5), (1, .int x1)]) (st1 := [.int (21 : Int32), .ref 5]) (σ1 := q10.2) (by decide +kernel) rfl (fun hC => ?_)
  obtain ⟨q11, hq, h⟩ := Option.bind_eq_some_iff.mp h
  refine jE_call (as := [.ref 5, .int (21 : Int32)]) (pc1 := 78) (st1 := []) hC rfl (by decide) (by omega) (x_cRea_pass (d - 1) (by omega) (21 : Int32) q10.2 q11 (none, q11) hq rfl) ?_
  refine jE_blk (bs := [(.aload_n 0, 0, 0), (.iload 5, 0, 0)]) (i := .invokevirtual 103) (a1 := 62) (a2 := 0) (pc1 := 81) (l1 := [(6, .int q10.1), (5, .int q8.1), (4, .int q6.1), (3, .int q2.1), (2, .int (σ.1 5 6)), (0, .ref 5), (1, .int x1)]) (st1 := [.int q8.1, .ref 5]) (σ1 := q11) (by decide +kernel) rfl (fun hC => ?_)
  obtain ⟨q12, hq, h⟩ := Option.bind_eq_some_iff.mp h
  refine jE_call (as := [.ref 5, .int q8.1]) (pc1 := 84) (st1 := []) hC rfl (by decide) (by omega) (x_cRea_show (d - 1) (by omega) q8.1 q11 q12 (none, q12) hq rfl) ?_
  refine jE_blk (bs := [(.aload_n 0, 0, 0), (.iload 6, 0, 0)]) (i := .invokevirtual 103) (a1 := 62) (a2 := 0) (pc1 := 87) (l1 := [(6, .int q10.1), (5, .int q8.1), (4, .int q6.1), (3, .int q2.1), (2, .int (σ.1 5 6)), (0, .ref 5), (1, .int x1)]) (st1 := [.int q10.1, .ref 5]) (σ1 := q12) (by decide +kernel) rfl (fun hC => ?_)
  obtain ⟨q13, hq, h⟩ := Option.bind_eq_some_iff.mp h
  refine jE_call (as := [.ref 5, .int q10.1]) (pc1 := 90) (st1 := []) hC rfl (by decide) (by omega) (x_cRea_show (d - 1) (by omega) q10.1 q12 q13 (none, q13) hq rfl) ?_
  refine jE_blk (bs := [(.aload_n 0, 0, 0), (.iload_n 1, 0, 0), (.iconst (1), 1, 0), (.iadd, 0, 0)]) (i := .invokevirtual 86) (a1 := 49) (a2 := 0) (pc1 := 94) (l1 := [(6, .int q10.1), (5, .int q8.1), (4, .int q6.1), (3, .int q2.1), (2, .int (σ.1 5 6)), (0, .ref 5), (1, .int x1)]) (st1 := [.int (x1 + (1 : Int32)), .ref 5]) (σ1 := q13) (by decide +kernel) rfl (fun hC => ?_)
  obtain ⟨q14, hq, h⟩ := Option.bind_eq_some_iff.mp h
  refine jE_call (as := [.ref 5, .int (x1 + (1 : Int32))]) (pc1 := 97) (st1 := []) hC rfl (by decide) (by omega) (jE_up (hrec (x1 + (1 : Int32)) q13 q14 hq) (by omega)) ?_
  refine jE_blk (bs := [(.istore 7, 8, 0), (.aload_n 0, 0, 0), (.iconst (2), 2, 0)]) (i := .invokevirtual 133) (a1 := 63) (a2 := 0) (pc1 := 101) (l1 := [(7, .int q14.1), (6, .int q10.1), (5, .int q8.1), (4, .int q6.1), (3, .int q2.1), (2, .int (σ.1 5 6)), (0, .ref 5), (1, .int x1)]) (st1 := [.int (2 : Int32), .ref 5]) (σ1 := q14.2) (by decide +kernel) rfl (fun hC => ?_)
  obtain ⟨q15, hq, h⟩ := Option.bind_eq_some_iff.mp h
  refine jE_call (as := [.ref 5, .int (2 : Int32)]) (pc1 := 104) (st1 := []) hC rfl (by decide) (by omega) (x_cRea_hide (d - 1) (by omega) (2 : Int32) q14.2 q15 (none, q15) hq rfl) ?_
  refine jE_blk (bs := [(.aload_n 0, 0, 0), (.bipush (10), 10, 0), (.iload_n 2, 0, 0), (.iload 5, 0, 0), (.iload_n 3, 0, 0), (.iload 4, 0, 0), (.iload 7, 0, 0)]) (i := .invokevirtual 136) (a1 := 60) (a2 := 0) (pc1 := 115) (l1 := [(7, .int q14.1), (6, .int q10.1), (5, .int q8.1), (4, .int q6.1), (3, .int q2.1), (2, .int (σ.1 5 6)), (0, .ref 5), (1, .int x1)]) (st1 := [.int q14.1, .int q6.1, .int q2.1, .int q8.1, .int (σ.1 5 6), .int (10 : Int32), .ref 5]) (σ1 := q15) (by decide +kernel) rfl (fun hC => ?_)
  obtain ⟨q16, hq, h⟩ := Option.bind_eq_some_iff.mp h
  refine jE_call (as := [.ref 5, .int (10 : Int32), .int (σ.1 5 6), .int q8.1, .int q2.1, .int q6.1, .int q14.1]) (pc1 := 118) (st1 := []) hC rfl (by decide) (by omega) (x_cRea_addNode (d - 1) (by omega) (10 : Int32) (σ.1 5 6) q8.1 q2.1 q6.1 q14.1 q15 q16 (some (.int q16.1), q16.2) hq rfl) ?_
  refine jE_blk (bs := []) (i := .ireturn) (a1 := 0) (a2 := 0) (pc1 := 118) (l1 := [(7, .int q14.1), (6, .int q10.1), (5, .int q8.1), (4, .int q6.1), (3, .int q2.1), (2, .int (σ.1 5 6)), (0, .ref 5), (1, .int x1)]) (st1 := [.int q16.1]) (σ1 := q16.2) (by decide +kernel) rfl (fun hC => ?_)
  have h9 := Option.some.inj h
  subst h9
  have e9 : ((some (.int q16.1), q16.2) : Option Value × jx_S) = res := hK
  subst e9
  exact jE_ret hC rfl
def kk_cRea_findLocal_7 (d : Nat) (t : ((Int32 × Int32 × jx_S) ⊕ (Int32 × jx_S))) (res : Option Value × jx_S) : Prop := match t with
  | .inl s => jE d 61 7 [(0, .ref 5), (1, .int s.1), (2, .int s.2.1)] [] s.2.2 res
  | .inr t => kkI t res
def p_cRea_findLocal_7_s (x1 : Int32) (x2 : Int32) (σ : jx_S) : Option ((Int32 × Int32 × jx_S) ⊕ (Int32 × jx_S)) := (if x2 < 0 then (Option.map Sum.inr (some (((-1 : Int32), σ)))) else (if ¬ (lg_cmp (jL_at 1201 (σ.2 19) (v_cFun_nameOf (σ.1 5 7) (jI_at 30 (σ.1 61) x2) σ)) (jL_at 1201 (σ.2 19) x1)) = 0 then (some (.inl (x1, (x2 + (-1)), σ))) else (Option.map Sum.inr (some (((jI_at 30 (σ.1 61) x2), σ))))))
theorem x_cRea_findLocal_7_s (d : Nat) (hd : 2 ≤ d) (x1 : Int32) (x2 : Int32) (σ : jx_S) (t : ((Int32 × Int32 × jx_S) ⊕ (Int32 × jx_S))) (res : Option Value × jx_S) (h : p_cRea_findLocal_7_s x1 x2 σ = some t) (hK : kk_cRea_findLocal_7 d t res) : jE d 61 7 [(0, .ref 5), (1, .int x1), (2, .int x2)] [] σ res := by
  unfold p_cRea_findLocal_7_s at h
  refine jE_blk (bs := [(.iload_n 2, 0, 0)]) (i := .ifCond .lt (57)) (a1 := 0) (a2 := 0) (pc1 := 8) (l1 := [(0, .ref 5), (1, .int x1), (2, .int x2)]) (st1 := [.int x2]) (σ1 := σ) (by decide +kernel) rfl (fun hC => ?_)
  rcases Classical.em (x2 < 0) with hc | hc
  · rw [if_pos hc] at h
    refine jE_ifT 65 hC (by decide) hc ?_
    obtain ⟨t9_1, h9_1, h8_1⟩ := Option.map_eq_some_iff.mp h
    clear h
    subst h8_1
    have h := h9_1
    clear h9_1
    refine jE_blk (bs := [(.iconst (-1), 1, 1)]) (i := .ireturn) (a1 := 0) (a2 := 0) (pc1 := 66) (l1 := [(0, .ref 5), (1, .int x1), (2, .int x2)]) (st1 := [.int (-1 : Int32)]) (σ1 := σ) (by decide +kernel) rfl (fun hC => ?_)
    have h9 := Option.some.inj h
    subst h9
    have e9 : ((some (.int (-1 : Int32)), σ) : Option Value × jx_S) = res := hK
    subst e9
    exact jE_ret hC rfl
  · rw [if_neg hc] at h
    refine jE_ifF 65 hC (by decide) hc ?_
    refine jE_blk (bs := [(.aload_n 0, 0, 0), (.getfield 14, 5, 4), (.iload_n 2, 0, 0)]) (i := .invokevirtual 109) (a1 := 136) (a2 := 0) (pc1 := 16) (l1 := [(0, .ref 5), (1, .int x1), (2, .int x2)]) (st1 := [.int x2, .ref 60]) (σ1 := σ) (by decide +kernel) rfl (fun hC => ?_)
    refine jE_call (as := [.ref 60, .int x2]) (pc1 := 19) (st1 := []) hC rfl (by decide) (by omega) (xI_at (d - 1) 60 30 x2 σ (by decide) rfl rfl) ?_
    refine jE_blk (bs := [(.istore_n 3, 4, 0), (.aload_n 0, 0, 0), (.getfield 20, 5, 0), (.getfield 177, 2, 2), (.aload_n 0, 0, 0), (.getfield 28, 5, 2), (.aload_n 0, 0, 0), (.getfield 58, 5, 7), (.iload_n 3, 0, 0)]) (i := .invokevirtual 183) (a1 := 39) (a2 := 0) (pc1 := 36) (l1 := [(3, .int (jI_at 30 (σ.1 61) x2)), (0, .ref 5), (1, .int x1), (2, .int x2)]) (st1 := [.int (jI_at 30 (σ.1 61) x2), .int (σ.1 5 7), .ref 4, .ref 18]) (σ1 := σ) (by decide +kernel) rfl (fun hC => ?_)
    refine jE_call (as := [.ref 4, .int (σ.1 5 7), .int (jI_at 30 (σ.1 61) x2)]) (pc1 := 39) (st1 := [.ref 18]) hC rfl (by decide) (by omega) (xv_cFun_nameOf (d - 1) (by omega) (σ.1 5 7) (jI_at 30 (σ.1 61) x2) σ) ?_
    refine jE_blk (bs := []) (i := .invokevirtual 187) (a1 := 140) (a2 := 0) (pc1 := 39) (l1 := [(3, .int (jI_at 30 (σ.1 61) x2)), (0, .ref 5), (1, .int x1), (2, .int x2)]) (st1 := [.int (v_cFun_nameOf (σ.1 5 7) (jI_at 30 (σ.1 61) x2) σ), .ref 18]) (σ1 := σ) (by decide +kernel) rfl (fun hC => ?_)
    refine jE_call (as := [.ref 18, .int (v_cFun_nameOf (σ.1 5 7) (jI_at 30 (σ.1 61) x2) σ)]) (pc1 := 42) (st1 := []) hC rfl (by decide) (by omega) (xL_at (d - 1) 18 1201 (v_cFun_nameOf (σ.1 5 7) (jI_at 30 (σ.1 61) x2) σ) σ (by decide) rfl rfl) ?_
    refine jE_blk (bs := [(.aload_n 0, 0, 0), (.getfield 20, 5, 0), (.getfield 177, 2, 2), (.iload_n 1, 0, 0)]) (i := .invokevirtual 187) (a1 := 140) (a2 := 0) (pc1 := 50) (l1 := [(3, .int (jI_at 30 (σ.1 61) x2)), (0, .ref 5), (1, .int x1), (2, .int x2)]) (st1 := [.int x1, .ref 18, .long (jL_at 1201 (σ.2 19) (v_cFun_nameOf (σ.1 5 7) (jI_at 30 (σ.1 61) x2) σ))]) (σ1 := σ) (by decide +kernel) rfl (fun hC => ?_)
    refine jE_call (as := [.ref 18, .int x1]) (pc1 := 53) (st1 := [.long (jL_at 1201 (σ.2 19) (v_cFun_nameOf (σ.1 5 7) (jI_at 30 (σ.1 61) x2) σ))]) hC rfl (by decide) (by omega) (xL_at (d - 1) 18 1201 x1 σ (by decide) rfl rfl) ?_
    refine jE_blk (bs := [(.lcmp, 0, 0)]) (i := .ifCond .ne (5)) (a1 := 0) (a2 := 0) (pc1 := 54) (l1 := [(3, .int (jI_at 30 (σ.1 61) x2)), (0, .ref 5), (1, .int x1), (2, .int x2)]) (st1 := [.int (lg_cmp (jL_at 1201 (σ.2 19) (v_cFun_nameOf (σ.1 5 7) (jI_at 30 (σ.1 61) x2) σ)) (jL_at 1201 (σ.2 19) x1))]) (σ1 := σ) (by decide +kernel) rfl (fun hC => ?_)
    rcases Classical.em (¬ (lg_cmp (jL_at 1201 (σ.2 19) (v_cFun_nameOf (σ.1 5 7) (jI_at 30 (σ.1 61) x2) σ)) (jL_at 1201 (σ.2 19) x1)) = 0) with hc | hc
    · rw [if_pos hc] at h
      refine jE_ifT 59 hC (by decide) hc ?_
      refine jE_blk (bs := [(.iinc 2 (-1), 4, 3), (.goto (-55), 0, 0)]) (i := .iload_n 2) (a1 := 0) (a2 := 0) (pc1 := 7) (l1 := [(2, .int (x2 + (-1))), (3, .int (jI_at 30 (σ.1 61) x2)), (0, .ref 5), (1, .int x1)]) (st1 := []) (σ1 := σ) (by decide +kernel) rfl (fun hC => ?_)
      have h9 := Option.some.inj h
      subst h9
      exact jE_loc (l := [(0, .ref 5), (1, .int x1), (2, .int (x2 + (-1)))]) (ks := [0, 1, 2]) rfl (by decide) ⟨rfl, rfl, rfl, trivial⟩ hK
    · rw [if_neg hc] at h
      refine jE_ifF 59 hC (by decide) hc ?_
      obtain ⟨t9_2, h9_2, h8_2⟩ := Option.map_eq_some_iff.mp h
      clear h
      subst h8_2
      have h := h9_2
      clear h9_2
      refine jE_blk (bs := [(.iload_n 3, 0, 0)]) (i := .ireturn) (a1 := 0) (a2 := 0) (pc1 := 58) (l1 := [(3, .int (jI_at 30 (σ.1 61) x2)), (0, .ref 5), (1, .int x1), (2, .int x2)]) (st1 := [.int (jI_at 30 (σ.1 61) x2)]) (σ1 := σ) (by decide +kernel) rfl (fun hC => ?_)
      have h9 := Option.some.inj h
      subst h9
      have e9 : ((some (.int (jI_at 30 (σ.1 61) x2)), σ) : Option Value × jx_S) = res := hK
      subst e9
      exact jE_ret hC rfl
def p_cRea_findLocal_7 (x1 : Int32) (x2 : Int32) (σ : jx_S) : Option (Int32 × jx_S) := jx_loop 100000000 (fun s => p_cRea_findLocal_7_s s.1 s.2.1 (s.2.2)) (x1, x2, σ)
theorem x_cRea_findLocal_7 (d : Nat) (hd : 2 ≤ d) (x1 : Int32) (x2 : Int32) (σ : jx_S) (t : (Int32 × jx_S)) (res : Option Value × jx_S) (h : p_cRea_findLocal_7 x1 x2 σ = some t) (hK : kkI t res) : jE d 61 7 [(0, .ref 5), (1, .int x1), (2, .int x2)] [] σ res := by
  refine jx_loop_ok (E := fun s t => ∀ res, kkI t res → jE d 61 7 [(0, .ref 5), (1, .int s.1), (2, .int s.2.1)] [] s.2.2 res) (fun s t hs => ?_) _ _ _ h res hK
  cases t with
  | inl s1 => exact fun b hb res hk => x_cRea_findLocal_7_s d hd (s.1) (s.2.1) (s.2.2) _ res hs (hb res hk)
  | inr b => exact fun res hk => x_cRea_findLocal_7_s d hd (s.1) (s.2.1) (s.2.2) _ res hs hk
def p_cRea_findLocal (x1 : Int32) (σ : jx_S) : Option (Int32 × jx_S) := (p_cRea_findLocal_7 x1 ((σ.1 5 5) - (1 : Int32)) σ)
theorem x_cRea_findLocal (d : Nat) (hd : 2 ≤ d) (x1 : Int32) (σ : jx_S) (t : (Int32 × jx_S)) (res : Option Value × jx_S) (h : p_cRea_findLocal x1 σ = some t) (hK : kkI t res) : jE d 61 0 [(0, .ref 5), (1, .int x1)] [] σ res := by
  unfold p_cRea_findLocal at h
  refine jE_blk (bs := [(.aload_n 0, 0, 0), (.getfield 61, 5, 5), (.iconst (1), 1, 0), (.isub, 0, 0), (.istore_n 2, 4, 0)]) (i := .iload_n 2) (a1 := 0) (a2 := 0) (pc1 := 7) (l1 := [(2, .int ((σ.1 5 5) - (1 : Int32))), (0, .ref 5), (1, .int x1)]) (st1 := []) (σ1 := σ) (by decide +kernel) rfl (fun hC => ?_)
  exact jE_loc (l := [(0, .ref 5), (1, .int x1), (2, .int ((σ.1 5 5) - (1 : Int32)))]) (ks := [0, 1, 2]) rfl (by decide) ⟨rfl, rfl, rfl, trivial⟩ (x_cRea_findLocal_7 d hd x1 ((σ.1 5 5) - (1 : Int32)) σ _ res h hK)
def p_cRea_addName_36 (x1 : Int32) (x2 : Int32) (x3 : Int32) (x4 : Int32) (y0 : Int32) (σ : jx_S) : Option (Int32 × jx_S) := ((p_cTre_add y0 x1 x2 σ).bind fun q2 => (some ((q2.1, (jI_put 1201 (jI_put 1201 q2.2 33 q2.1 x4) 35 q2.1 x3)))))
theorem x_cRea_addName_36 (d : Nat) (hd : 3 ≤ d) (x1 : Int32) (x2 : Int32) (x3 : Int32) (x4 : Int32) (y0 : Int32) (σ : jx_S) (t : (Int32 × jx_S)) (res : Option Value × jx_S) (h : p_cRea_addName_36 x1 x2 x3 x4 y0 σ = some t) (hK : kkI t res) : jE d 59 36 [(0, .ref 5), (1, .int x1), (2, .int x2), (3, .int x3), (4, .int x4)] [.int y0, .ref 3] σ res := by
  unfold p_cRea_addName_36 at h
  refine jE_blk (bs := [(.iload_n 1, 0, 0), (.iload_n 2, 0, 0)]) (i := .invokevirtual 168) (a1 := 30) (a2 := 0) (pc1 := 38) (l1 := [(0, .ref 5), (1, .int x1), (2, .int x2), (3, .int x3), (4, .int x4)]) (st1 := [.int x2, .int x1, .int y0, .ref 3]) (σ1 := σ) (by decide +kernel) rfl (fun hC => ?_)
  obtain ⟨q2, hq, h⟩ := Option.bind_eq_some_iff.mp h
  refine jE_call (as := [.ref 3, .int y0, .int x1, .int x2]) (pc1 := 41) (st1 := []) hC rfl (by decide) (by omega) (x_cTre_add (d - 1) (by omega) y0 x1 x2 σ q2 (some (.int q2.1), q2.2) hq rfl) ?_
  refine jE_blk (bs := [(.istore 5, 6, 0), (.aload_n 0, 0, 0), (.getfield 24, 5, 1), (.getfield 171, 3, 5), (.iload 5, 0, 0), (.iload 4, 0, 0)]) (i := .invokevirtual 80) (a1 := 137) (a2 := 0) (pc1 := 54) (l1 := [(5, .int q2.1), (0, .ref 5), (1, .int x1), (2, .int x2), (3, .int x3), (4, .int x4)]) (st1 := [.int x4, .int q2.1, .ref 32]) (σ1 := q2.2) (by decide +kernel) rfl (fun hC => ?_)
  refine jE_call (as := [.ref 32, .int q2.1, .int x4]) (pc1 := 57) (st1 := []) hC rfl (by decide) (by omega) (xI_put (d - 1) 32 1201 q2.1 x4 q2.2 (by decide) rfl rfl) ?_
  refine jE_blk (bs := [(.aload_n 0, 0, 0), (.getfield 24, 5, 1), (.getfield 174, 3, 6), (.iload 5, 0, 0), (.iload_n 3, 0, 0)]) (i := .invokevirtual 80) (a1 := 137) (a2 := 0) (pc1 := 67) (l1 := [(5, .int q2.1), (0, .ref 5), (1, .int x1), (2, .int x2), (3, .int x3), (4, .int x4)]) (st1 := [.int x3, .int q2.1, .ref 34]) (σ1 := (jI_put 1201 q2.2 33 q2.1 x4)) (by decide +kernel) rfl (fun hC => ?_)
  refine jE_call (as := [.ref 34, .int q2.1, .int x3]) (pc1 := 70) (st1 := []) hC rfl (by decide) (by omega) (xI_put (d - 1) 34 1201 q2.1 x3 (jI_put 1201 q2.2 33 q2.1 x4) (by decide) rfl rfl) ?_
  refine jE_blk (bs := [(.iload 5, 0, 0)]) (i := .ireturn) (a1 := 0) (a2 := 0) (pc1 := 72) (l1 := [(5, .int q2.1), (0, .ref 5), (1, .int x1), (2, .int x2), (3, .int x3), (4, .int x4)]) (st1 := [.int q2.1]) (σ1 := (jI_put 1201 (jI_put 1201 q2.2 33 q2.1 x4) 35 q2.1 x3)) (by decide +kernel) rfl (fun hC => ?_)
  have h9 := Option.some.inj h
  subst h9
  have e9 : ((some (.int q2.1), (jI_put 1201 (jI_put 1201 q2.2 33 q2.1 x4) 35 q2.1 x3)) : Option Value × jx_S) = res := hK
  subst e9
  exact jE_ret hC rfl
def p_cRea_addName (x1 : Int32) (x2 : Int32) (x3 : Int32) (σ : jx_S) : Option (Int32 × jx_S) := (if (v_cFau_isTold σ) = 0 then ((p_cRea_findLocal x1 σ).bind fun q1 => (if ¬ q1.1 = (-1 : Int32) then (p_cRea_addName_36 x1 x2 x3 q1.1 (28 : Int32) q1.2) else (p_cRea_addName_36 x1 x2 x3 q1.1 (29 : Int32) q1.2))) else (some (((0 : Int32), σ))))
theorem x_cRea_addName (d : Nat) (hd : 3 ≤ d) (x1 : Int32) (x2 : Int32) (x3 : Int32) (σ : jx_S) (t : (Int32 × jx_S)) (res : Option Value × jx_S) (h : p_cRea_addName x1 x2 x3 σ = some t) (hK : kkI t res) : jE d 59 0 [(0, .ref 5), (1, .int x1), (2, .int x2), (3, .int x3)] [] σ res := by
  unfold p_cRea_addName at h
  refine jE_blk (bs := [(.aload_n 0, 0, 0), (.getfield 32, 5, 3)]) (i := .invokevirtual 111) (a1 := 17) (a2 := 0) (pc1 := 4) (l1 := [(0, .ref 5), (1, .int x1), (2, .int x2), (3, .int x3)]) (st1 := [.ref 1]) (σ1 := σ) (by decide +kernel) rfl (fun hC => ?_)
  refine jE_call (as := [.ref 1]) (pc1 := 7) (st1 := []) hC rfl (by decide) (by omega) (xv_cFau_isTold (d - 1) (by omega) σ) ?_
  refine jE_blk (bs := []) (i := .ifCond .eq (5)) (a1 := 0) (a2 := 0) (pc1 := 7) (l1 := [(0, .ref 5), (1, .int x1), (2, .int x2), (3, .int x3)]) (st1 := [.int (v_cFau_isTold σ)]) (σ1 := σ) (by decide +kernel) rfl (fun hC => ?_)
  rcases Classical.em ((v_cFau_isTold σ) = 0) with hc | hc
  · rw [if_pos hc] at h
    refine jE_ifT 12 hC (by decide) hc ?_
    refine jE_blk (bs := [(.aload_n 0, 0, 0), (.iload_n 1, 0, 0)]) (i := .invokevirtual 165) (a1 := 61) (a2 := 0) (pc1 := 14) (l1 := [(0, .ref 5), (1, .int x1), (2, .int x2), (3, .int x3)]) (st1 := [.int x1, .ref 5]) (σ1 := σ) (by decide +kernel) rfl (fun hC => ?_)
    obtain ⟨q1, hq, h⟩ := Option.bind_eq_some_iff.mp h
    refine jE_call (as := [.ref 5, .int x1]) (pc1 := 17) (st1 := []) hC rfl (by decide) (by omega) (x_cRea_findLocal (d - 1) (by omega) x1 σ q1 (some (.int q1.1), q1.2) hq rfl) ?_
    refine jE_blk (bs := [(.istore 4, 6, 0), (.aload_n 0, 0, 0), (.getfield 24, 5, 1), (.iload 4, 0, 0), (.iconst (-1), 1, 1)]) (i := .if_icmp .ne (8)) (a1 := 0) (a2 := 0) (pc1 := 26) (l1 := [(4, .int q1.1), (0, .ref 5), (1, .int x1), (2, .int x2), (3, .int x3)]) (st1 := [.int (-1 : Int32), .int q1.1, .ref 3]) (σ1 := q1.2) (by decide +kernel) rfl (fun hC => ?_)
    rcases Classical.em (¬ q1.1 = (-1 : Int32)) with hc | hc
    · rw [if_pos hc] at h
      refine jE_icT 34 hC (by decide) hc ?_
      refine jE_blk (bs := [(.bipush (28), 28, 0)]) (i := .iload_n 1) (a1 := 0) (a2 := 0) (pc1 := 36) (l1 := [(4, .int q1.1), (0, .ref 5), (1, .int x1), (2, .int x2), (3, .int x3)]) (st1 := [.int (28 : Int32), .ref 3]) (σ1 := q1.2) (by decide +kernel) rfl (fun hC => ?_)
      exact jE_loc (l := [(0, .ref 5), (1, .int x1), (2, .int x2), (3, .int x3), (4, .int q1.1)]) (ks := [0, 1, 2, 3, 4]) rfl (by decide) ⟨rfl, rfl, rfl, rfl, rfl, trivial⟩ (x_cRea_addName_36 d hd x1 x2 x3 q1.1 (28 : Int32) q1.2 _ res h hK)
    · rw [if_neg hc] at h
      refine jE_icF 34 hC (by decide) hc ?_
      refine jE_blk (bs := [(.bipush (29), 29, 0), (.goto (5), 0, 0)]) (i := .iload_n 1) (a1 := 0) (a2 := 0) (pc1 := 36) (l1 := [(4, .int q1.1), (0, .ref 5), (1, .int x1), (2, .int x2), (3, .int x3)]) (st1 := [.int (29 : Int32), .ref 3]) (σ1 := q1.2) (by decide +kernel) rfl (fun hC => ?_)
      exact jE_loc (l := [(0, .ref 5), (1, .int x1), (2, .int x2), (3, .int x3), (4, .int q1.1)]) (ks := [0, 1, 2, 3, 4]) rfl (by decide) ⟨rfl, rfl, rfl, rfl, rfl, trivial⟩ (x_cRea_addName_36 d hd x1 x2 x3 q1.1 (29 : Int32) q1.2 _ res h hK)
  · rw [if_neg hc] at h
    refine jE_ifF 12 hC (by decide) hc ?_
    refine jE_blk (bs := [(.iconst (0), 0, 0)]) (i := .ireturn) (a1 := 0) (a2 := 0) (pc1 := 11) (l1 := [(0, .ref 5), (1, .int x1), (2, .int x2), (3, .int x3)]) (st1 := [.int (0 : Int32)]) (σ1 := σ) (by decide +kernel) rfl (fun hC => ?_)
    have h9 := Option.some.inj h
    subst h9
    have e9 : ((some (.int (0 : Int32)), σ) : Option Value × jx_S) = res := hK
    subst e9
    exact jE_ret hC rfl
def p_cRea_readAtom_97 (rec : (Int32 → jx_S → Option (Int32 × jx_S))) (x2 : Int32) (x3 : Int32) (σ : jx_S) : Option (Int32 × jx_S) := ((p_cRea_pass x3 σ).bind fun q3 => ((p_cRea_addNode x3 x2 (0 : Int32) (0 : Int32) (0 : Int32) (0 : Int32) q3).bind fun q4 => (some ((q4.1, q4.2)))))
theorem x_cRea_readAtom_97 (d : Nat) (rec : (Int32 → jx_S → Option (Int32 × jx_S))) (Dr : Nat) (hrec : ∀ z0 s r, rec z0 s = some r → jE Dr 49 0 (lv_args 0 [.ref 5, .int z0]) [] s (some (.int r.1), r.2)) (hd : Dr + 4 ≤ d) (x2 : Int32) (x3 : Int32) (σ : jx_S) (t : (Int32 × jx_S)) (res : Option Value × jx_S) (h : p_cRea_readAtom_97 rec x2 x3 σ = some t) (hK : kkI t res) : jE d 57 97 [(0, .ref 5), (2, .int x2), (3, .int x3)] [] σ res := by
  unfold p_cRea_readAtom_97 at h
  refine jE_blk (bs := [(.aload_n 0, 0, 0), (.iload_n 3, 0, 0)]) (i := .invokevirtual 68) (a1 := 66) (a2 := 0) (pc1 := 99) (l1 := [(0, .ref 5), (2, .int x2), (3, .int x3)]) (st1 := [.int x3, .ref 5]) (σ1 := σ) (by decide +kernel) rfl (fun hC => ?_)
  obtain ⟨q3, hq, h⟩ := Option.bind_eq_some_iff.mp h
  refine jE_call (as := [.ref 5, .int x3]) (pc1 := 102) (st1 := []) hC rfl (by decide) (by omega) (x_cRea_pass (d - 1) (by omega) x3 σ q3 (none, q3) hq rfl) ?_
  refine jE_blk (bs := [(.aload_n 0, 0, 0), (.iload_n 3, 0, 0), (.iload_n 2, 0, 0), (.iconst (0), 0, 0), (.iconst (0), 0, 0), (.iconst (0), 0, 0), (.iconst (0), 0, 0)]) (i := .invokevirtual 136) (a1 := 60) (a2 := 0) (pc1 := 109) (l1 := [(0, .ref 5), (2, .int x2), (3, .int x3)]) (st1 := [.int (0 : Int32), .int (0 : Int32), .int (0 : Int32), .int (0 : Int32), .int x2, .int x3, .ref 5]) (σ1 := q3) (by decide +kernel) rfl (fun hC => ?_)
  obtain ⟨q4, hq, h⟩ := Option.bind_eq_some_iff.mp h
  refine jE_call (as := [.ref 5, .int x3, .int x2, .int (0 : Int32), .int (0 : Int32), .int (0 : Int32), .int (0 : Int32)]) (pc1 := 112) (st1 := []) hC rfl (by decide) (by omega) (x_cRea_addNode (d - 1) (by omega) x3 x2 (0 : Int32) (0 : Int32) (0 : Int32) (0 : Int32) q3 q4 (some (.int q4.1), q4.2) hq rfl) ?_
  refine jE_blk (bs := []) (i := .ireturn) (a1 := 0) (a2 := 0) (pc1 := 112) (l1 := [(0, .ref 5), (2, .int x2), (3, .int x3)]) (st1 := [.int q4.1]) (σ1 := q4.2) (by decide +kernel) rfl (fun hC => ?_)
  have h9 := Option.some.inj h
  subst h9
  have e9 : ((some (.int q4.1), q4.2) : Option Value × jx_S) = res := hK
  subst e9
  exact jE_ret hC rfl
def p_cRea_readAtom (rec : (Int32 → jx_S → Option (Int32 × jx_S))) (x1 : Int32) (σ : jx_S) : Option (Int32 × jx_S) := (if (v_cRea_kind σ) = 1 then ((p_cRea_pass (1 : Int32) σ).bind fun q1 => ((p_cRea_addName (σ.1 5 6) (0 : Int32) (0 : Int32) q1).bind fun q2 => (some ((q2.1, q2.2))))) else (if (v_cRea_kind σ) = 2 then (p_cRea_readAtom_97 rec (σ.1 5 6) (v_cRea_kind σ) σ) else (if (v_cRea_kind σ) = 13 then (p_cRea_readAtom_97 rec (σ.1 5 6) (v_cRea_kind σ) σ) else (if (v_cRea_kind σ) = 15 then (p_cRea_readAtom_97 rec (σ.1 5 6) (v_cRea_kind σ) σ) else (if (v_cRea_kind σ) = 16 then ((p_cRea_pass (16 : Int32) σ).bind fun q5 => ((rec (x1 + (1 : Int32)) q5).bind fun q6 => ((p_cRea_pass (17 : Int32) q6.2).bind fun q7 => (some ((q6.1, q7)))))) else ((p_cRea_tell (2 : Int32) σ).bind fun q8 => (some (((0 : Int32), q8)))))))))
theorem x_cRea_readAtom (d : Nat) (rec : (Int32 → jx_S → Option (Int32 × jx_S))) (Dr : Nat) (hrec : ∀ z0 s r, rec z0 s = some r → jE Dr 49 0 (lv_args 0 [.ref 5, .int z0]) [] s (some (.int r.1), r.2)) (hd : Dr + 4 ≤ d) (x1 : Int32) (σ : jx_S) (t : (Int32 × jx_S)) (res : Option Value × jx_S) (h : p_cRea_readAtom rec x1 σ = some t) (hK : kkI t res) : jE d 57 0 [(0, .ref 5), (1, .int x1)] [] σ res := by
  unfold p_cRea_readAtom at h
  refine jE_blk (bs := [(.aload_n 0, 0, 0), (.getfield 36, 5, 6), (.istore_n 2, 5, 0), (.aload_n 0, 0, 0)]) (i := .invokevirtual 48) (a1 := 64) (a2 := 0) (pc1 := 6) (l1 := [(2, .int (σ.1 5 6)), (0, .ref 5), (1, .int x1)]) (st1 := [.ref 5]) (σ1 := σ) (by decide +kernel) rfl (fun hC => ?_)
  refine jE_call (as := [.ref 5]) (pc1 := 9) (st1 := []) hC rfl (by decide) (by omega) (xv_cRea_kind (d - 1) (by omega) σ) ?_
  refine jE_blk (bs := [(.istore_n 3, 5, 0), (.iload_n 3, 0, 0)]) (i := .lookupswitch (102) #[(1, 73), (2, 86), (13, 86), (15, 86), (16, 49)]) (a1 := 0) (a2 := 0) (pc1 := 11) (l1 := [(3, .int (v_cRea_kind σ)), (2, .int (σ.1 5 6)), (0, .ref 5), (1, .int x1)]) (st1 := [.int (v_cRea_kind σ)]) (σ1 := σ) (by decide +kernel) rfl (fun hC => ?_)
  rcases Classical.em ((v_cRea_kind σ) = 1) with hc0 | hc0
  · rw [if_pos hc0] at h
    refine jE_lsw 84 1 hC hc0 (by decide +kernel) ?_
    refine jE_blk (bs := [(.aload_n 0, 0, 0), (.iconst (1), 1, 0)]) (i := .invokevirtual 68) (a1 := 66) (a2 := 0) (pc1 := 86) (l1 := [(3, .int (v_cRea_kind σ)), (2, .int (σ.1 5 6)), (0, .ref 5), (1, .int x1)]) (st1 := [.int (1 : Int32), .ref 5]) (σ1 := σ) (by decide +kernel) rfl (fun hC => ?_)
    obtain ⟨q1, hq, h⟩ := Option.bind_eq_some_iff.mp h
    refine jE_call (as := [.ref 5, .int (1 : Int32)]) (pc1 := 89) (st1 := []) hC rfl (by decide) (by omega) (x_cRea_pass (d - 1) (by omega) (1 : Int32) σ q1 (none, q1) hq rfl) ?_
    refine jE_blk (bs := [(.aload_n 0, 0, 0), (.iload_n 2, 0, 0), (.iconst (0), 0, 0), (.iconst (0), 0, 0)]) (i := .invokevirtual 162) (a1 := 59) (a2 := 0) (pc1 := 93) (l1 := [(3, .int (v_cRea_kind σ)), (2, .int (σ.1 5 6)), (0, .ref 5), (1, .int x1)]) (st1 := [.int (0 : Int32), .int (0 : Int32), .int (σ.1 5 6), .ref 5]) (σ1 := q1) (by decide +kernel) rfl (fun hC => ?_)
    obtain ⟨q2, hq, h⟩ := Option.bind_eq_some_iff.mp h
    refine jE_call (as := [.ref 5, .int (σ.1 5 6), .int (0 : Int32), .int (0 : Int32)]) (pc1 := 96) (st1 := []) hC rfl (by decide) (by omega) (x_cRea_addName (d - 1) (by omega) (σ.1 5 6) (0 : Int32) (0 : Int32) q1 q2 (some (.int q2.1), q2.2) hq rfl) ?_
    refine jE_blk (bs := []) (i := .ireturn) (a1 := 0) (a2 := 0) (pc1 := 96) (l1 := [(3, .int (v_cRea_kind σ)), (2, .int (σ.1 5 6)), (0, .ref 5), (1, .int x1)]) (st1 := [.int q2.1]) (σ1 := q2.2) (by decide +kernel) rfl (fun hC => ?_)
    have h9 := Option.some.inj h
    subst h9
    have e9 : ((some (.int q2.1), q2.2) : Option Value × jx_S) = res := hK
    subst e9
    exact jE_ret hC rfl
  · rw [if_neg hc0] at h
    rcases Classical.em ((v_cRea_kind σ) = 2) with hc1 | hc1
    · rw [if_pos hc1] at h
      refine jE_lsw 97 2 hC hc1 (by decide +kernel) ?_
      exact jE_loc (l := [(0, .ref 5), (2, .int (σ.1 5 6)), (3, .int (v_cRea_kind σ))]) (ks := [0, 2, 3]) rfl (by decide) ⟨rfl, rfl, rfl, trivial⟩ (x_cRea_readAtom_97 d rec Dr hrec hd (σ.1 5 6) (v_cRea_kind σ) σ _ res h hK)
    · rw [if_neg hc1] at h
      rcases Classical.em ((v_cRea_kind σ) = 13) with hc2 | hc2
      · rw [if_pos hc2] at h
        refine jE_lsw 97 13 hC hc2 (by decide +kernel) ?_
        exact jE_loc (l := [(0, .ref 5), (2, .int (σ.1 5 6)), (3, .int (v_cRea_kind σ))]) (ks := [0, 2, 3]) rfl (by decide) ⟨rfl, rfl, rfl, trivial⟩ (x_cRea_readAtom_97 d rec Dr hrec hd (σ.1 5 6) (v_cRea_kind σ) σ _ res h hK)
      · rw [if_neg hc2] at h
        rcases Classical.em ((v_cRea_kind σ) = 15) with hc3 | hc3
        · rw [if_pos hc3] at h
          refine jE_lsw 97 15 hC hc3 (by decide +kernel) ?_
          exact jE_loc (l := [(0, .ref 5), (2, .int (σ.1 5 6)), (3, .int (v_cRea_kind σ))]) (ks := [0, 2, 3]) rfl (by decide) ⟨rfl, rfl, rfl, trivial⟩ (x_cRea_readAtom_97 d rec Dr hrec hd (σ.1 5 6) (v_cRea_kind σ) σ _ res h hK)
        · rw [if_neg hc3] at h
          rcases Classical.em ((v_cRea_kind σ) = 16) with hc4 | hc4
          · rw [if_pos hc4] at h
            refine jE_lsw 60 16 hC hc4 (by decide +kernel) ?_
            refine jE_blk (bs := [(.aload_n 0, 0, 0), (.bipush (16), 16, 0)]) (i := .invokevirtual 68) (a1 := 66) (a2 := 0) (pc1 := 63) (l1 := [(3, .int (v_cRea_kind σ)), (2, .int (σ.1 5 6)), (0, .ref 5), (1, .int x1)]) (st1 := [.int (16 : Int32), .ref 5]) (σ1 := σ) (by decide +kernel) rfl (fun hC => ?_)
            obtain ⟨q5, hq, h⟩ := Option.bind_eq_some_iff.mp h
            refine jE_call (as := [.ref 5, .int (16 : Int32)]) (pc1 := 66) (st1 := []) hC rfl (by decide) (by omega) (x_cRea_pass (d - 1) (by omega) (16 : Int32) σ q5 (none, q5) hq rfl) ?_
            refine jE_blk (bs := [(.aload_n 0, 0, 0), (.iload_n 1, 0, 0), (.iconst (1), 1, 0), (.iadd, 0, 0)]) (i := .invokevirtual 86) (a1 := 49) (a2 := 0) (pc1 := 70) (l1 := [(3, .int (v_cRea_kind σ)), (2, .int (σ.1 5 6)), (0, .ref 5), (1, .int x1)]) (st1 := [.int (x1 + (1 : Int32)), .ref 5]) (σ1 := q5) (by decide +kernel) rfl (fun hC => ?_)
            obtain ⟨q6, hq, h⟩ := Option.bind_eq_some_iff.mp h
            refine jE_call (as := [.ref 5, .int (x1 + (1 : Int32))]) (pc1 := 73) (st1 := []) hC rfl (by decide) (by omega) (jE_up (hrec (x1 + (1 : Int32)) q5 q6 hq) (by omega)) ?_
            refine jE_blk (bs := [(.istore 4, 5, 0), (.aload_n 0, 0, 0), (.bipush (17), 17, 0)]) (i := .invokevirtual 68) (a1 := 66) (a2 := 0) (pc1 := 78) (l1 := [(4, .int q6.1), (3, .int (v_cRea_kind σ)), (2, .int (σ.1 5 6)), (0, .ref 5), (1, .int x1)]) (st1 := [.int (17 : Int32), .ref 5]) (σ1 := q6.2) (by decide +kernel) rfl (fun hC => ?_)
            obtain ⟨q7, hq, h⟩ := Option.bind_eq_some_iff.mp h
            refine jE_call (as := [.ref 5, .int (17 : Int32)]) (pc1 := 81) (st1 := []) hC rfl (by decide) (by omega) (x_cRea_pass (d - 1) (by omega) (17 : Int32) q6.2 q7 (none, q7) hq rfl) ?_
            refine jE_blk (bs := [(.iload 4, 0, 0)]) (i := .ireturn) (a1 := 0) (a2 := 0) (pc1 := 83) (l1 := [(4, .int q6.1), (3, .int (v_cRea_kind σ)), (2, .int (σ.1 5 6)), (0, .ref 5), (1, .int x1)]) (st1 := [.int q6.1]) (σ1 := q7) (by decide +kernel) rfl (fun hC => ?_)
            have h9 := Option.some.inj h
            subst h9
            have e9 : ((some (.int q6.1), q7) : Option Value × jx_S) = res := hK
            subst e9
            exact jE_ret hC rfl
          · rw [if_neg hc4] at h
            refine jE_lswD 113 [1, 2, 13, 15, 16] hC (by decide +kernel) ⟨hc0, hc1, hc2, hc3, hc4, trivial⟩ ?_
            refine jE_blk (bs := [(.aload_n 0, 0, 0), (.iconst (2), 2, 0)]) (i := .invokevirtual 55) (a1 := 67) (a2 := 0) (pc1 := 115) (l1 := [(3, .int (v_cRea_kind σ)), (2, .int (σ.1 5 6)), (0, .ref 5), (1, .int x1)]) (st1 := [.int (2 : Int32), .ref 5]) (σ1 := σ) (by decide +kernel) rfl (fun hC => ?_)
            obtain ⟨q8, hq, h⟩ := Option.bind_eq_some_iff.mp h
            refine jE_call (as := [.ref 5, .int (2 : Int32)]) (pc1 := 118) (st1 := []) hC rfl (by decide) (by omega) (x_cRea_tell (d - 1) (by omega) (2 : Int32) σ q8 (none, q8) hq rfl) ?_
            refine jE_blk (bs := [(.iconst (0), 0, 0)]) (i := .ireturn) (a1 := 0) (a2 := 0) (pc1 := 119) (l1 := [(3, .int (v_cRea_kind σ)), (2, .int (σ.1 5 6)), (0, .ref 5), (1, .int x1)]) (st1 := [.int (0 : Int32)]) (σ1 := q8) (by decide +kernel) rfl (fun hC => ?_)
            have h9 := Option.some.inj h
            subst h9
            have e9 : ((some (.int (0 : Int32)), q8) : Option Value × jx_S) = res := hK
            subst e9
            exact jE_ret hC rfl
def kk_cRea_readCall_72 (d : Nat) (t : ((Int32 × Int32 × Int32 × Int32 × Int32 × Int32 × jx_S) ⊕ (Int32 × jx_S))) (res : Option Value × jx_S) : Prop := match t with
  | .inl s => jE d 56 72 [(0, .ref 5), (1, .int s.1), (2, .int s.2.1), (3, .int s.2.2.1), (4, .int s.2.2.2.1), (5, .int s.2.2.2.2.1), (6, .int s.2.2.2.2.2.1)] [] s.2.2.2.2.2.2 res
  | .inr t => kkI t res
def p_cRea_readCall_135 (rec : (Int32 → jx_S → Option (Int32 × jx_S))) (x2 : Int32) (x3 : Int32) (x5 : Int32) (σ : jx_S) : Option (Int32 × jx_S) := ((p_cRea_addName x2 x3 x5 σ).bind fun q2 => (some ((q2.1, q2.2))))
theorem x_cRea_readCall_135 (d : Nat) (rec : (Int32 → jx_S → Option (Int32 × jx_S))) (Dr : Nat) (hrec : ∀ z0 s r, rec z0 s = some r → jE Dr 49 0 (lv_args 0 [.ref 5, .int z0]) [] s (some (.int r.1), r.2)) (hd : Dr + 5 ≤ d) (x2 : Int32) (x3 : Int32) (x5 : Int32) (σ : jx_S) (t : (Int32 × jx_S)) (res : Option Value × jx_S) (h : p_cRea_readCall_135 rec x2 x3 x5 σ = some t) (hK : kkI t res) : jE d 56 135 [(0, .ref 5), (2, .int x2), (3, .int x3), (5, .int x5)] [] σ res := by
  unfold p_cRea_readCall_135 at h
  refine jE_blk (bs := [(.aload_n 0, 0, 0), (.iload_n 2, 0, 0), (.iload_n 3, 0, 0), (.iload 5, 0, 0)]) (i := .invokevirtual 162) (a1 := 59) (a2 := 0) (pc1 := 140) (l1 := [(0, .ref 5), (2, .int x2), (3, .int x3), (5, .int x5)]) (st1 := [.int x5, .int x3, .int x2, .ref 5]) (σ1 := σ) (by decide +kernel) rfl (fun hC => ?_)
  obtain ⟨q2, hq, h⟩ := Option.bind_eq_some_iff.mp h
  refine jE_call (as := [.ref 5, .int x2, .int x3, .int x5]) (pc1 := 143) (st1 := []) hC rfl (by decide) (by omega) (x_cRea_addName (d - 1) (by omega) x2 x3 x5 σ q2 (some (.int q2.1), q2.2) hq rfl) ?_
  refine jE_blk (bs := []) (i := .ireturn) (a1 := 0) (a2 := 0) (pc1 := 143) (l1 := [(0, .ref 5), (2, .int x2), (3, .int x3), (5, .int x5)]) (st1 := [.int q2.1]) (σ1 := q2.2) (by decide +kernel) rfl (fun hC => ?_)
  have h9 := Option.some.inj h
  subst h9
  have e9 : ((some (.int q2.1), q2.2) : Option Value × jx_S) = res := hK
  subst e9
  exact jE_ret hC rfl
def p_cRea_readCall_122 (rec : (Int32 → jx_S → Option (Int32 × jx_S))) (x1 : Int32) (x2 : Int32) (x3 : Int32) (x5 : Int32) (x6 : Int32) (x7 : Int32) (σ : jx_S) : Option ((Int32 × Int32 × Int32 × Int32 × Int32 × Int32 × jx_S) ⊕ (Int32 × jx_S)) := (some (.inl (x1, x2, x3, x7, (x5 + 1), (x6 + 1), σ)))
theorem x_cRea_readCall_122 (d : Nat) (rec : (Int32 → jx_S → Option (Int32 × jx_S))) (Dr : Nat) (hrec : ∀ z0 s r, rec z0 s = some r → jE Dr 49 0 (lv_args 0 [.ref 5, .int z0]) [] s (some (.int r.1), r.2)) (hd : Dr + 5 ≤ d) (x1 : Int32) (x2 : Int32) (x3 : Int32) (x5 : Int32) (x6 : Int32) (x7 : Int32) (σ : jx_S) (t : ((Int32 × Int32 × Int32 × Int32 × Int32 × Int32 × jx_S) ⊕ (Int32 × jx_S))) (res : Option Value × jx_S) (h : p_cRea_readCall_122 rec x1 x2 x3 x5 x6 x7 σ = some t) (hK : kk_cRea_readCall_72 d t res) : jE d 56 122 [(0, .ref 5), (1, .int x1), (2, .int x2), (3, .int x3), (5, .int x5), (6, .int x6), (7, .int x7)] [] σ res := by
  unfold p_cRea_readCall_122 at h
  refine jE_blk (bs := [(.iload 7, 0, 0), (.istore 4, 8, 0), (.iinc 5 (1), 8, 2), (.iinc 6 (1), 8, 2), (.goto (-60), 0, 0)]) (i := .iload 6) (a1 := 0) (a2 := 0) (pc1 := 72) (l1 := [(6, .int (x6 + 1)), (5, .int (x5 + 1)), (4, .int x7), (0, .ref 5), (1, .int x1), (2, .int x2), (3, .int x3), (7, .int x7)]) (st1 := []) (σ1 := σ) (by decide +kernel) rfl (fun hC => ?_)
  have h9 := Option.some.inj h
  subst h9
  exact jE_loc (l := [(0, .ref 5), (1, .int x1), (2, .int x2), (3, .int x3), (4, .int x7), (5, .int (x5 + 1)), (6, .int (x6 + 1))]) (ks := [0, 1, 2, 3, 4, 5, 6]) rfl (by decide) ⟨rfl, rfl, rfl, rfl, rfl, rfl, rfl, trivial⟩ hK
def p_cRea_readCall_72_s (rec : (Int32 → jx_S → Option (Int32 × jx_S))) (x1 : Int32) (x2 : Int32) (x3 : Int32) (x4 : Int32) (x5 : Int32) (x6 : Int32) (σ : jx_S) : Option ((Int32 × Int32 × Int32 × Int32 × Int32 × Int32 × jx_S) ⊕ (Int32 × jx_S)) := (if (1200 : Int32) ≤ x6 then (Option.map Sum.inr (p_cRea_readCall_135 rec x2 x3 x5 σ)) else (if (v_cRea_beginsAtom (v_cRea_kind σ) σ) = 0 then (Option.map Sum.inr (p_cRea_readCall_135 rec x2 x3 x5 σ)) else ((p_cRea_readAtom rec x1 σ).bind fun q5 => (if ¬ x5 = 0 then (p_cRea_readCall_122 rec x1 x2 x3 x5 x6 q5.1 (jI_put 1201 q5.2 29 x4 q5.1)) else (p_cRea_readCall_122 rec x1 x2 q5.1 x5 x6 q5.1 q5.2)))))
theorem x_cRea_readCall_72_s (d : Nat) (rec : (Int32 → jx_S → Option (Int32 × jx_S))) (Dr : Nat) (hrec : ∀ z0 s r, rec z0 s = some r → jE Dr 49 0 (lv_args 0 [.ref 5, .int z0]) [] s (some (.int r.1), r.2)) (hd : Dr + 5 ≤ d) (x1 : Int32) (x2 : Int32) (x3 : Int32) (x4 : Int32) (x5 : Int32) (x6 : Int32) (σ : jx_S) (t : ((Int32 × Int32 × Int32 × Int32 × Int32 × Int32 × jx_S) ⊕ (Int32 × jx_S))) (res : Option Value × jx_S) (h : p_cRea_readCall_72_s rec x1 x2 x3 x4 x5 x6 σ = some t) (hK : kk_cRea_readCall_72 d t res) : jE d 56 72 [(0, .ref 5), (1, .int x1), (2, .int x2), (3, .int x3), (4, .int x4), (5, .int x5), (6, .int x6)] [] σ res := by
  unfold p_cRea_readCall_72_s at h
  refine jE_blk (bs := [(.iload 6, 0, 0), (.sipush (1200), 1200, 0)]) (i := .if_icmp .ge (58)) (a1 := 0) (a2 := 0) (pc1 := 77) (l1 := [(0, .ref 5), (1, .int x1), (2, .int x2), (3, .int x3), (4, .int x4), (5, .int x5), (6, .int x6)]) (st1 := [.int (1200 : Int32), .int x6]) (σ1 := σ) (by decide +kernel) rfl (fun hC => ?_)
  rcases Classical.em ((1200 : Int32) ≤ x6) with hc | hc
  · rw [if_pos hc] at h
    refine jE_icT 135 hC (by decide) hc ?_
    obtain ⟨t9_3, h9_3, h8_3⟩ := Option.map_eq_some_iff.mp h
    clear h
    subst h8_3
    have h := h9_3
    clear h9_3
    exact jE_loc (l := [(0, .ref 5), (2, .int x2), (3, .int x3), (5, .int x5)]) (ks := [0, 2, 3, 5]) rfl (by decide) ⟨rfl, rfl, rfl, rfl, trivial⟩ (x_cRea_readCall_135 d rec Dr hrec hd x2 x3 x5 σ _ res h hK)
  · rw [if_neg hc] at h
    refine jE_icF 135 hC (by decide) hc ?_
    refine jE_blk (bs := [(.aload_n 0, 0, 0)]) (i := .invokevirtual 48) (a1 := 64) (a2 := 0) (pc1 := 81) (l1 := [(0, .ref 5), (1, .int x1), (2, .int x2), (3, .int x3), (4, .int x4), (5, .int x5), (6, .int x6)]) (st1 := [.ref 5]) (σ1 := σ) (by decide +kernel) rfl (fun hC => ?_)
    refine jE_call (as := [.ref 5]) (pc1 := 84) (st1 := []) hC rfl (by decide) (by omega) (xv_cRea_kind (d - 1) (by omega) σ) ?_
    refine jE_blk (bs := []) (i := .invokestatic 155) (a1 := 58) (a2 := 0) (pc1 := 84) (l1 := [(0, .ref 5), (1, .int x1), (2, .int x2), (3, .int x3), (4, .int x4), (5, .int x5), (6, .int x6)]) (st1 := [.int (v_cRea_kind σ)]) (σ1 := σ) (by decide +kernel) rfl (fun hC => ?_)
    refine jE_call (as := [.int (v_cRea_kind σ)]) (pc1 := 87) (st1 := []) hC rfl (by decide) (by omega) (xv_cRea_beginsAtom (d - 1) (by omega) (v_cRea_kind σ) σ) ?_
    refine jE_blk (bs := []) (i := .ifCond .eq (48)) (a1 := 0) (a2 := 0) (pc1 := 87) (l1 := [(0, .ref 5), (1, .int x1), (2, .int x2), (3, .int x3), (4, .int x4), (5, .int x5), (6, .int x6)]) (st1 := [.int (v_cRea_beginsAtom (v_cRea_kind σ) σ)]) (σ1 := σ) (by decide +kernel) rfl (fun hC => ?_)
    rcases Classical.em ((v_cRea_beginsAtom (v_cRea_kind σ) σ) = 0) with hc | hc
    · rw [if_pos hc] at h
      refine jE_ifT 135 hC (by decide) hc ?_
      obtain ⟨t9_4, h9_4, h8_4⟩ := Option.map_eq_some_iff.mp h
      clear h
      subst h8_4
      have h := h9_4
      clear h9_4
      exact jE_loc (l := [(0, .ref 5), (2, .int x2), (3, .int x3), (5, .int x5)]) (ks := [0, 2, 3, 5]) rfl (by decide) ⟨rfl, rfl, rfl, rfl, trivial⟩ (x_cRea_readCall_135 d rec Dr hrec hd x2 x3 x5 σ _ res h hK)
    · rw [if_neg hc] at h
      refine jE_ifF 135 hC (by decide) hc ?_
      refine jE_blk (bs := [(.aload_n 0, 0, 0), (.iload_n 1, 0, 0)]) (i := .invokevirtual 152) (a1 := 57) (a2 := 0) (pc1 := 92) (l1 := [(0, .ref 5), (1, .int x1), (2, .int x2), (3, .int x3), (4, .int x4), (5, .int x5), (6, .int x6)]) (st1 := [.int x1, .ref 5]) (σ1 := σ) (by decide +kernel) rfl (fun hC => ?_)
      obtain ⟨q5, hq, h⟩ := Option.bind_eq_some_iff.mp h
      refine jE_call (as := [.ref 5, .int x1]) (pc1 := 95) (st1 := []) hC rfl (by decide) (by omega) (x_cRea_readAtom (d - 1) rec Dr hrec (by omega) x1 σ q5 (some (.int q5.1), q5.2) hq rfl) ?_
      refine jE_blk (bs := [(.istore 7, 8, 0), (.iload 5, 0, 0)]) (i := .ifCond .ne (9)) (a1 := 0) (a2 := 0) (pc1 := 99) (l1 := [(7, .int q5.1), (0, .ref 5), (1, .int x1), (2, .int x2), (3, .int x3), (4, .int x4), (5, .int x5), (6, .int x6)]) (st1 := [.int x5]) (σ1 := q5.2) (by decide +kernel) rfl (fun hC => ?_)
      rcases Classical.em (¬ x5 = 0) with hc | hc
      · rw [if_pos hc] at h
        refine jE_ifT 108 hC (by decide) hc ?_
        refine jE_blk (bs := [(.aload_n 0, 0, 0), (.getfield 24, 5, 1), (.getfield 159, 3, 3), (.iload 4, 0, 0), (.iload 7, 0, 0)]) (i := .invokevirtual 80) (a1 := 137) (a2 := 0) (pc1 := 119) (l1 := [(7, .int q5.1), (0, .ref 5), (1, .int x1), (2, .int x2), (3, .int x3), (4, .int x4), (5, .int x5), (6, .int x6)]) (st1 := [.int q5.1, .int x4, .ref 28]) (σ1 := q5.2) (by decide +kernel) rfl (fun hC => ?_)
        refine jE_call (as := [.ref 28, .int x4, .int q5.1]) (pc1 := 122) (st1 := []) hC rfl (by decide) (by omega) (xI_put (d - 1) 28 1201 x4 q5.1 q5.2 (by decide) rfl rfl) ?_
        exact jE_loc (l := [(0, .ref 5), (1, .int x1), (2, .int x2), (3, .int x3), (5, .int x5), (6, .int x6), (7, .int q5.1)]) (ks := [0, 1, 2, 3, 5, 6, 7]) rfl (by decide) ⟨rfl, rfl, rfl, rfl, rfl, rfl, rfl, trivial⟩ (x_cRea_readCall_122 d rec Dr hrec hd x1 x2 x3 x5 x6 q5.1 (jI_put 1201 q5.2 29 x4 q5.1) _ res h hK)
      · rw [if_neg hc] at h
        refine jE_ifF 108 hC (by decide) hc ?_
        refine jE_blk (bs := [(.iload 7, 0, 0), (.istore_n 3, 8, 0), (.goto (17), 0, 0)]) (i := .iload 7) (a1 := 0) (a2 := 0) (pc1 := 122) (l1 := [(3, .int q5.1), (7, .int q5.1), (0, .ref 5), (1, .int x1), (2, .int x2), (4, .int x4), (5, .int x5), (6, .int x6)]) (st1 := []) (σ1 := q5.2) (by decide +kernel) rfl (fun hC => ?_)
        exact jE_loc (l := [(0, .ref 5), (1, .int x1), (2, .int x2), (3, .int q5.1), (5, .int x5), (6, .int x6), (7, .int q5.1)]) (ks := [0, 1, 2, 3, 5, 6, 7]) rfl (by decide) ⟨rfl, rfl, rfl, rfl, rfl, rfl, rfl, trivial⟩ (x_cRea_readCall_122 d rec Dr hrec hd x1 x2 q5.1 x5 x6 q5.1 q5.2 _ res h hK)
def p_cRea_readCall_72 (rec : (Int32 → jx_S → Option (Int32 × jx_S))) (x1 : Int32) (x2 : Int32) (x3 : Int32) (x4 : Int32) (x5 : Int32) (x6 : Int32) (σ : jx_S) : Option (Int32 × jx_S) := jx_loop 100000000 (fun s => p_cRea_readCall_72_s rec s.1 s.2.1 s.2.2.1 s.2.2.2.1 s.2.2.2.2.1 s.2.2.2.2.2.1 (s.2.2.2.2.2.2)) (x1, x2, x3, x4, x5, x6, σ)
theorem x_cRea_readCall_72 (d : Nat) (rec : (Int32 → jx_S → Option (Int32 × jx_S))) (Dr : Nat) (hrec : ∀ z0 s r, rec z0 s = some r → jE Dr 49 0 (lv_args 0 [.ref 5, .int z0]) [] s (some (.int r.1), r.2)) (hd : Dr + 5 ≤ d) (x1 : Int32) (x2 : Int32) (x3 : Int32) (x4 : Int32) (x5 : Int32) (x6 : Int32) (σ : jx_S) (t : (Int32 × jx_S)) (res : Option Value × jx_S) (h : p_cRea_readCall_72 rec x1 x2 x3 x4 x5 x6 σ = some t) (hK : kkI t res) : jE d 56 72 [(0, .ref 5), (1, .int x1), (2, .int x2), (3, .int x3), (4, .int x4), (5, .int x5), (6, .int x6)] [] σ res := by
  refine jx_loop_ok (E := fun s t => ∀ res, kkI t res → jE d 56 72 [(0, .ref 5), (1, .int s.1), (2, .int s.2.1), (3, .int s.2.2.1), (4, .int s.2.2.2.1), (5, .int s.2.2.2.2.1), (6, .int s.2.2.2.2.2.1)] [] s.2.2.2.2.2.2 res) (fun s t hs => ?_) _ _ _ h res hK
  cases t with
  | inl s1 => exact fun b hb res hk => x_cRea_readCall_72_s d rec Dr hrec hd (s.1) (s.2.1) (s.2.2.1) (s.2.2.2.1) (s.2.2.2.2.1) (s.2.2.2.2.2.1) (s.2.2.2.2.2.2) _ res hs (hb res hk)
  | inr b => exact fun res hk => x_cRea_readCall_72_s d rec Dr hrec hd (s.1) (s.2.1) (s.2.2.1) (s.2.2.2.1) (s.2.2.2.2.1) (s.2.2.2.2.2.1) (s.2.2.2.2.2.2) _ res hs hk
def p_cRea_readCall (rec : (Int32 → jx_S → Option (Int32 × jx_S))) (x1 : Int32) (σ : jx_S) : Option (Int32 × jx_S) := (if ¬ (v_cRea_kind σ) = (14 : Int32) then (if (v_cRea_kind σ) = (1 : Int32) then ((p_cRea_pass (1 : Int32) σ).bind fun q1 => (p_cRea_readCall_72 rec x1 (σ.1 5 6) (0 : Int32) (0 : Int32) (0 : Int32) (0 : Int32) q1)) else ((p_cRea_readAtom rec x1 σ).bind fun q6 => (some ((q6.1, q6.2))))) else ((p_cRea_pass (14 : Int32) σ).bind fun q7 => ((p_cRea_readAtom rec x1 q7).bind fun q8 => ((p_cRea_readAtom rec x1 q8.2).bind fun q9 => ((p_cRea_addNode (14 : Int32) (σ.1 5 6) (0 : Int32) q8.1 q9.1 (0 : Int32) q9.2).bind fun q10 => (some ((q10.1, q10.2))))))))
theorem x_cRea_readCall (d : Nat) (rec : (Int32 → jx_S → Option (Int32 × jx_S))) (Dr : Nat) (hrec : ∀ z0 s r, rec z0 s = some r → jE Dr 49 0 (lv_args 0 [.ref 5, .int z0]) [] s (some (.int r.1), r.2)) (hd : Dr + 5 ≤ d) (x1 : Int32) (σ : jx_S) (t : (Int32 × jx_S)) (res : Option Value × jx_S) (h : p_cRea_readCall rec x1 σ = some t) (hK : kkI t res) : jE d 56 0 [(0, .ref 5), (1, .int x1)] [] σ res := by
  unfold p_cRea_readCall at h
  refine jE_blk (bs := [(.aload_n 0, 0, 0), (.getfield 36, 5, 6), (.istore_n 2, 8, 0), (.aload_n 0, 0, 0)]) (i := .invokevirtual 48) (a1 := 64) (a2 := 0) (pc1 := 6) (l1 := [(2, .int (σ.1 5 6)), (0, .ref 5), (1, .int x1)]) (st1 := [.ref 5]) (σ1 := σ) (by decide +kernel) rfl (fun hC => ?_)
  refine jE_call (as := [.ref 5]) (pc1 := 9) (st1 := []) hC rfl (by decide) (by omega) (xv_cRea_kind (d - 1) (by omega) σ) ?_
  refine jE_blk (bs := [(.bipush (14), 14, 0)]) (i := .if_icmp .ne (31)) (a1 := 0) (a2 := 0) (pc1 := 11) (l1 := [(2, .int (σ.1 5 6)), (0, .ref 5), (1, .int x1)]) (st1 := [.int (14 : Int32), .int (v_cRea_kind σ)]) (σ1 := σ) (by decide +kernel) rfl (fun hC => ?_)
  rcases Classical.em (¬ (v_cRea_kind σ) = (14 : Int32)) with hc | hc
  · rw [if_pos hc] at h
    refine jE_icT 42 hC (by decide) hc ?_
    refine jE_blk (bs := [(.aload_n 0, 0, 0)]) (i := .invokevirtual 48) (a1 := 64) (a2 := 0) (pc1 := 43) (l1 := [(2, .int (σ.1 5 6)), (0, .ref 5), (1, .int x1)]) (st1 := [.ref 5]) (σ1 := σ) (by decide +kernel) rfl (fun hC => ?_)
    refine jE_call (as := [.ref 5]) (pc1 := 46) (st1 := []) hC rfl (by decide) (by omega) (xv_cRea_kind (d - 1) (by omega) σ) ?_
    refine jE_blk (bs := [(.iconst (1), 1, 0)]) (i := .if_icmp .eq (9)) (a1 := 0) (a2 := 0) (pc1 := 47) (l1 := [(2, .int (σ.1 5 6)), (0, .ref 5), (1, .int x1)]) (st1 := [.int (1 : Int32), .int (v_cRea_kind σ)]) (σ1 := σ) (by decide +kernel) rfl (fun hC => ?_)
    rcases Classical.em ((v_cRea_kind σ) = (1 : Int32)) with hc | hc
    · rw [if_pos hc] at h
      refine jE_icT 56 hC (by decide) hc ?_
      refine jE_blk (bs := [(.aload_n 0, 0, 0), (.iconst (1), 1, 0)]) (i := .invokevirtual 68) (a1 := 66) (a2 := 0) (pc1 := 58) (l1 := [(2, .int (σ.1 5 6)), (0, .ref 5), (1, .int x1)]) (st1 := [.int (1 : Int32), .ref 5]) (σ1 := σ) (by decide +kernel) rfl (fun hC => ?_)
      obtain ⟨q1, hq, h⟩ := Option.bind_eq_some_iff.mp h
      refine jE_call (as := [.ref 5, .int (1 : Int32)]) (pc1 := 61) (st1 := []) hC rfl (by decide) (by omega) (x_cRea_pass (d - 1) (by omega) (1 : Int32) σ q1 (none, q1) hq rfl) ?_
      refine jE_blk (bs := [(.iconst (0), 0, 0), (.istore_n 3, 8, 0), (.iconst (0), 0, 0), (.istore 4, 8, 0), (.iconst (0), 0, 0), (.istore 5, 8, 0), (.iconst (0), 0, 0), (.istore 6, 8, 0)]) (i := .iload 6) (a1 := 0) (a2 := 0) (pc1 := 72) (l1 := [(6, .int (0 : Int32)), (5, .int (0 : Int32)), (4, .int (0 : Int32)), (3, .int (0 : Int32)), (2, .int (σ.1 5 6)), (0, .ref 5), (1, .int x1)]) (st1 := []) (σ1 := q1) (by decide +kernel) rfl (fun hC => ?_)
      exact jE_loc (l := [(0, .ref 5), (1, .int x1), (2, .int (σ.1 5 6)), (3, .int (0 : Int32)), (4, .int (0 : Int32)), (5, .int (0 : Int32)), (6, .int (0 : Int32))]) (ks := [0, 1, 2, 3, 4, 5, 6]) rfl (by decide) ⟨rfl, rfl, rfl, rfl, rfl, rfl, rfl, trivial⟩ (x_cRea_readCall_72 d rec Dr hrec hd x1 (σ.1 5 6) (0 : Int32) (0 : Int32) (0 : Int32) (0 : Int32) q1 _ res h hK)
    · rw [if_neg hc] at h
      refine jE_icF 56 hC (by decide) hc ?_
      refine jE_blk (bs := [(.aload_n 0, 0, 0), (.iload_n 1, 0, 0)]) (i := .invokevirtual 152) (a1 := 57) (a2 := 0) (pc1 := 52) (l1 := [(2, .int (σ.1 5 6)), (0, .ref 5), (1, .int x1)]) (st1 := [.int x1, .ref 5]) (σ1 := σ) (by decide +kernel) rfl (fun hC => ?_)
      obtain ⟨q6, hq, h⟩ := Option.bind_eq_some_iff.mp h
      refine jE_call (as := [.ref 5, .int x1]) (pc1 := 55) (st1 := []) hC rfl (by decide) (by omega) (x_cRea_readAtom (d - 1) rec Dr hrec (by omega) x1 σ q6 (some (.int q6.1), q6.2) hq rfl) ?_
      refine jE_blk (bs := []) (i := .ireturn) (a1 := 0) (a2 := 0) (pc1 := 55) (l1 := [(2, .int (σ.1 5 6)), (0, .ref 5), (1, .int x1)]) (st1 := [.int q6.1]) (σ1 := q6.2) (by decide +kernel) rfl (fun hC => ?_)
      have h9 := Option.some.inj h
      subst h9
      have e9 : ((some (.int q6.1), q6.2) : Option Value × jx_S) = res := hK
      subst e9
      exact jE_ret hC rfl
  · rw [if_neg hc] at h
    refine jE_icF 42 hC (by decide) hc ?_
    refine jE_blk (bs := [(.aload_n 0, 0, 0), (.bipush (14), 14, 0)]) (i := .invokevirtual 68) (a1 := 66) (a2 := 0) (pc1 := 17) (l1 := [(2, .int (σ.1 5 6)), (0, .ref 5), (1, .int x1)]) (st1 := [.int (14 : Int32), .ref 5]) (σ1 := σ) (by decide +kernel) rfl (fun hC => ?_)
    obtain ⟨q7, hq, h⟩ := Option.bind_eq_some_iff.mp h
    refine jE_call (as := [.ref 5, .int (14 : Int32)]) (pc1 := 20) (st1 := []) hC rfl (by decide) (by omega) (x_cRea_pass (d - 1) (by omega) (14 : Int32) σ q7 (none, q7) hq rfl) ?_
    refine jE_blk (bs := [(.aload_n 0, 0, 0), (.iload_n 1, 0, 0)]) (i := .invokevirtual 152) (a1 := 57) (a2 := 0) (pc1 := 22) (l1 := [(2, .int (σ.1 5 6)), (0, .ref 5), (1, .int x1)]) (st1 := [.int x1, .ref 5]) (σ1 := q7) (by decide +kernel) rfl (fun hC => ?_)
    obtain ⟨q8, hq, h⟩ := Option.bind_eq_some_iff.mp h
    refine jE_call (as := [.ref 5, .int x1]) (pc1 := 25) (st1 := []) hC rfl (by decide) (by omega) (x_cRea_readAtom (d - 1) rec Dr hrec (by omega) x1 q7 q8 (some (.int q8.1), q8.2) hq rfl) ?_
    refine jE_blk (bs := [(.istore_n 3, 8, 0), (.aload_n 0, 0, 0), (.bipush (14), 14, 0), (.iload_n 2, 0, 0), (.iconst (0), 0, 0), (.iload_n 3, 0, 0), (.aload_n 0, 0, 0), (.iload_n 1, 0, 0)]) (i := .invokevirtual 152) (a1 := 57) (a2 := 0) (pc1 := 34) (l1 := [(3, .int q8.1), (2, .int (σ.1 5 6)), (0, .ref 5), (1, .int x1)]) (st1 := [.int x1, .ref 5, .int q8.1, .int (0 : Int32), .int (σ.1 5 6), .int (14 : Int32), .ref 5]) (σ1 := q8.2) (by decide +kernel) rfl (fun hC => ?_)
    obtain ⟨q9, hq, h⟩ := Option.bind_eq_some_iff.mp h
    refine jE_call (as := [.ref 5, .int x1]) (pc1 := 37) (st1 := [.int q8.1, .int (0 : Int32), .int (σ.1 5 6), .int (14 : Int32), .ref 5]) hC rfl (by decide) (by omega) (x_cRea_readAtom (d - 1) rec Dr hrec (by omega) x1 q8.2 q9 (some (.int q9.1), q9.2) hq rfl) ?_
    refine jE_blk (bs := [(.iconst (0), 0, 0)]) (i := .invokevirtual 136) (a1 := 60) (a2 := 0) (pc1 := 38) (l1 := [(3, .int q8.1), (2, .int (σ.1 5 6)), (0, .ref 5), (1, .int x1)]) (st1 := [.int (0 : Int32), .int q9.1, .int q8.1, .int (0 : Int32), .int (σ.1 5 6), .int (14 : Int32), .ref 5]) (σ1 := q9.2) (by decide +kernel) rfl (fun hC => ?_)
    obtain ⟨q10, hq, h⟩ := Option.bind_eq_some_iff.mp h
    refine jE_call (as := [.ref 5, .int (14 : Int32), .int (σ.1 5 6), .int (0 : Int32), .int q8.1, .int q9.1, .int (0 : Int32)]) (pc1 := 41) (st1 := []) hC rfl (by decide) (by omega) (x_cRea_addNode (d - 1) (by omega) (14 : Int32) (σ.1 5 6) (0 : Int32) q8.1 q9.1 (0 : Int32) q9.2 q10 (some (.int q10.1), q10.2) hq rfl) ?_
    refine jE_blk (bs := []) (i := .ireturn) (a1 := 0) (a2 := 0) (pc1 := 41) (l1 := [(3, .int q8.1), (2, .int (σ.1 5 6)), (0, .ref 5), (1, .int x1)]) (st1 := [.int q10.1]) (σ1 := q10.2) (by decide +kernel) rfl (fun hC => ?_)
    have h9 := Option.some.inj h
    subst h9
    have e9 : ((some (.int q10.1), q10.2) : Option Value × jx_S) = res := hK
    subst e9
    exact jE_ret hC rfl
def p_cRea_passSign_16 (x2 : Int32) (σ : jx_S) : Option (Int32 × jx_S) := ((p_cRea_pass x2 σ).bind fun q1 => (some ((x2, q1))))
theorem x_cRea_passSign_16 (d : Nat) (hd : 3 ≤ d) (x2 : Int32) (σ : jx_S) (t : (Int32 × jx_S)) (res : Option Value × jx_S) (h : p_cRea_passSign_16 x2 σ = some t) (hK : kkI t res) : jE d 65 16 [(0, .ref 5), (2, .int x2)] [] σ res := by
  unfold p_cRea_passSign_16 at h
  refine jE_blk (bs := [(.aload_n 0, 0, 0), (.iload_n 2, 0, 0)]) (i := .invokevirtual 68) (a1 := 66) (a2 := 0) (pc1 := 18) (l1 := [(0, .ref 5), (2, .int x2)]) (st1 := [.int x2, .ref 5]) (σ1 := σ) (by decide +kernel) rfl (fun hC => ?_)
  obtain ⟨q1, hq, h⟩ := Option.bind_eq_some_iff.mp h
  refine jE_call (as := [.ref 5, .int x2]) (pc1 := 21) (st1 := []) hC rfl (by decide) (by omega) (x_cRea_pass (d - 1) (by omega) x2 σ q1 (none, q1) hq rfl) ?_
  refine jE_blk (bs := [(.iload_n 2, 0, 0)]) (i := .ireturn) (a1 := 0) (a2 := 0) (pc1 := 22) (l1 := [(0, .ref 5), (2, .int x2)]) (st1 := [.int x2]) (σ1 := q1) (by decide +kernel) rfl (fun hC => ?_)
  have h9 := Option.some.inj h
  subst h9
  have e9 : ((some (.int x2), q1) : Option Value × jx_S) = res := hK
  subst e9
  exact jE_ret hC rfl
def p_cRea_passSign (x1 : Int32) (σ : jx_S) : Option (Int32 × jx_S) := (if ¬ x1 = (10 : Int32) then (p_cRea_passSign_16 (v_cRea_kind σ) σ) else ((p_cRea_tell (3 : Int32) σ).bind fun q2 => (p_cRea_passSign_16 (v_cRea_kind σ) q2)))
theorem x_cRea_passSign (d : Nat) (hd : 3 ≤ d) (x1 : Int32) (σ : jx_S) (t : (Int32 × jx_S)) (res : Option Value × jx_S) (h : p_cRea_passSign x1 σ = some t) (hK : kkI t res) : jE d 65 0 [(0, .ref 5), (1, .int x1)] [] σ res := by
  unfold p_cRea_passSign at h
  refine jE_blk (bs := [(.aload_n 0, 0, 0)]) (i := .invokevirtual 48) (a1 := 64) (a2 := 0) (pc1 := 1) (l1 := [(0, .ref 5), (1, .int x1)]) (st1 := [.ref 5]) (σ1 := σ) (by decide +kernel) rfl (fun hC => ?_)
  refine jE_call (as := [.ref 5]) (pc1 := 4) (st1 := []) hC rfl (by decide) (by omega) (xv_cRea_kind (d - 1) (by omega) σ) ?_
  refine jE_blk (bs := [(.istore_n 2, 3, 0), (.iload_n 1, 0, 0), (.bipush (10), 10, 0)]) (i := .if_icmp .ne (8)) (a1 := 0) (a2 := 0) (pc1 := 8) (l1 := [(2, .int (v_cRea_kind σ)), (0, .ref 5), (1, .int x1)]) (st1 := [.int (10 : Int32), .int x1]) (σ1 := σ) (by decide +kernel) rfl (fun hC => ?_)
  rcases Classical.em (¬ x1 = (10 : Int32)) with hc | hc
  · rw [if_pos hc] at h
    refine jE_icT 16 hC (by decide) hc ?_
    exact jE_loc (l := [(0, .ref 5), (2, .int (v_cRea_kind σ))]) (ks := [0, 2]) rfl (by decide) ⟨rfl, rfl, trivial⟩ (x_cRea_passSign_16 d hd (v_cRea_kind σ) σ _ res h hK)
  · rw [if_neg hc] at h
    refine jE_icF 16 hC (by decide) hc ?_
    refine jE_blk (bs := [(.aload_n 0, 0, 0), (.iconst (3), 3, 0)]) (i := .invokevirtual 55) (a1 := 67) (a2 := 0) (pc1 := 13) (l1 := [(2, .int (v_cRea_kind σ)), (0, .ref 5), (1, .int x1)]) (st1 := [.int (3 : Int32), .ref 5]) (σ1 := σ) (by decide +kernel) rfl (fun hC => ?_)
    obtain ⟨q2, hq, h⟩ := Option.bind_eq_some_iff.mp h
    refine jE_call (as := [.ref 5, .int (3 : Int32)]) (pc1 := 16) (st1 := []) hC rfl (by decide) (by omega) (x_cRea_tell (d - 1) (by omega) (3 : Int32) σ q2 (none, q2) hq rfl) ?_
    exact jE_loc (l := [(0, .ref 5), (2, .int (v_cRea_kind σ))]) (ks := [0, 2]) rfl (by decide) ⟨rfl, rfl, trivial⟩ (x_cRea_passSign_16 d hd (v_cRea_kind σ) q2 _ res h hK)
def kk_cRea_readTerm_8 (d : Nat) (t : ((Int32 × Int32 × Int32 × jx_S) ⊕ (Int32 × jx_S))) (res : Option Value × jx_S) : Prop := match t with
  | .inl s => jE d 55 8 [(0, .ref 5), (1, .int s.1), (2, .int s.2.1), (3, .int s.2.2.1)] [] s.2.2.2 res
  | .inr t => kkI t res
def p_cRea_readTerm_32 (rec : (Int32 → jx_S → Option (Int32 × jx_S))) (x1 : Int32) (x2 : Int32) (x3 : Int32) (σ : jx_S) : Option ((Int32 × Int32 × Int32 × jx_S) ⊕ (Int32 × jx_S)) := ((p_cRea_passSign x3 σ).bind fun q3 => ((p_cRea_readCall rec x1 q3.2).bind fun q4 => ((p_cRea_addNode q3.1 (σ.1 5 6) (0 : Int32) x2 q4.1 (0 : Int32) q4.2).bind fun q5 => (some (.inl (x1, q5.1, (x3 + 1), q5.2))))))
theorem x_cRea_readTerm_32 (d : Nat) (rec : (Int32 → jx_S → Option (Int32 × jx_S))) (Dr : Nat) (hrec : ∀ z0 s r, rec z0 s = some r → jE Dr 49 0 (lv_args 0 [.ref 5, .int z0]) [] s (some (.int r.1), r.2)) (hd : Dr + 6 ≤ d) (x1 : Int32) (x2 : Int32) (x3 : Int32) (σ : jx_S) (t : ((Int32 × Int32 × Int32 × jx_S) ⊕ (Int32 × jx_S))) (res : Option Value × jx_S) (h : p_cRea_readTerm_32 rec x1 x2 x3 σ = some t) (hK : kk_cRea_readTerm_8 d t res) : jE d 55 32 [(0, .ref 5), (1, .int x1), (2, .int x2), (3, .int x3)] [] σ res := by
  unfold p_cRea_readTerm_32 at h
  refine jE_blk (bs := [(.aload_n 0, 0, 0), (.getfield 36, 5, 6), (.istore 4, 6, 0), (.aload_n 0, 0, 0), (.iload_n 3, 0, 0)]) (i := .invokevirtual 146) (a1 := 65) (a2 := 0) (pc1 := 40) (l1 := [(4, .int (σ.1 5 6)), (0, .ref 5), (1, .int x1), (2, .int x2), (3, .int x3)]) (st1 := [.int x3, .ref 5]) (σ1 := σ) (by decide +kernel) rfl (fun hC => ?_)
  obtain ⟨q3, hq, h⟩ := Option.bind_eq_some_iff.mp h
  refine jE_call (as := [.ref 5, .int x3]) (pc1 := 43) (st1 := []) hC rfl (by decide) (by omega) (x_cRea_passSign (d - 1) (by omega) x3 σ q3 (some (.int q3.1), q3.2) hq rfl) ?_
  refine jE_blk (bs := [(.istore 5, 6, 0), (.aload_n 0, 0, 0), (.iload 5, 0, 0), (.iload 4, 0, 0), (.iconst (0), 0, 0), (.iload_n 2, 0, 0), (.aload_n 0, 0, 0), (.iload_n 1, 0, 0)]) (i := .invokevirtual 149) (a1 := 56) (a2 := 0) (pc1 := 54) (l1 := [(5, .int q3.1), (4, .int (σ.1 5 6)), (0, .ref 5), (1, .int x1), (2, .int x2), (3, .int x3)]) (st1 := [.int x1, .ref 5, .int x2, .int (0 : Int32), .int (σ.1 5 6), .int q3.1, .ref 5]) (σ1 := q3.2) (by decide +kernel) rfl (fun hC => ?_)
  obtain ⟨q4, hq, h⟩ := Option.bind_eq_some_iff.mp h
  refine jE_call (as := [.ref 5, .int x1]) (pc1 := 57) (st1 := [.int x2, .int (0 : Int32), .int (σ.1 5 6), .int q3.1, .ref 5]) hC rfl (by decide) (by omega) (x_cRea_readCall (d - 1) rec Dr hrec (by omega) x1 q3.2 q4 (some (.int q4.1), q4.2) hq rfl) ?_
  refine jE_blk (bs := [(.iconst (0), 0, 0)]) (i := .invokevirtual 136) (a1 := 60) (a2 := 0) (pc1 := 58) (l1 := [(5, .int q3.1), (4, .int (σ.1 5 6)), (0, .ref 5), (1, .int x1), (2, .int x2), (3, .int x3)]) (st1 := [.int (0 : Int32), .int q4.1, .int x2, .int (0 : Int32), .int (σ.1 5 6), .int q3.1, .ref 5]) (σ1 := q4.2) (by decide +kernel) rfl (fun hC => ?_)
  obtain ⟨q5, hq, h⟩ := Option.bind_eq_some_iff.mp h
  refine jE_call (as := [.ref 5, .int q3.1, .int (σ.1 5 6), .int (0 : Int32), .int x2, .int q4.1, .int (0 : Int32)]) (pc1 := 61) (st1 := []) hC rfl (by decide) (by omega) (x_cRea_addNode (d - 1) (by omega) q3.1 (σ.1 5 6) (0 : Int32) x2 q4.1 (0 : Int32) q4.2 q5 (some (.int q5.1), q5.2) hq rfl) ?_
  refine jE_blk (bs := [(.istore_n 2, 6, 0), (.iinc 3 (1), 6, 2), (.goto (-57), 0, 0)]) (i := .iload_n 3) (a1 := 0) (a2 := 0) (pc1 := 8) (l1 := [(3, .int (x3 + 1)), (2, .int q5.1), (5, .int q3.1), (4, .int (σ.1 5 6)), (0, .ref 5), (1, .int x1)]) (st1 := []) (σ1 := q5.2) (by decide +kernel) rfl (fun hC => ?_)
  have h9 := Option.some.inj h
  subst h9
  exact jE_loc (l := [(0, .ref 5), (1, .int x1), (2, .int q5.1), (3, .int (x3 + 1))]) (ks := [0, 1, 2, 3]) rfl (by decide) ⟨rfl, rfl, rfl, rfl, trivial⟩ hK
def p_cRea_readTerm_8_s (rec : (Int32 → jx_S → Option (Int32 × jx_S))) (x1 : Int32) (x2 : Int32) (x3 : Int32) (σ : jx_S) : Option ((Int32 × Int32 × Int32 × jx_S) ⊕ (Int32 × jx_S)) := (if (10 : Int32) < x3 then (Option.map Sum.inr (some ((x2, σ)))) else (if (v_cRea_kind σ) = (25 : Int32) then (p_cRea_readTerm_32 rec x1 x2 x3 σ) else (if ¬ (v_cRea_kind σ) = (26 : Int32) then (Option.map Sum.inr (some ((x2, σ)))) else (p_cRea_readTerm_32 rec x1 x2 x3 σ))))
theorem x_cRea_readTerm_8_s (d : Nat) (rec : (Int32 → jx_S → Option (Int32 × jx_S))) (Dr : Nat) (hrec : ∀ z0 s r, rec z0 s = some r → jE Dr 49 0 (lv_args 0 [.ref 5, .int z0]) [] s (some (.int r.1), r.2)) (hd : Dr + 6 ≤ d) (x1 : Int32) (x2 : Int32) (x3 : Int32) (σ : jx_S) (t : ((Int32 × Int32 × Int32 × jx_S) ⊕ (Int32 × jx_S))) (res : Option Value × jx_S) (h : p_cRea_readTerm_8_s rec x1 x2 x3 σ = some t) (hK : kk_cRea_readTerm_8 d t res) : jE d 55 8 [(0, .ref 5), (1, .int x1), (2, .int x2), (3, .int x3)] [] σ res := by
  unfold p_cRea_readTerm_8_s at h
  refine jE_blk (bs := [(.iload_n 3, 0, 0), (.bipush (10), 10, 0)]) (i := .if_icmp .gt (57)) (a1 := 0) (a2 := 0) (pc1 := 11) (l1 := [(0, .ref 5), (1, .int x1), (2, .int x2), (3, .int x3)]) (st1 := [.int (10 : Int32), .int x3]) (σ1 := σ) (by decide +kernel) rfl (fun hC => ?_)
  rcases Classical.em ((10 : Int32) < x3) with hc | hc
  · rw [if_pos hc] at h
    refine jE_icT 68 hC (by decide) hc ?_
    obtain ⟨t9_2, h9_2, h8_2⟩ := Option.map_eq_some_iff.mp h
    clear h
    subst h8_2
    have h := h9_2
    clear h9_2
    refine jE_blk (bs := [(.iload_n 2, 0, 0)]) (i := .ireturn) (a1 := 0) (a2 := 0) (pc1 := 69) (l1 := [(0, .ref 5), (1, .int x1), (2, .int x2), (3, .int x3)]) (st1 := [.int x2]) (σ1 := σ) (by decide +kernel) rfl (fun hC => ?_)
    have h9 := Option.some.inj h
    subst h9
    have e9 : ((some (.int x2), σ) : Option Value × jx_S) = res := hK
    subst e9
    exact jE_ret hC rfl
  · rw [if_neg hc] at h
    refine jE_icF 68 hC (by decide) hc ?_
    refine jE_blk (bs := [(.aload_n 0, 0, 0)]) (i := .invokevirtual 48) (a1 := 64) (a2 := 0) (pc1 := 15) (l1 := [(0, .ref 5), (1, .int x1), (2, .int x2), (3, .int x3)]) (st1 := [.ref 5]) (σ1 := σ) (by decide +kernel) rfl (fun hC => ?_)
    refine jE_call (as := [.ref 5]) (pc1 := 18) (st1 := []) hC rfl (by decide) (by omega) (xv_cRea_kind (d - 1) (by omega) σ) ?_
    refine jE_blk (bs := [(.bipush (25), 25, 0)]) (i := .if_icmp .eq (12)) (a1 := 0) (a2 := 0) (pc1 := 20) (l1 := [(0, .ref 5), (1, .int x1), (2, .int x2), (3, .int x3)]) (st1 := [.int (25 : Int32), .int (v_cRea_kind σ)]) (σ1 := σ) (by decide +kernel) rfl (fun hC => ?_)
    rcases Classical.em ((v_cRea_kind σ) = (25 : Int32)) with hc | hc
    · rw [if_pos hc] at h
      refine jE_icT 32 hC (by decide) hc ?_
      exact jE_loc (l := [(0, .ref 5), (1, .int x1), (2, .int x2), (3, .int x3)]) (ks := [0, 1, 2, 3]) rfl (by decide) ⟨rfl, rfl, rfl, rfl, trivial⟩ (x_cRea_readTerm_32 d rec Dr hrec hd x1 x2 x3 σ _ res h hK)
    · rw [if_neg hc] at h
      refine jE_icF 32 hC (by decide) hc ?_
      refine jE_blk (bs := [(.aload_n 0, 0, 0)]) (i := .invokevirtual 48) (a1 := 64) (a2 := 0) (pc1 := 24) (l1 := [(0, .ref 5), (1, .int x1), (2, .int x2), (3, .int x3)]) (st1 := [.ref 5]) (σ1 := σ) (by decide +kernel) rfl (fun hC => ?_)
      refine jE_call (as := [.ref 5]) (pc1 := 27) (st1 := []) hC rfl (by decide) (by omega) (xv_cRea_kind (d - 1) (by omega) σ) ?_
      refine jE_blk (bs := [(.bipush (26), 26, 0)]) (i := .if_icmp .ne (39)) (a1 := 0) (a2 := 0) (pc1 := 29) (l1 := [(0, .ref 5), (1, .int x1), (2, .int x2), (3, .int x3)]) (st1 := [.int (26 : Int32), .int (v_cRea_kind σ)]) (σ1 := σ) (by decide +kernel) rfl (fun hC => ?_)
      rcases Classical.em (¬ (v_cRea_kind σ) = (26 : Int32)) with hc | hc
      · rw [if_pos hc] at h
        refine jE_icT 68 hC (by decide) hc ?_
        obtain ⟨t9_6, h9_6, h8_6⟩ := Option.map_eq_some_iff.mp h
        clear h
        subst h8_6
        have h := h9_6
        clear h9_6
        refine jE_blk (bs := [(.iload_n 2, 0, 0)]) (i := .ireturn) (a1 := 0) (a2 := 0) (pc1 := 69) (l1 := [(0, .ref 5), (1, .int x1), (2, .int x2), (3, .int x3)]) (st1 := [.int x2]) (σ1 := σ) (by decide +kernel) rfl (fun hC => ?_)
        have h9 := Option.some.inj h
        subst h9
        have e9 : ((some (.int x2), σ) : Option Value × jx_S) = res := hK
        subst e9
        exact jE_ret hC rfl
      · rw [if_neg hc] at h
        refine jE_icF 68 hC (by decide) hc ?_
        exact jE_loc (l := [(0, .ref 5), (1, .int x1), (2, .int x2), (3, .int x3)]) (ks := [0, 1, 2, 3]) rfl (by decide) ⟨rfl, rfl, rfl, rfl, trivial⟩ (x_cRea_readTerm_32 d rec Dr hrec hd x1 x2 x3 σ _ res h hK)
def p_cRea_readTerm_8 (rec : (Int32 → jx_S → Option (Int32 × jx_S))) (x1 : Int32) (x2 : Int32) (x3 : Int32) (σ : jx_S) : Option (Int32 × jx_S) := jx_loop 100000000 (fun s => p_cRea_readTerm_8_s rec s.1 s.2.1 s.2.2.1 (s.2.2.2)) (x1, x2, x3, σ)
theorem x_cRea_readTerm_8 (d : Nat) (rec : (Int32 → jx_S → Option (Int32 × jx_S))) (Dr : Nat) (hrec : ∀ z0 s r, rec z0 s = some r → jE Dr 49 0 (lv_args 0 [.ref 5, .int z0]) [] s (some (.int r.1), r.2)) (hd : Dr + 6 ≤ d) (x1 : Int32) (x2 : Int32) (x3 : Int32) (σ : jx_S) (t : (Int32 × jx_S)) (res : Option Value × jx_S) (h : p_cRea_readTerm_8 rec x1 x2 x3 σ = some t) (hK : kkI t res) : jE d 55 8 [(0, .ref 5), (1, .int x1), (2, .int x2), (3, .int x3)] [] σ res := by
  refine jx_loop_ok (E := fun s t => ∀ res, kkI t res → jE d 55 8 [(0, .ref 5), (1, .int s.1), (2, .int s.2.1), (3, .int s.2.2.1)] [] s.2.2.2 res) (fun s t hs => ?_) _ _ _ h res hK
  cases t with
  | inl s1 => exact fun b hb res hk => x_cRea_readTerm_8_s d rec Dr hrec hd (s.1) (s.2.1) (s.2.2.1) (s.2.2.2) _ res hs (hb res hk)
  | inr b => exact fun res hk => x_cRea_readTerm_8_s d rec Dr hrec hd (s.1) (s.2.1) (s.2.2.1) (s.2.2.2) _ res hs hk
def p_cRea_readTerm (rec : (Int32 → jx_S → Option (Int32 × jx_S))) (x1 : Int32) (σ : jx_S) : Option (Int32 × jx_S) := ((p_cRea_readCall rec x1 σ).bind fun q1 => (p_cRea_readTerm_8 rec x1 q1.1 (0 : Int32) q1.2))
theorem x_cRea_readTerm (d : Nat) (rec : (Int32 → jx_S → Option (Int32 × jx_S))) (Dr : Nat) (hrec : ∀ z0 s r, rec z0 s = some r → jE Dr 49 0 (lv_args 0 [.ref 5, .int z0]) [] s (some (.int r.1), r.2)) (hd : Dr + 6 ≤ d) (x1 : Int32) (σ : jx_S) (t : (Int32 × jx_S)) (res : Option Value × jx_S) (h : p_cRea_readTerm rec x1 σ = some t) (hK : kkI t res) : jE d 55 0 [(0, .ref 5), (1, .int x1)] [] σ res := by
  unfold p_cRea_readTerm at h
  refine jE_blk (bs := [(.aload_n 0, 0, 0), (.iload_n 1, 0, 0)]) (i := .invokevirtual 149) (a1 := 56) (a2 := 0) (pc1 := 2) (l1 := [(0, .ref 5), (1, .int x1)]) (st1 := [.int x1, .ref 5]) (σ1 := σ) (by decide +kernel) rfl (fun hC => ?_)
  obtain ⟨q1, hq, h⟩ := Option.bind_eq_some_iff.mp h
  refine jE_call (as := [.ref 5, .int x1]) (pc1 := 5) (st1 := []) hC rfl (by decide) (by omega) (x_cRea_readCall (d - 1) rec Dr hrec (by omega) x1 σ q1 (some (.int q1.1), q1.2) hq rfl) ?_
  refine jE_blk (bs := [(.istore_n 2, 6, 0), (.iconst (0), 0, 0), (.istore_n 3, 6, 0)]) (i := .iload_n 3) (a1 := 0) (a2 := 0) (pc1 := 8) (l1 := [(3, .int (0 : Int32)), (2, .int q1.1), (0, .ref 5), (1, .int x1)]) (st1 := []) (σ1 := q1.2) (by decide +kernel) rfl (fun hC => ?_)
  exact jE_loc (l := [(0, .ref 5), (1, .int x1), (2, .int q1.1), (3, .int (0 : Int32))]) (ks := [0, 1, 2, 3]) rfl (by decide) ⟨rfl, rfl, rfl, rfl, trivial⟩ (x_cRea_readTerm_8 d rec Dr hrec hd x1 q1.1 (0 : Int32) q1.2 _ res h hK)
