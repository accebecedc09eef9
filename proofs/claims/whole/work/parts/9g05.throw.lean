/-! THROWS, 4: the way to each throw. -/
theorem th_feed {P : Nat → jx_L → List Value → jx_S → Prop} {d : Nat} (hP : jCl 0 d P) (hd : 3 ≤ d) (x1 : Int32) (x2 : Int64) (σ : jx_S) {kc : Int32} (hk0 : kFeed x1 kc σ) (k : P 23 [(0, .ref 0), (1, .int x1), (2, .long x2)] [] σ) : P 0 [(0, .ref 0), (1, .int x1), (2, .long x2)] [] σ := by
  have hk := hk0.2
  refine jK_blk hP (bs := [(.iload_n 1, 0, 0), (.iconst (1), 1, 0)]) (i := .if_icmp .lt (21)) (a1 := 0) (a2 := 0) (pc1 := 2) (l1 := [(0, .ref 0), (1, .int x1), (2, .long x2)]) (st1 := [.int (1 : Int32), .int x1]) (σ1 := σ) (by decide +kernel) rfl (fun hC => ?_)
  rcases Classical.em (x1 < (1 : Int32)) with hc | hc
  · refine jK_icT hP 23 hC (by decide) hc ?_
    exact k
  · refine jK_icF hP 23 hC (by decide) hc ?_
    refine jK_blk hP (bs := [(.iload_n 1, 0, 0), (.bipush (8), 8, 0)]) (i := .if_icmp .gt (15)) (a1 := 0) (a2 := 0) (pc1 := 8) (l1 := [(0, .ref 0), (1, .int x1), (2, .long x2)]) (st1 := [.int (8 : Int32), .int x1]) (σ1 := σ) (by decide +kernel) rfl (fun hC => ?_)
    rcases Classical.em ((8 : Int32) < x1) with hc | hc
    · refine jK_icT hP 23 hC (by decide) hc ?_
      exact k
    · refine jK_icF hP 23 hC (by decide) hc ?_
      refine jK_blk hP (bs := [(.aload_n 0, 0, 0), (.getfield 83, 0, 10), (.iload_n 1, 0, 0), (.iadd, 0, 0), (.sipush (4000), 4000, 0)]) (i := .if_icmp .le (13)) (a1 := 0) (a2 := 0) (pc1 := 20) (l1 := [(0, .ref 0), (1, .int x1), (2, .long x2)]) (st1 := [.int (4000 : Int32), .int ((σ.1 0 10) + x1)]) (σ1 := σ) (by decide +kernel) rfl (fun hC => ?_)
      rcases Classical.em (((σ.1 0 10) + x1) ≤ (4000 : Int32)) with hc | hc
      · exfalso; rcases hk with q | q | q <;> contradiction
      · refine jK_icF hP 33 hC (by decide) hc ?_
        exact k
theorem th_function {P : Nat → jx_L → List Value → jx_S → Prop} {d : Nat} (hP : jCl 5 d P) (hd : 3 ≤ d) (x1 : Int32) (x2 : Int32) (σ : jx_S) {kc : Int32} (hk0 : kFunction x1 x2 kc σ) (k : P 18 [(0, .ref 0), (1, .int x1), (2, .int x2)] [] σ) : P 0 [(0, .ref 0), (1, .int x1), (2, .int x2)] [] σ := by
  have hk := hk0.2
  refine jK_blk hP (bs := [(.aload_n 0, 0, 0), (.iload_n 1, 0, 0)]) (i := .invokevirtual 136) (a1 := 16) (a2 := 0) (pc1 := 2) (l1 := [(0, .ref 0), (1, .int x1), (2, .int x2)]) (st1 := [.int x1, .ref 0]) (σ1 := σ) (by decide +kernel) rfl (fun hC => ?_)
  refine jK_call hP (as := [.ref 0, .int x1]) (pc1 := 5) (st1 := []) hC rfl (by decide) (xv_cl_hasFunction d (by omega) x1 σ) ?_
  refine jK_blk hP (bs := []) (i := .ifCond .eq (13)) (a1 := 0) (a2 := 0) (pc1 := 5) (l1 := [(0, .ref 0), (1, .int x1), (2, .int x2)]) (st1 := [.int (v_cl_hasFunction x1 σ)]) (σ1 := σ) (by decide +kernel) rfl (fun hC => ?_)
  rcases Classical.em ((v_cl_hasFunction x1 σ) = 0) with hc | hc
  · refine jK_ifT hP 18 hC (by decide) hc ?_
    exact k
  · refine jK_ifF hP 18 hC (by decide) hc ?_
    refine jK_blk hP (bs := [(.iload_n 2, 0, 0)]) (i := .ifCond .lt (9)) (a1 := 0) (a2 := 0) (pc1 := 9) (l1 := [(0, .ref 0), (1, .int x1), (2, .int x2)]) (st1 := [.int x2]) (σ1 := σ) (by decide +kernel) rfl (fun hC => ?_)
    rcases Classical.em (x2 < 0) with hc | hc
    · refine jK_ifT hP 18 hC (by decide) hc ?_
      exact k
    · refine jK_ifF hP 18 hC (by decide) hc ?_
      refine jK_blk hP (bs := [(.iload_n 2, 0, 0), (.bipush (6), 6, 0)]) (i := .if_icmp .le (13)) (a1 := 0) (a2 := 0) (pc1 := 15) (l1 := [(0, .ref 0), (1, .int x1), (2, .int x2)]) (st1 := [.int (6 : Int32), .int x2]) (σ1 := σ) (by decide +kernel) rfl (fun hC => ?_)
      rcases Classical.em (x2 ≤ (6 : Int32)) with hc | hc
      · exfalso; rcases hk with q | ⟨-, q | q⟩ <;> contradiction
      · refine jK_icF hP 28 hC (by decide) hc ?_
        exact k
theorem th_parameter {P : Nat → jx_L → List Value → jx_S → Prop} {d : Nat} (hP : jCl 6 d P) (hd : 3 ≤ d) (x1 : Int32) (x2 : Int32) (x3 : Int32) (σ : jx_S) {kc : Int32} (hk0 : kParam x1 x2 x3 kc σ) (k : P 36 [(0, .ref 0), (1, .int x1), (2, .int x2), (3, .int x3)] [] σ) : P 0 [(0, .ref 0), (1, .int x1), (2, .int x2), (3, .int x3)] [] σ := by
  have hk := hk0.2
  refine jK_blk hP (bs := [(.aload_n 0, 0, 0), (.iload_n 1, 0, 0)]) (i := .invokevirtual 136) (a1 := 16) (a2 := 0) (pc1 := 2) (l1 := [(0, .ref 0), (1, .int x1), (2, .int x2), (3, .int x3)]) (st1 := [.int x1, .ref 0]) (σ1 := σ) (by decide +kernel) rfl (fun hC => ?_)
  refine jK_call hP (as := [.ref 0, .int x1]) (pc1 := 5) (st1 := []) hC rfl (by decide) (xv_cl_hasFunction d (by omega) x1 σ) ?_
  refine jK_blk hP (bs := []) (i := .ifCond .eq (31)) (a1 := 0) (a2 := 0) (pc1 := 5) (l1 := [(0, .ref 0), (1, .int x1), (2, .int x2), (3, .int x3)]) (st1 := [.int (v_cl_hasFunction x1 σ)]) (σ1 := σ) (by decide +kernel) rfl (fun hC => ?_)
  rcases Classical.em ((v_cl_hasFunction x1 σ) = 0) with hc | hc
  · refine jK_ifT hP 36 hC (by decide) hc ?_
    exact k
  · refine jK_ifF hP 36 hC (by decide) hc ?_
    refine jK_blk hP (bs := [(.iload_n 2, 0, 0)]) (i := .ifCond .lt (27)) (a1 := 0) (a2 := 0) (pc1 := 9) (l1 := [(0, .ref 0), (1, .int x1), (2, .int x2), (3, .int x3)]) (st1 := [.int x2]) (σ1 := σ) (by decide +kernel) rfl (fun hC => ?_)
    rcases Classical.em (x2 < 0) with hc | hc
    · refine jK_ifT hP 36 hC (by decide) hc ?_
      exact k
    · refine jK_ifF hP 36 hC (by decide) hc ?_
      refine jK_blk hP (bs := [(.iload_n 2, 0, 0), (.aload_n 0, 0, 0), (.getfield 45, 0, 5), (.getfield 145, 4, 1), (.iload_n 1, 0, 0)]) (i := .invokevirtual 148) (a1 := 136) (a2 := 0) (pc1 := 21) (l1 := [(0, .ref 0), (1, .int x1), (2, .int x2), (3, .int x3)]) (st1 := [.int x1, .ref 42, .int x2]) (σ1 := σ) (by decide +kernel) rfl (fun hC => ?_)
      refine jK_call hP (as := [.ref 42, .int x1]) (pc1 := 24) (st1 := [.int x2]) hC rfl (by decide) (xI_at d 42 40 x1 σ (by decide) rfl rfl) ?_
      refine jK_blk hP (bs := []) (i := .if_icmp .ge (12)) (a1 := 0) (a2 := 0) (pc1 := 24) (l1 := [(0, .ref 0), (1, .int x1), (2, .int x2), (3, .int x3)]) (st1 := [.int (jI_at 40 (σ.1 43) x1), .int x2]) (σ1 := σ) (by decide +kernel) rfl (fun hC => ?_)
      rcases Classical.em ((jI_at 40 (σ.1 43) x1) ≤ x2) with hc | hc
      · refine jK_icT hP 36 hC (by decide) hc ?_
        exact k
      · refine jK_icF hP 36 hC (by decide) hc ?_
        refine jK_blk hP (bs := [(.iload_n 3, 0, 0)]) (i := .ifCond .lt (8)) (a1 := 0) (a2 := 0) (pc1 := 28) (l1 := [(0, .ref 0), (1, .int x1), (2, .int x2), (3, .int x3)]) (st1 := [.int x3]) (σ1 := σ) (by decide +kernel) rfl (fun hC => ?_)
        rcases Classical.em (x3 < 0) with hc | hc
        · refine jK_ifT hP 36 hC (by decide) hc ?_
          exact k
        · refine jK_ifF hP 36 hC (by decide) hc ?_
          refine jK_blk hP (bs := [(.iload_n 3, 0, 0), (.iconst (1), 1, 0)]) (i := .if_icmp .le (13)) (a1 := 0) (a2 := 0) (pc1 := 33) (l1 := [(0, .ref 0), (1, .int x1), (2, .int x2), (3, .int x3)]) (st1 := [.int (1 : Int32), .int x3]) (σ1 := σ) (by decide +kernel) rfl (fun hC => ?_)
          rcases Classical.em (x3 ≤ (1 : Int32)) with hc | hc
          · exfalso; rcases hk with q | ⟨-, q | q | q | q⟩ <;> contradiction
          · refine jK_icF hP 46 hC (by decide) hc ?_
            exact k
theorem th_value {P : Nat → jx_L → List Value → jx_S → Prop} {d : Nat} (hP : jCl 7 d P) (hd : 3 ≤ d) (x1 : Int32) (x2 : Int32) (σ : jx_S) {kc : Int32} (hk0 : kValue x1 x2 kc σ) (k : P 27 [(0, .ref 0), (1, .int x1), (2, .int x2)] [] σ) : P 0 [(0, .ref 0), (1, .int x1), (2, .int x2)] [] σ := by
  have hk := hk0.2
  refine jK_blk hP (bs := [(.aload_n 0, 0, 0), (.iload_n 1, 0, 0)]) (i := .invokevirtual 136) (a1 := 16) (a2 := 0) (pc1 := 2) (l1 := [(0, .ref 0), (1, .int x1), (2, .int x2)]) (st1 := [.int x1, .ref 0]) (σ1 := σ) (by decide +kernel) rfl (fun hC => ?_)
  refine jK_call hP (as := [.ref 0, .int x1]) (pc1 := 5) (st1 := []) hC rfl (by decide) (xv_cl_hasFunction d (by omega) x1 σ) ?_
  refine jK_blk hP (bs := []) (i := .ifCond .eq (22)) (a1 := 0) (a2 := 0) (pc1 := 5) (l1 := [(0, .ref 0), (1, .int x1), (2, .int x2)]) (st1 := [.int (v_cl_hasFunction x1 σ)]) (σ1 := σ) (by decide +kernel) rfl (fun hC => ?_)
  rcases Classical.em ((v_cl_hasFunction x1 σ) = 0) with hc | hc
  · refine jK_ifT hP 27 hC (by decide) hc ?_
    exact k
  · refine jK_ifF hP 27 hC (by decide) hc ?_
    refine jK_blk hP (bs := [(.iload_n 2, 0, 0)]) (i := .ifCond .lt (18)) (a1 := 0) (a2 := 0) (pc1 := 9) (l1 := [(0, .ref 0), (1, .int x1), (2, .int x2)]) (st1 := [.int x2]) (σ1 := σ) (by decide +kernel) rfl (fun hC => ?_)
    rcases Classical.em (x2 < 0) with hc | hc
    · refine jK_ifT hP 27 hC (by decide) hc ?_
      exact k
    · refine jK_ifF hP 27 hC (by decide) hc ?_
      refine jK_blk hP (bs := [(.iload_n 2, 0, 0), (.aload_n 0, 0, 0), (.getfield 45, 0, 5), (.getfield 154, 4, 6), (.iload_n 1, 0, 0)]) (i := .invokevirtual 148) (a1 := 136) (a2 := 0) (pc1 := 21) (l1 := [(0, .ref 0), (1, .int x1), (2, .int x2)]) (st1 := [.int x1, .ref 52, .int x2]) (σ1 := σ) (by decide +kernel) rfl (fun hC => ?_)
      refine jK_call hP (as := [.ref 52, .int x1]) (pc1 := 24) (st1 := [.int x2]) hC rfl (by decide) (xI_at d 52 40 x1 σ (by decide) rfl rfl) ?_
      refine jK_blk hP (bs := []) (i := .if_icmp .lt (13)) (a1 := 0) (a2 := 0) (pc1 := 24) (l1 := [(0, .ref 0), (1, .int x1), (2, .int x2)]) (st1 := [.int (jI_at 40 (σ.1 53) x1), .int x2]) (σ1 := σ) (by decide +kernel) rfl (fun hC => ?_)
      rcases Classical.em (x2 < (jI_at 40 (σ.1 53) x1)) with hc | hc
      · exfalso; rcases hk with q | ⟨-, q | q⟩ <;> contradiction
      · refine jK_icF hP 37 hC (by decide) hc ?_
        exact k
theorem th_argument {P : Nat → jx_L → List Value → jx_S → Prop} {d : Nat} (hP : jCl 10 d P) (hd : 3 ≤ d) (x1 : Int32) (σ : jx_S) {kc : Int32} (hk0 : kArg kc σ) (k : P 9 [(0, .ref 0), (1, .int x1)] [] σ) : P 0 [(0, .ref 0), (1, .int x1)] [] σ := by
  have hk := hk0.2
  refine jK_blk hP (bs := [(.aload_n 0, 0, 0), (.getfield 197, 0, 11), (.bipush (8), 8, 0)]) (i := .if_icmp .lt (13)) (a1 := 0) (a2 := 0) (pc1 := 6) (l1 := [(0, .ref 0), (1, .int x1)]) (st1 := [.int (8 : Int32), .int (σ.1 0 11)]) (σ1 := σ) (by decide +kernel) rfl (fun hC => ?_)
  rcases Classical.em ((σ.1 0 11) < (8 : Int32)) with hc | hc
  · exfalso; exact hk hc
  · refine jK_icF hP 19 hC (by decide) hc ?_
    exact k
theorem th_told {P : Nat → jx_L → List Value → jx_S → Prop} {d : Nat} (hP : jCl 12 d P) (hd : 3 ≤ d) (x1 : Int32) (σ : jx_S) {kc : Int32} (hk0 : kTold x1 kc σ) (k : P 10 [(0, .ref 0), (1, .int x1)] [] σ) : P 0 [(0, .ref 0), (1, .int x1)] [] σ := by
  have hk := hk0.2
  refine jK_blk hP (bs := [(.iload_n 1, 0, 0)]) (i := .ifCond .lt (9)) (a1 := 0) (a2 := 0) (pc1 := 1) (l1 := [(0, .ref 0), (1, .int x1)]) (st1 := [.int x1]) (σ1 := σ) (by decide +kernel) rfl (fun hC => ?_)
  rcases Classical.em (x1 < 0) with hc | hc
  · refine jK_ifT hP 10 hC (by decide) hc ?_
    exact k
  · refine jK_ifF hP 10 hC (by decide) hc ?_
    refine jK_blk hP (bs := [(.iload_n 1, 0, 0), (.bipush (10), 10, 0)]) (i := .if_icmp .lt (13)) (a1 := 0) (a2 := 0) (pc1 := 7) (l1 := [(0, .ref 0), (1, .int x1)]) (st1 := [.int (10 : Int32), .int x1]) (σ1 := σ) (by decide +kernel) rfl (fun hC => ?_)
    rcases Classical.em (x1 < (10 : Int32)) with hc | hc
    · exfalso; rcases hk with q | q <;> contradiction
    · refine jK_icF hP 20 hC (by decide) hc ?_
      exact k
theorem th_element {P : Nat → jx_L → List Value → jx_S → Prop} {d : Nat} (hP : jCl 13 d P) (hd : 3 ≤ d) (x1 : Int32) (σ : jx_S) {kc : Int32} (hk0 : kElement x1 kc σ) (k : P 20 [(0, .ref 0), (1, .int x1)] [] σ) : P 0 [(0, .ref 0), (1, .int x1)] [] σ := by
  have hk := hk0.2
  refine jK_blk hP (bs := [(.iload_n 1, 0, 0)]) (i := .ifCond .lt (19)) (a1 := 0) (a2 := 0) (pc1 := 1) (l1 := [(0, .ref 0), (1, .int x1)]) (st1 := [.int x1]) (σ1 := σ) (by decide +kernel) rfl (fun hC => ?_)
  rcases Classical.em (x1 < 0) with hc | hc
  · refine jK_ifT hP 20 hC (by decide) hc ?_
    exact k
  · refine jK_ifF hP 20 hC (by decide) hc ?_
    refine jK_blk hP (bs := [(.iload_n 1, 0, 0), (.aload_n 0, 0, 0), (.getfield 79, 0, 9), (.getfield 220, 8, 0), (.bipush (6), 6, 0)]) (i := .invokevirtual 148) (a1 := 136) (a2 := 0) (pc1 := 14) (l1 := [(0, .ref 0), (1, .int x1)]) (st1 := [.int (6 : Int32), .ref 70, .int x1]) (σ1 := σ) (by decide +kernel) rfl (fun hC => ?_)
    refine jK_call hP (as := [.ref 70, .int (6 : Int32)]) (pc1 := 17) (st1 := [.int x1]) hC rfl (by decide) (xI_at d 70 10 (6 : Int32) σ (by decide) rfl rfl) ?_
    refine jK_blk hP (bs := []) (i := .if_icmp .lt (13)) (a1 := 0) (a2 := 0) (pc1 := 17) (l1 := [(0, .ref 0), (1, .int x1)]) (st1 := [.int (jI_at 10 (σ.1 71) (6 : Int32)), .int x1]) (σ1 := σ) (by decide +kernel) rfl (fun hC => ?_)
    rcases Classical.em (x1 < (jI_at 10 (σ.1 71) (6 : Int32))) with hc | hc
    · exfalso; rcases hk with q | q <;> contradiction
    · refine jK_icF hP 30 hC (by decide) hc ?_
      exact k
theorem th_run1 {P : Nat → jx_L → List Value → jx_S → Prop} {d : Nat} (hP : jCl 11 d P) (hd : 3 ≤ d) (x1 x2 x3 : Int32) (σ : jx_S) (hk : v_cl_hasFunction x1 σ = 0) (k : P 8 [(0, .ref 0), (1, .int x1), (2, .int x2), (3, .int x3)] [] σ) : P 0 [(0, .ref 0), (1, .int x1), (2, .int x2), (3, .int x3)] [] σ := by
  refine jK_blk hP (bs := [(.aload_n 0, 0, 0), (.iload_n 1, 0, 0)]) (i := .invokevirtual 136) (a1 := 16) (a2 := 0) (pc1 := 2) (l1 := [(0, .ref 0), (1, .int x1), (2, .int x2), (3, .int x3)]) (st1 := [.int x1, .ref 0]) (σ1 := σ) (by decide +kernel) rfl (fun hC => ?_)
  refine jK_call hP (as := [.ref 0, .int x1]) (pc1 := 5) (st1 := []) hC rfl (by decide) (xv_cl_hasFunction d (by omega) x1 σ) ?_
  refine jK_blk hP (bs := []) (i := .ifCond .ne (13)) (a1 := 0) (a2 := 0) (pc1 := 5) (l1 := [(0, .ref 0), (1, .int x1), (2, .int x2), (3, .int x3)]) (st1 := [.int (v_cl_hasFunction x1 σ)]) (σ1 := σ) (by decide +kernel) rfl (fun hC => ?_)
  exact jK_ifF hP 18 hC (by decide) (fun q => q hk) k
theorem th_run2 {P : Nat → jx_L → List Value → jx_S → Prop} {d : Nat} (hP : jCl 11 d P) (hd : 4 ≤ d) (x1 x2 x3 : Int32) (σ : jx_S) (hk : v_cl_hasFunction x1 σ = 1 ∧ (x2 < 0 ∨ 50000 < x2 ∨ p_cFun_takesInts x1 (σ.1 0 11) σ = some (0, σ))) (k : P 43 [(0, .ref 0), (1, .int x1), (2, .int x2), (3, .int x3)] [] σ) : P 0 [(0, .ref 0), (1, .int x1), (2, .int x2), (3, .int x3)] [] σ := by
  refine jK_blk hP (bs := [(.aload_n 0, 0, 0), (.iload_n 1, 0, 0)]) (i := .invokevirtual 136) (a1 := 16) (a2 := 0) (pc1 := 2) (l1 := [(0, .ref 0), (1, .int x1), (2, .int x2), (3, .int x3)]) (st1 := [.int x1, .ref 0]) (σ1 := σ) (by decide +kernel) rfl (fun hC => ?_)
  refine jK_call hP (as := [.ref 0, .int x1]) (pc1 := 5) (st1 := []) hC rfl (by decide) (xv_cl_hasFunction d (by omega) x1 σ) ?_
  refine jK_blk hP (bs := []) (i := .ifCond .ne (13)) (a1 := 0) (a2 := 0) (pc1 := 5) (l1 := [(0, .ref 0), (1, .int x1), (2, .int x2), (3, .int x3)]) (st1 := [.int (v_cl_hasFunction x1 σ)]) (σ1 := σ) (by decide +kernel) rfl (fun hC => ?_)
  refine jK_ifT hP 18 hC (by decide) (show ¬ v_cl_hasFunction x1 σ = 0 from fun q => by rw [hk.1] at q; exact absurd q (by decide)) ?_
  refine jK_blk hP (bs := [(.iload_n 2, 0, 0)]) (i := .ifCond .lt (24)) (a1 := 0) (a2 := 0) (pc1 := 19) (l1 := [(0, .ref 0), (1, .int x1), (2, .int x2), (3, .int x3)]) (st1 := [.int x2]) (σ1 := σ) (by decide +kernel) rfl (fun hC => ?_)
  rcases Classical.em (x2 < 0) with hc | hc
  · exact jK_ifT hP 43 hC (by decide) hc k
  · refine jK_ifF hP 43 hC (by decide) hc ?_
    refine jK_blk hP (bs := [(.iload_n 2, 0, 0), (.ldc 207, 50000, 0)]) (i := .if_icmp .gt (18)) (a1 := 0) (a2 := 0) (pc1 := 25) (l1 := [(0, .ref 0), (1, .int x1), (2, .int x2), (3, .int x3)]) (st1 := [.int (50000 : Int32), .int x2]) (σ1 := σ) (by decide +kernel) rfl (fun hC => ?_)
    rcases Classical.em ((50000 : Int32) < x2) with hc2 | hc2
    · exact jK_icT hP 43 hC (by decide) hc2 k
    · refine jK_icF hP 43 hC (by decide) hc2 ?_
      have hq : p_cFun_takesInts x1 (σ.1 0 11) σ = some (0, σ) := (hk.2.resolve_left hc).resolve_left hc2
      refine jK_blk hP (bs := [(.aload_n 0, 0, 0), (.getfield 45, 0, 5), (.iload_n 1, 0, 0), (.aload_n 0, 0, 0), (.getfield 197, 0, 11)]) (i := .invokevirtual 208) (a1 := 42) (a2 := 0) (pc1 := 37) (l1 := [(0, .ref 0), (1, .int x1), (2, .int x2), (3, .int x3)]) (st1 := [.int (σ.1 0 11), .int x1, .ref 4]) (σ1 := σ) (by decide +kernel) rfl (fun hC => ?_)
      refine jK_call hP (as := [.ref 4, .int x1, .int (σ.1 0 11)]) (pc1 := 40) (st1 := []) hC rfl (by decide) (x_cFun_takesInts d (by omega) x1 (σ.1 0 11) σ (0, σ) (some (.int 0), σ) hq rfl) ?_
      refine jK_blk hP (bs := []) (i := .ifCond .ne (13)) (a1 := 0) (a2 := 0) (pc1 := 40) (l1 := [(0, .ref 0), (1, .int x1), (2, .int x2), (3, .int x3)]) (st1 := [.int (0 : Int32)]) (σ1 := σ) (by decide +kernel) rfl (fun hC => ?_)
      exact jK_ifF hP 53 hC (by decide) (fun q => q rfl) k
