def kk_cAna_countLets_15 (d : Nat) (t : ((Int32 × Int32 × Int32 × Int32 × jx_S) ⊕ (Int32 × jx_S))) (res : Option Value × jx_S) : Prop := match t with
  | .inl s => jE d 88 15 [(0, .ref 7), (1, .int s.1), (2, .int s.2.1), (3, .int s.2.2.1), (4, .int s.2.2.2.1)] [] s.2.2.2.2 res
  | .inr t => kkI t res
def p_cAna_countLets_70 (x1 : Int32) (x2 : Int32) (x3 : Int32) (x4 : Int32) (σ : jx_S) : Option ((Int32 × Int32 × Int32 × Int32 × jx_S) ⊕ (Int32 × jx_S)) := (some (.inl (x1, x2, x3, (x4 + 1), σ)))
theorem x_cAna_countLets_70 (d : Nat) (hd : 1 ≤ d) (x1 : Int32) (x2 : Int32) (x3 : Int32) (x4 : Int32) (σ : jx_S) (t : ((Int32 × Int32 × Int32 × Int32 × jx_S) ⊕ (Int32 × jx_S))) (res : Option Value × jx_S) (h : p_cAna_countLets_70 x1 x2 x3 x4 σ = some t) (hK : kk_cAna_countLets_15 d t res) : jE d 88 70 [(0, .ref 7), (1, .int x1), (2, .int x2), (3, .int x3), (4, .int x4)] [] σ res := by
  unfold p_cAna_countLets_70 at h
  refine jE_blk (bs := [(.iinc 4 (1), 5, 2), (.goto (-58), 0, 0)]) (i := .iload 4) (a1 := 0) (a2 := 0) (pc1 := 15) (l1 := [(4, .int (x4 + 1)), (0, .ref 7), (1, .int x1), (2, .int x2), (3, .int x3)]) (st1 := []) (σ1 := σ) (by decide +kernel) rfl (fun hC => ?_)
  have h9 := Option.some.inj h
  subst h9
  exact jE_loc (l := [(0, .ref 7), (1, .int x1), (2, .int x2), (3, .int x3), (4, .int (x4 + 1))]) (ks := [0, 1, 2, 3, 4]) rfl (by decide) ⟨rfl, rfl, rfl, rfl, rfl, trivial⟩ hK
def p_cAna_countLets_67 (x1 : Int32) (x2 : Int32) (x3 : Int32) (x4 : Int32) (σ : jx_S) : Option ((Int32 × Int32 × Int32 × Int32 × jx_S) ⊕ (Int32 × jx_S)) := (p_cAna_countLets_70 x1 x2 (x3 + 1) x4 σ)
theorem x_cAna_countLets_67 (d : Nat) (hd : 1 ≤ d) (x1 : Int32) (x2 : Int32) (x3 : Int32) (x4 : Int32) (σ : jx_S) (t : ((Int32 × Int32 × Int32 × Int32 × jx_S) ⊕ (Int32 × jx_S))) (res : Option Value × jx_S) (h : p_cAna_countLets_67 x1 x2 x3 x4 σ = some t) (hK : kk_cAna_countLets_15 d t res) : jE d 88 67 [(0, .ref 7), (1, .int x1), (2, .int x2), (3, .int x3), (4, .int x4)] [] σ res := by
  unfold p_cAna_countLets_67 at h
  refine jE_blk (bs := [(.iinc 3 (1), 5, 2)]) (i := .iinc 4 (1)) (a1 := 5) (a2 := 2) (pc1 := 70) (l1 := [(3, .int (x3 + 1)), (0, .ref 7), (1, .int x1), (2, .int x2), (4, .int x4)]) (st1 := []) (σ1 := σ) (by decide +kernel) rfl (fun hC => ?_)
  exact jE_loc (l := [(0, .ref 7), (1, .int x1), (2, .int x2), (3, .int (x3 + 1)), (4, .int x4)]) (ks := [0, 1, 2, 3, 4]) rfl (by decide) ⟨rfl, rfl, rfl, rfl, rfl, trivial⟩ (x_cAna_countLets_70 d hd x1 x2 (x3 + 1) x4 σ _ res h hK)
def p_cAna_countLets_15_s (x1 : Int32) (x2 : Int32) (x3 : Int32) (x4 : Int32) (σ : jx_S) : Option ((Int32 × Int32 × Int32 × Int32 × jx_S) ⊕ (Int32 × jx_S)) := (if (jI_at 40 (σ.1 51) x1) < x4 then (Option.map Sum.inr (some ((x3, σ)))) else (if ¬ (jI_at 1201 (σ.1 23) x4) = (5 : Int32) then (p_cAna_countLets_70 x1 x2 x3 x4 σ) else (if x2 = 0 then (p_cAna_countLets_67 x1 x2 x3 x4 σ) else (if ¬ (jI_at 1201 (σ.1 39) x4) = (1 : Int32) then (p_cAna_countLets_70 x1 x2 x3 x4 σ) else (p_cAna_countLets_67 x1 x2 x3 x4 σ)))))
theorem x_cAna_countLets_15_s (d : Nat) (hd : 1 ≤ d) (x1 : Int32) (x2 : Int32) (x3 : Int32) (x4 : Int32) (σ : jx_S) (t : ((Int32 × Int32 × Int32 × Int32 × jx_S) ⊕ (Int32 × jx_S))) (res : Option Value × jx_S) (h : p_cAna_countLets_15_s x1 x2 x3 x4 σ = some t) (hK : kk_cAna_countLets_15 d t res) : jE d 88 15 [(0, .ref 7), (1, .int x1), (2, .int x2), (3, .int x3), (4, .int x4)] [] σ res := by
  unfold p_cAna_countLets_15_s at h
  refine jE_blk (bs := [(.iload 4, 0, 0), (.aload_n 0, 0, 0), (.getfield 34, 7, 1), (.getfield 80, 4, 5), (.iload_n 1, 0, 0)]) (i := .invokevirtual 73) (a1 := 136) (a2 := 0) (pc1 := 25) (l1 := [(0, .ref 7), (1, .int x1), (2, .int x2), (3, .int x3), (4, .int x4)]) (st1 := [.int x1, .ref 50, .int x4]) (σ1 := σ) (by decide +kernel) rfl (fun hC => ?_)
  refine jE_call (as := [.ref 50, .int x1]) (pc1 := 28) (st1 := [.int x4]) hC rfl (by decide) (by omega) (xI_at (d - 1) 50 40 x1 σ (by decide) rfl rfl) ?_
  refine jE_blk (bs := []) (i := .if_icmp .gt (48)) (a1 := 0) (a2 := 0) (pc1 := 28) (l1 := [(0, .ref 7), (1, .int x1), (2, .int x2), (3, .int x3), (4, .int x4)]) (st1 := [.int (jI_at 40 (σ.1 51) x1), .int x4]) (σ1 := σ) (by decide +kernel) rfl (fun hC => ?_)
  rcases Classical.em ((jI_at 40 (σ.1 51) x1) < x4) with hc | hc
  · rw [if_pos hc] at h
    refine jE_icT 76 hC (by decide) hc ?_
    obtain ⟨t9_1, h9_1, h8_1⟩ := Option.map_eq_some_iff.mp h
    clear h
    subst h8_1
    have h := h9_1
    clear h9_1
    refine jE_blk (bs := [(.iload_n 3, 0, 0)]) (i := .ireturn) (a1 := 0) (a2 := 0) (pc1 := 77) (l1 := [(0, .ref 7), (1, .int x1), (2, .int x2), (3, .int x3), (4, .int x4)]) (st1 := [.int x3]) (σ1 := σ) (by decide +kernel) rfl (fun hC => ?_)
    have h9 := Option.some.inj h
    subst h9
    have e9 : ((some (.int x3), σ) : Option Value × jx_S) = res := hK
    subst e9
    exact jE_ret hC rfl
  · rw [if_neg hc] at h
    refine jE_icF 76 hC (by decide) hc ?_
    refine jE_blk (bs := [(.aload_n 0, 0, 0), (.getfield 30, 7, 0), (.getfield 83, 3, 0), (.iload 4, 0, 0)]) (i := .invokevirtual 73) (a1 := 136) (a2 := 0) (pc1 := 40) (l1 := [(0, .ref 7), (1, .int x1), (2, .int x2), (3, .int x3), (4, .int x4)]) (st1 := [.int x4, .ref 22]) (σ1 := σ) (by decide +kernel) rfl (fun hC => ?_)
    refine jE_call (as := [.ref 22, .int x4]) (pc1 := 43) (st1 := []) hC rfl (by decide) (by omega) (xI_at (d - 1) 22 1201 x4 σ (by decide) rfl rfl) ?_
    refine jE_blk (bs := [(.iconst (5), 5, 0)]) (i := .if_icmp .ne (26)) (a1 := 0) (a2 := 0) (pc1 := 44) (l1 := [(0, .ref 7), (1, .int x1), (2, .int x2), (3, .int x3), (4, .int x4)]) (st1 := [.int (5 : Int32), .int (jI_at 1201 (σ.1 23) x4)]) (σ1 := σ) (by decide +kernel) rfl (fun hC => ?_)
    rcases Classical.em (¬ (jI_at 1201 (σ.1 23) x4) = (5 : Int32)) with hc | hc
    · rw [if_pos hc] at h
      refine jE_icT 70 hC (by decide) hc ?_
      exact jE_loc (l := [(0, .ref 7), (1, .int x1), (2, .int x2), (3, .int x3), (4, .int x4)]) (ks := [0, 1, 2, 3, 4]) rfl (by decide) ⟨rfl, rfl, rfl, rfl, rfl, trivial⟩ (x_cAna_countLets_70 d hd x1 x2 x3 x4 σ _ res h hK)
    · rw [if_neg hc] at h
      refine jE_icF 70 hC (by decide) hc ?_
      refine jE_blk (bs := [(.iload_n 2, 0, 0)]) (i := .ifCond .eq (19)) (a1 := 0) (a2 := 0) (pc1 := 48) (l1 := [(0, .ref 7), (1, .int x1), (2, .int x2), (3, .int x3), (4, .int x4)]) (st1 := [.int x2]) (σ1 := σ) (by decide +kernel) rfl (fun hC => ?_)
      rcases Classical.em (x2 = 0) with hc | hc
      · rw [if_pos hc] at h
        refine jE_ifT 67 hC (by decide) hc ?_
        exact jE_loc (l := [(0, .ref 7), (1, .int x1), (2, .int x2), (3, .int x3), (4, .int x4)]) (ks := [0, 1, 2, 3, 4]) rfl (by decide) ⟨rfl, rfl, rfl, rfl, rfl, trivial⟩ (x_cAna_countLets_67 d hd x1 x2 x3 x4 σ _ res h hK)
      · rw [if_neg hc] at h
        refine jE_ifF 67 hC (by decide) hc ?_
        refine jE_blk (bs := [(.aload_n 0, 0, 0), (.getfield 30, 7, 0), (.getfield 88, 3, 8), (.iload 4, 0, 0)]) (i := .invokevirtual 73) (a1 := 136) (a2 := 0) (pc1 := 60) (l1 := [(0, .ref 7), (1, .int x1), (2, .int x2), (3, .int x3), (4, .int x4)]) (st1 := [.int x4, .ref 38]) (σ1 := σ) (by decide +kernel) rfl (fun hC => ?_)
        refine jE_call (as := [.ref 38, .int x4]) (pc1 := 63) (st1 := []) hC rfl (by decide) (by omega) (xI_at (d - 1) 38 1201 x4 σ (by decide) rfl rfl) ?_
        refine jE_blk (bs := [(.iconst (1), 1, 0)]) (i := .if_icmp .ne (6)) (a1 := 0) (a2 := 0) (pc1 := 64) (l1 := [(0, .ref 7), (1, .int x1), (2, .int x2), (3, .int x3), (4, .int x4)]) (st1 := [.int (1 : Int32), .int (jI_at 1201 (σ.1 39) x4)]) (σ1 := σ) (by decide +kernel) rfl (fun hC => ?_)
        rcases Classical.em (¬ (jI_at 1201 (σ.1 39) x4) = (1 : Int32)) with hc | hc
        · rw [if_pos hc] at h
          refine jE_icT 70 hC (by decide) hc ?_
          exact jE_loc (l := [(0, .ref 7), (1, .int x1), (2, .int x2), (3, .int x3), (4, .int x4)]) (ks := [0, 1, 2, 3, 4]) rfl (by decide) ⟨rfl, rfl, rfl, rfl, rfl, trivial⟩ (x_cAna_countLets_70 d hd x1 x2 x3 x4 σ _ res h hK)
        · rw [if_neg hc] at h
          refine jE_icF 70 hC (by decide) hc ?_
          exact jE_loc (l := [(0, .ref 7), (1, .int x1), (2, .int x2), (3, .int x3), (4, .int x4)]) (ks := [0, 1, 2, 3, 4]) rfl (by decide) ⟨rfl, rfl, rfl, rfl, rfl, trivial⟩ (x_cAna_countLets_67 d hd x1 x2 x3 x4 σ _ res h hK)
def p_cAna_countLets_15 (x1 : Int32) (x2 : Int32) (x3 : Int32) (x4 : Int32) (σ : jx_S) : Option (Int32 × jx_S) := jx_loop 100000000 (fun s => p_cAna_countLets_15_s s.1 s.2.1 s.2.2.1 s.2.2.2.1 (s.2.2.2.2)) (x1, x2, x3, x4, σ)
theorem x_cAna_countLets_15 (d : Nat) (hd : 1 ≤ d) (x1 : Int32) (x2 : Int32) (x3 : Int32) (x4 : Int32) (σ : jx_S) (t : (Int32 × jx_S)) (res : Option Value × jx_S) (h : p_cAna_countLets_15 x1 x2 x3 x4 σ = some t) (hK : kkI t res) : jE d 88 15 [(0, .ref 7), (1, .int x1), (2, .int x2), (3, .int x3), (4, .int x4)] [] σ res := by
  refine jx_loop_ok (E := fun s t => ∀ res, kkI t res → jE d 88 15 [(0, .ref 7), (1, .int s.1), (2, .int s.2.1), (3, .int s.2.2.1), (4, .int s.2.2.2.1)] [] s.2.2.2.2 res) (fun s t hs => ?_) _ _ _ h res hK
  cases t with
  | inl s1 => exact fun b hb res hk => x_cAna_countLets_15_s d hd (s.1) (s.2.1) (s.2.2.1) (s.2.2.2.1) (s.2.2.2.2) _ res hs (hb res hk)
  | inr b => exact fun res hk => x_cAna_countLets_15_s d hd (s.1) (s.2.1) (s.2.2.1) (s.2.2.2.1) (s.2.2.2.2) _ res hs hk
def p_cAna_countLets (x1 : Int32) (x2 : Int32) (σ : jx_S) : Option (Int32 × jx_S) := (p_cAna_countLets_15 x1 x2 (0 : Int32) (jI_at 40 (σ.1 49) x1) σ)
theorem x_cAna_countLets (d : Nat) (hd : 1 ≤ d) (x1 : Int32) (x2 : Int32) (σ : jx_S) (t : (Int32 × jx_S)) (res : Option Value × jx_S) (h : p_cAna_countLets x1 x2 σ = some t) (hK : kkI t res) : jE d 88 0 [(0, .ref 7), (1, .int x1), (2, .int x2)] [] σ res := by
  unfold p_cAna_countLets at h
  refine jE_blk (bs := [(.iconst (0), 0, 0), (.istore_n 3, 5, 0), (.aload_n 0, 0, 0), (.getfield 34, 7, 1), (.getfield 77, 4, 4), (.iload_n 1, 0, 0)]) (i := .invokevirtual 73) (a1 := 136) (a2 := 0) (pc1 := 10) (l1 := [(3, .int (0 : Int32)), (0, .ref 7), (1, .int x1), (2, .int x2)]) (st1 := [.int x1, .ref 48]) (σ1 := σ) (by decide +kernel) rfl (fun hC => ?_)
  refine jE_call (as := [.ref 48, .int x1]) (pc1 := 13) (st1 := []) hC rfl (by decide) (by omega) (xI_at (d - 1) 48 40 x1 σ (by decide) rfl rfl) ?_
  refine jE_blk (bs := [(.istore 4, 5, 0)]) (i := .iload 4) (a1 := 0) (a2 := 0) (pc1 := 15) (l1 := [(4, .int (jI_at 40 (σ.1 49) x1)), (3, .int (0 : Int32)), (0, .ref 7), (1, .int x1), (2, .int x2)]) (st1 := []) (σ1 := σ) (by decide +kernel) rfl (fun hC => ?_)
  exact jE_loc (l := [(0, .ref 7), (1, .int x1), (2, .int x2), (3, .int (0 : Int32)), (4, .int (jI_at 40 (σ.1 49) x1))]) (ks := [0, 1, 2, 3, 4]) rfl (by decide) ⟨rfl, rfl, rfl, rfl, rfl, trivial⟩ (x_cAna_countLets_15 d hd x1 x2 (0 : Int32) (jI_at 40 (σ.1 49) x1) σ _ res h hK)
def p_cl_function (x1 : Int32) (x2 : Int32) (σ : jx_S) : Option (Int32 × jx_S) := (if (v_cl_hasFunction x1 σ) = 0 then none else (if x2 < 0 then none else (if x2 ≤ (6 : Int32) then (if x2 = 0 then (some (((jI_at 40 (σ.1 43) x1), σ))) else (if x2 = 1 then (some (((jI_at 40 (σ.1 45) x1), σ))) else (if x2 = 2 then (some (((jI_at 40 (σ.1 53) x1), σ))) else (if x2 = 3 then (some (((jI_at 40 (σ.1 47) x1), σ))) else (if x2 = 4 then ((p_cAna_countLets x1 (0 : Int32) σ).bind fun q1 => (some ((q1.1, q1.2)))) else (if x2 = 5 then ((p_cAna_countLets x1 (1 : Int32) σ).bind fun q2 => (some ((q2.1, q2.2)))) else (some (((jI_at 1201 (σ.1 17) (jI_at 40 (σ.1 41) x1)), σ))))))))) else none)))
theorem x_cl_function (d : Nat) (hd : 3 ≤ d) (x1 : Int32) (x2 : Int32) (σ : jx_S) (t : (Int32 × jx_S)) (res : Option Value × jx_S) (h : p_cl_function x1 x2 σ = some t) (hK : kkI t res) : jE d 5 0 [(0, .ref 0), (1, .int x1), (2, .int x2)] [] σ res := by
  unfold p_cl_function at h
  refine jE_blk (bs := [(.aload_n 0, 0, 0), (.iload_n 1, 0, 0)]) (i := .invokevirtual 136) (a1 := 16) (a2 := 0) (pc1 := 2) (l1 := [(0, .ref 0), (1, .int x1), (2, .int x2)]) (st1 := [.int x1, .ref 0]) (σ1 := σ) (by decide +kernel) rfl (fun hC => ?_)
  refine jE_call (as := [.ref 0, .int x1]) (pc1 := 5) (st1 := []) hC rfl (by decide) (by omega) (xv_cl_hasFunction (d - 1) (by omega) x1 σ) ?_
  refine jE_blk (bs := []) (i := .ifCond .eq (13)) (a1 := 0) (a2 := 0) (pc1 := 5) (l1 := [(0, .ref 0), (1, .int x1), (2, .int x2)]) (st1 := [.int (v_cl_hasFunction x1 σ)]) (σ1 := σ) (by decide +kernel) rfl (fun hC => ?_)
  rcases Classical.em ((v_cl_hasFunction x1 σ) = 0) with hc | hc
  · rw [if_pos hc] at h
    refine jE_ifT 18 hC (by decide) hc ?_
    cases h
  · rw [if_neg hc] at h
    refine jE_ifF 18 hC (by decide) hc ?_
    refine jE_blk (bs := [(.iload_n 2, 0, 0)]) (i := .ifCond .lt (9)) (a1 := 0) (a2 := 0) (pc1 := 9) (l1 := [(0, .ref 0), (1, .int x1), (2, .int x2)]) (st1 := [.int x2]) (σ1 := σ) (by decide +kernel) rfl (fun hC => ?_)
    rcases Classical.em (x2 < 0) with hc | hc
    · rw [if_pos hc] at h
      refine jE_ifT 18 hC (by decide) hc ?_
      cases h
    · rw [if_neg hc] at h
      refine jE_ifF 18 hC (by decide) hc ?_
      refine jE_blk (bs := [(.iload_n 2, 0, 0), (.bipush (6), 6, 0)]) (i := .if_icmp .le (13)) (a1 := 0) (a2 := 0) (pc1 := 15) (l1 := [(0, .ref 0), (1, .int x1), (2, .int x2)]) (st1 := [.int (6 : Int32), .int x2]) (σ1 := σ) (by decide +kernel) rfl (fun hC => ?_)
      rcases Classical.em (x2 ≤ (6 : Int32)) with hc | hc
      · rw [if_pos hc] at h
        refine jE_icT 28 hC (by decide) hc ?_
        refine jE_blk (bs := [(.iload_n 2, 0, 0)]) (i := .tableswitch (107) (0) (5) #[39, 51, 63, 75, 87, 97]) (a1 := 0) (a2 := 0) (pc1 := 29) (l1 := [(0, .ref 0), (1, .int x1), (2, .int x2)]) (st1 := [.int x2]) (σ1 := σ) (by decide +kernel) rfl (fun hC => ?_)
        rcases Classical.em (x2 = 0) with hc0 | hc0
        · rw [if_pos hc0] at h
          refine jE_tsw 68 0 hC hc0 (by decide +kernel) ?_
          refine jE_blk (bs := [(.aload_n 0, 0, 0), (.getfield 45, 0, 5), (.getfield 145, 4, 1), (.iload_n 1, 0, 0)]) (i := .invokevirtual 148) (a1 := 136) (a2 := 0) (pc1 := 76) (l1 := [(0, .ref 0), (1, .int x1), (2, .int x2)]) (st1 := [.int x1, .ref 42]) (σ1 := σ) (by decide +kernel) rfl (fun hC => ?_)
          refine jE_call (as := [.ref 42, .int x1]) (pc1 := 79) (st1 := []) hC rfl (by decide) (by omega) (xI_at (d - 1) 42 40 x1 σ (by decide) rfl rfl) ?_
          refine jE_blk (bs := []) (i := .ireturn) (a1 := 0) (a2 := 0) (pc1 := 79) (l1 := [(0, .ref 0), (1, .int x1), (2, .int x2)]) (st1 := [.int (jI_at 40 (σ.1 43) x1)]) (σ1 := σ) (by decide +kernel) rfl (fun hC => ?_)
          have h9 := Option.some.inj h
          subst h9
          have e9 : ((some (.int (jI_at 40 (σ.1 43) x1)), σ) : Option Value × jx_S) = res := hK
          subst e9
          exact jE_ret hC rfl
        · rw [if_neg hc0] at h
          rcases Classical.em (x2 = 1) with hc1 | hc1
          · rw [if_pos hc1] at h
            refine jE_tsw 80 1 hC hc1 (by decide +kernel) ?_
            refine jE_blk (bs := [(.aload_n 0, 0, 0), (.getfield 45, 0, 5), (.getfield 151, 4, 2), (.iload_n 1, 0, 0)]) (i := .invokevirtual 148) (a1 := 136) (a2 := 0) (pc1 := 88) (l1 := [(0, .ref 0), (1, .int x1), (2, .int x2)]) (st1 := [.int x1, .ref 44]) (σ1 := σ) (by decide +kernel) rfl (fun hC => ?_)
            refine jE_call (as := [.ref 44, .int x1]) (pc1 := 91) (st1 := []) hC rfl (by decide) (by omega) (xI_at (d - 1) 44 40 x1 σ (by decide) rfl rfl) ?_
            refine jE_blk (bs := []) (i := .ireturn) (a1 := 0) (a2 := 0) (pc1 := 91) (l1 := [(0, .ref 0), (1, .int x1), (2, .int x2)]) (st1 := [.int (jI_at 40 (σ.1 45) x1)]) (σ1 := σ) (by decide +kernel) rfl (fun hC => ?_)
            have h9 := Option.some.inj h
            subst h9
            have e9 : ((some (.int (jI_at 40 (σ.1 45) x1)), σ) : Option Value × jx_S) = res := hK
            subst e9
            exact jE_ret hC rfl
          · rw [if_neg hc1] at h
            rcases Classical.em (x2 = 2) with hc2 | hc2
            · rw [if_pos hc2] at h
              refine jE_tsw 92 2 hC hc2 (by decide +kernel) ?_
              refine jE_blk (bs := [(.aload_n 0, 0, 0), (.getfield 45, 0, 5), (.getfield 154, 4, 6), (.iload_n 1, 0, 0)]) (i := .invokevirtual 148) (a1 := 136) (a2 := 0) (pc1 := 100) (l1 := [(0, .ref 0), (1, .int x1), (2, .int x2)]) (st1 := [.int x1, .ref 52]) (σ1 := σ) (by decide +kernel) rfl (fun hC => ?_)
              refine jE_call (as := [.ref 52, .int x1]) (pc1 := 103) (st1 := []) hC rfl (by decide) (by omega) (xI_at (d - 1) 52 40 x1 σ (by decide) rfl rfl) ?_
              refine jE_blk (bs := []) (i := .ireturn) (a1 := 0) (a2 := 0) (pc1 := 103) (l1 := [(0, .ref 0), (1, .int x1), (2, .int x2)]) (st1 := [.int (jI_at 40 (σ.1 53) x1)]) (σ1 := σ) (by decide +kernel) rfl (fun hC => ?_)
              have h9 := Option.some.inj h
              subst h9
              have e9 : ((some (.int (jI_at 40 (σ.1 53) x1)), σ) : Option Value × jx_S) = res := hK
              subst e9
              exact jE_ret hC rfl
            · rw [if_neg hc2] at h
              rcases Classical.em (x2 = 3) with hc3 | hc3
              · rw [if_pos hc3] at h
                refine jE_tsw 104 3 hC hc3 (by decide +kernel) ?_
                refine jE_blk (bs := [(.aload_n 0, 0, 0), (.getfield 45, 0, 5), (.getfield 157, 4, 3), (.iload_n 1, 0, 0)]) (i := .invokevirtual 148) (a1 := 136) (a2 := 0) (pc1 := 112) (l1 := [(0, .ref 0), (1, .int x1), (2, .int x2)]) (st1 := [.int x1, .ref 46]) (σ1 := σ) (by decide +kernel) rfl (fun hC => ?_)
                refine jE_call (as := [.ref 46, .int x1]) (pc1 := 115) (st1 := []) hC rfl (by decide) (by omega) (xI_at (d - 1) 46 40 x1 σ (by decide) rfl rfl) ?_
                refine jE_blk (bs := []) (i := .ireturn) (a1 := 0) (a2 := 0) (pc1 := 115) (l1 := [(0, .ref 0), (1, .int x1), (2, .int x2)]) (st1 := [.int (jI_at 40 (σ.1 47) x1)]) (σ1 := σ) (by decide +kernel) rfl (fun hC => ?_)
                have h9 := Option.some.inj h
                subst h9
                have e9 : ((some (.int (jI_at 40 (σ.1 47) x1)), σ) : Option Value × jx_S) = res := hK
                subst e9
                exact jE_ret hC rfl
              · rw [if_neg hc3] at h
                rcases Classical.em (x2 = 4) with hc4 | hc4
                · rw [if_pos hc4] at h
                  refine jE_tsw 116 4 hC hc4 (by decide +kernel) ?_
                  refine jE_blk (bs := [(.aload_n 0, 0, 0), (.getfield 70, 0, 8), (.iload_n 1, 0, 0), (.iconst (0), 0, 0)]) (i := .invokevirtual 160) (a1 := 88) (a2 := 0) (pc1 := 122) (l1 := [(0, .ref 0), (1, .int x1), (2, .int x2)]) (st1 := [.int (0 : Int32), .int x1, .ref 7]) (σ1 := σ) (by decide +kernel) rfl (fun hC => ?_)
                  obtain ⟨q1, hq, h⟩ := Option.bind_eq_some_iff.mp h
                  refine jE_call (as := [.ref 7, .int x1, .int (0 : Int32)]) (pc1 := 125) (st1 := []) hC rfl (by decide) (by omega) (x_cAna_countLets (d - 1) (by omega) x1 (0 : Int32) σ q1 (some (.int q1.1), q1.2) hq rfl) ?_
                  refine jE_blk (bs := []) (i := .ireturn) (a1 := 0) (a2 := 0) (pc1 := 125) (l1 := [(0, .ref 0), (1, .int x1), (2, .int x2)]) (st1 := [.int q1.1]) (σ1 := q1.2) (by decide +kernel) rfl (fun hC => ?_)
                  have h9 := Option.some.inj h
                  subst h9
                  have e9 : ((some (.int q1.1), q1.2) : Option Value × jx_S) = res := hK
                  subst e9
                  exact jE_ret hC rfl
                · rw [if_neg hc4] at h
                  rcases Classical.em (x2 = 5) with hc5 | hc5
                  · rw [if_pos hc5] at h
                    refine jE_tsw 126 5 hC hc5 (by decide +kernel) ?_
                    refine jE_blk (bs := [(.aload_n 0, 0, 0), (.getfield 70, 0, 8), (.iload_n 1, 0, 0), (.iconst (1), 1, 0)]) (i := .invokevirtual 160) (a1 := 88) (a2 := 0) (pc1 := 132) (l1 := [(0, .ref 0), (1, .int x1), (2, .int x2)]) (st1 := [.int (1 : Int32), .int x1, .ref 7]) (σ1 := σ) (by decide +kernel) rfl (fun hC => ?_)
                    obtain ⟨q2, hq, h⟩ := Option.bind_eq_some_iff.mp h
                    refine jE_call (as := [.ref 7, .int x1, .int (1 : Int32)]) (pc1 := 135) (st1 := []) hC rfl (by decide) (by omega) (x_cAna_countLets (d - 1) (by omega) x1 (1 : Int32) σ q2 (some (.int q2.1), q2.2) hq rfl) ?_
                    refine jE_blk (bs := []) (i := .ireturn) (a1 := 0) (a2 := 0) (pc1 := 135) (l1 := [(0, .ref 0), (1, .int x1), (2, .int x2)]) (st1 := [.int q2.1]) (σ1 := q2.2) (by decide +kernel) rfl (fun hC => ?_)
                    have h9 := Option.some.inj h
                    subst h9
                    have e9 : ((some (.int q2.1), q2.2) : Option Value × jx_S) = res := hK
                    subst e9
                    exact jE_ret hC rfl
                  · rw [if_neg hc5] at h
                    refine jE_tswD 136 [0, 1, 2, 3, 4, 5] hC (by decide +kernel) ⟨hc0, hc1, hc2, hc3, hc4, hc5, trivial⟩ ?_
                    refine jE_blk (bs := [(.aload_n 0, 0, 0), (.getfield 31, 0, 3), (.getfield 164, 2, 1), (.aload_n 0, 0, 0), (.getfield 45, 0, 5), (.getfield 167, 4, 0), (.iload_n 1, 0, 0)]) (i := .invokevirtual 148) (a1 := 136) (a2 := 0) (pc1 := 151) (l1 := [(0, .ref 0), (1, .int x1), (2, .int x2)]) (st1 := [.int x1, .ref 40, .ref 16]) (σ1 := σ) (by decide +kernel) rfl (fun hC => ?_)
                    refine jE_call (as := [.ref 40, .int x1]) (pc1 := 154) (st1 := [.ref 16]) hC rfl (by decide) (by omega) (xI_at (d - 1) 40 40 x1 σ (by decide) rfl rfl) ?_
                    refine jE_blk (bs := []) (i := .invokevirtual 148) (a1 := 136) (a2 := 0) (pc1 := 154) (l1 := [(0, .ref 0), (1, .int x1), (2, .int x2)]) (st1 := [.int (jI_at 40 (σ.1 41) x1), .ref 16]) (σ1 := σ) (by decide +kernel) rfl (fun hC => ?_)
                    refine jE_call (as := [.ref 16, .int (jI_at 40 (σ.1 41) x1)]) (pc1 := 157) (st1 := []) hC rfl (by decide) (by omega) (xI_at (d - 1) 16 1201 (jI_at 40 (σ.1 41) x1) σ (by decide) rfl rfl) ?_
                    refine jE_blk (bs := []) (i := .ireturn) (a1 := 0) (a2 := 0) (pc1 := 157) (l1 := [(0, .ref 0), (1, .int x1), (2, .int x2)]) (st1 := [.int (jI_at 1201 (σ.1 17) (jI_at 40 (σ.1 41) x1))]) (σ1 := σ) (by decide +kernel) rfl (fun hC => ?_)
                    have h9 := Option.some.inj h
                    subst h9
                    have e9 : ((some (.int (jI_at 1201 (σ.1 17) (jI_at 40 (σ.1 41) x1))), σ) : Option Value × jx_S) = res := hK
                    subst e9
                    exact jE_ret hC rfl
      · rw [if_neg hc] at h
        refine jE_icF 28 hC (by decide) hc ?_
        cases h
def p_cl_parameter (x1 : Int32) (x2 : Int32) (x3 : Int32) (σ : jx_S) : Option (Int32 × jx_S) := (if (v_cl_hasFunction x1 σ) = 0 then none else (if x2 < 0 then none else (if (jI_at 40 (σ.1 43) x1) ≤ x2 then none else (if x3 < 0 then none else (if x3 ≤ (1 : Int32) then (if ¬ x3 = 0 then (some (((v_cFun_strictOf x1 x2 σ), σ))) else (some (((v_cFun_typeOf x1 x2 σ), σ)))) else none)))))
theorem x_cl_parameter (d : Nat) (hd : 3 ≤ d) (x1 : Int32) (x2 : Int32) (x3 : Int32) (σ : jx_S) (t : (Int32 × jx_S)) (res : Option Value × jx_S) (h : p_cl_parameter x1 x2 x3 σ = some t) (hK : kkI t res) : jE d 6 0 [(0, .ref 0), (1, .int x1), (2, .int x2), (3, .int x3)] [] σ res := by
  unfold p_cl_parameter at h
  refine jE_blk (bs := [(.aload_n 0, 0, 0), (.iload_n 1, 0, 0)]) (i := .invokevirtual 136) (a1 := 16) (a2 := 0) (pc1 := 2) (l1 := [(0, .ref 0), (1, .int x1), (2, .int x2), (3, .int x3)]) (st1 := [.int x1, .ref 0]) (σ1 := σ) (by decide +kernel) rfl (fun hC => ?_)
  refine jE_call (as := [.ref 0, .int x1]) (pc1 := 5) (st1 := []) hC rfl (by decide) (by omega) (xv_cl_hasFunction (d - 1) (by omega) x1 σ) ?_
  refine jE_blk (bs := []) (i := .ifCond .eq (31)) (a1 := 0) (a2 := 0) (pc1 := 5) (l1 := [(0, .ref 0), (1, .int x1), (2, .int x2), (3, .int x3)]) (st1 := [.int (v_cl_hasFunction x1 σ)]) (σ1 := σ) (by decide +kernel) rfl (fun hC => ?_)
  rcases Classical.em ((v_cl_hasFunction x1 σ) = 0) with hc | hc
  · rw [if_pos hc] at h
    refine jE_ifT 36 hC (by decide) hc ?_
    cases h
  · rw [if_neg hc] at h
    refine jE_ifF 36 hC (by decide) hc ?_
    refine jE_blk (bs := [(.iload_n 2, 0, 0)]) (i := .ifCond .lt (27)) (a1 := 0) (a2 := 0) (pc1 := 9) (l1 := [(0, .ref 0), (1, .int x1), (2, .int x2), (3, .int x3)]) (st1 := [.int x2]) (σ1 := σ) (by decide +kernel) rfl (fun hC => ?_)
    rcases Classical.em (x2 < 0) with hc | hc
    · rw [if_pos hc] at h
      refine jE_ifT 36 hC (by decide) hc ?_
      cases h
    · rw [if_neg hc] at h
      refine jE_ifF 36 hC (by decide) hc ?_
      refine jE_blk (bs := [(.iload_n 2, 0, 0), (.aload_n 0, 0, 0), (.getfield 45, 0, 5), (.getfield 145, 4, 1), (.iload_n 1, 0, 0)]) (i := .invokevirtual 148) (a1 := 136) (a2 := 0) (pc1 := 21) (l1 := [(0, .ref 0), (1, .int x1), (2, .int x2), (3, .int x3)]) (st1 := [.int x1, .ref 42, .int x2]) (σ1 := σ) (by decide +kernel) rfl (fun hC => ?_)
      refine jE_call (as := [.ref 42, .int x1]) (pc1 := 24) (st1 := [.int x2]) hC rfl (by decide) (by omega) (xI_at (d - 1) 42 40 x1 σ (by decide) rfl rfl) ?_
      refine jE_blk (bs := []) (i := .if_icmp .ge (12)) (a1 := 0) (a2 := 0) (pc1 := 24) (l1 := [(0, .ref 0), (1, .int x1), (2, .int x2), (3, .int x3)]) (st1 := [.int (jI_at 40 (σ.1 43) x1), .int x2]) (σ1 := σ) (by decide +kernel) rfl (fun hC => ?_)
      rcases Classical.em ((jI_at 40 (σ.1 43) x1) ≤ x2) with hc | hc
      · rw [if_pos hc] at h
        refine jE_icT 36 hC (by decide) hc ?_
        cases h
      · rw [if_neg hc] at h
        refine jE_icF 36 hC (by decide) hc ?_
        refine jE_blk (bs := [(.iload_n 3, 0, 0)]) (i := .ifCond .lt (8)) (a1 := 0) (a2 := 0) (pc1 := 28) (l1 := [(0, .ref 0), (1, .int x1), (2, .int x2), (3, .int x3)]) (st1 := [.int x3]) (σ1 := σ) (by decide +kernel) rfl (fun hC => ?_)
        rcases Classical.em (x3 < 0) with hc | hc
        · rw [if_pos hc] at h
          refine jE_ifT 36 hC (by decide) hc ?_
          cases h
        · rw [if_neg hc] at h
          refine jE_ifF 36 hC (by decide) hc ?_
          refine jE_blk (bs := [(.iload_n 3, 0, 0), (.iconst (1), 1, 0)]) (i := .if_icmp .le (13)) (a1 := 0) (a2 := 0) (pc1 := 33) (l1 := [(0, .ref 0), (1, .int x1), (2, .int x2), (3, .int x3)]) (st1 := [.int (1 : Int32), .int x3]) (σ1 := σ) (by decide +kernel) rfl (fun hC => ?_)
          rcases Classical.em (x3 ≤ (1 : Int32)) with hc | hc
          · rw [if_pos hc] at h
            refine jE_icT 46 hC (by decide) hc ?_
            refine jE_blk (bs := [(.iload_n 3, 0, 0)]) (i := .ifCond .ne (15)) (a1 := 0) (a2 := 0) (pc1 := 47) (l1 := [(0, .ref 0), (1, .int x1), (2, .int x2), (3, .int x3)]) (st1 := [.int x3]) (σ1 := σ) (by decide +kernel) rfl (fun hC => ?_)
            rcases Classical.em (¬ x3 = 0) with hc | hc
            · rw [if_pos hc] at h
              refine jE_ifT 62 hC (by decide) hc ?_
              refine jE_blk (bs := [(.aload_n 0, 0, 0), (.getfield 45, 0, 5), (.iload_n 1, 0, 0), (.iload_n 2, 0, 0)]) (i := .invokevirtual 176) (a1 := 41) (a2 := 0) (pc1 := 68) (l1 := [(0, .ref 0), (1, .int x1), (2, .int x2), (3, .int x3)]) (st1 := [.int x2, .int x1, .ref 4]) (σ1 := σ) (by decide +kernel) rfl (fun hC => ?_)
              refine jE_call (as := [.ref 4, .int x1, .int x2]) (pc1 := 71) (st1 := []) hC rfl (by decide) (by omega) (xv_cFun_strictOf (d - 1) (by omega) x1 x2 σ) ?_
              refine jE_blk (bs := []) (i := .ireturn) (a1 := 0) (a2 := 0) (pc1 := 71) (l1 := [(0, .ref 0), (1, .int x1), (2, .int x2), (3, .int x3)]) (st1 := [.int (v_cFun_strictOf x1 x2 σ)]) (σ1 := σ) (by decide +kernel) rfl (fun hC => ?_)
              have h9 := Option.some.inj h
              subst h9
              have e9 : ((some (.int (v_cFun_strictOf x1 x2 σ)), σ) : Option Value × jx_S) = res := hK
              subst e9
              exact jE_ret hC rfl
            · rw [if_neg hc] at h
              refine jE_ifF 62 hC (by decide) hc ?_
              refine jE_blk (bs := [(.aload_n 0, 0, 0), (.getfield 45, 0, 5), (.iload_n 1, 0, 0), (.iload_n 2, 0, 0)]) (i := .invokevirtual 172) (a1 := 40) (a2 := 0) (pc1 := 56) (l1 := [(0, .ref 0), (1, .int x1), (2, .int x2), (3, .int x3)]) (st1 := [.int x2, .int x1, .ref 4]) (σ1 := σ) (by decide +kernel) rfl (fun hC => ?_)
              refine jE_call (as := [.ref 4, .int x1, .int x2]) (pc1 := 59) (st1 := []) hC rfl (by decide) (by omega) (xv_cFun_typeOf (d - 1) (by omega) x1 x2 σ) ?_
              refine jE_blk (bs := [(.goto (12), 0, 0)]) (i := .ireturn) (a1 := 0) (a2 := 0) (pc1 := 71) (l1 := [(0, .ref 0), (1, .int x1), (2, .int x2), (3, .int x3)]) (st1 := [.int (v_cFun_typeOf x1 x2 σ)]) (σ1 := σ) (by decide +kernel) rfl (fun hC => ?_)
              have h9 := Option.some.inj h
              subst h9
              have e9 : ((some (.int (v_cFun_typeOf x1 x2 σ)), σ) : Option Value × jx_S) = res := hK
              subst e9
              exact jE_ret hC rfl
          · rw [if_neg hc] at h
            refine jE_icF 46 hC (by decide) hc ?_
            cases h
def p_cl_value (x1 : Int32) (x2 : Int32) (σ : jx_S) : Option (Int32 × jx_S) := (if (v_cl_hasFunction x1 σ) = 0 then none else (if x2 < 0 then none else (if x2 < (jI_at 40 (σ.1 53) x1) then (some (((v_cAna_pointOfCase x1 x2 σ), σ))) else none)))
theorem x_cl_value (d : Nat) (hd : 3 ≤ d) (x1 : Int32) (x2 : Int32) (σ : jx_S) (t : (Int32 × jx_S)) (res : Option Value × jx_S) (h : p_cl_value x1 x2 σ = some t) (hK : kkI t res) : jE d 7 0 [(0, .ref 0), (1, .int x1), (2, .int x2)] [] σ res := by
  unfold p_cl_value at h
  refine jE_blk (bs := [(.aload_n 0, 0, 0), (.iload_n 1, 0, 0)]) (i := .invokevirtual 136) (a1 := 16) (a2 := 0) (pc1 := 2) (l1 := [(0, .ref 0), (1, .int x1), (2, .int x2)]) (st1 := [.int x1, .ref 0]) (σ1 := σ) (by decide +kernel) rfl (fun hC => ?_)
  refine jE_call (as := [.ref 0, .int x1]) (pc1 := 5) (st1 := []) hC rfl (by decide) (by omega) (xv_cl_hasFunction (d - 1) (by omega) x1 σ) ?_
  refine jE_blk (bs := []) (i := .ifCond .eq (22)) (a1 := 0) (a2 := 0) (pc1 := 5) (l1 := [(0, .ref 0), (1, .int x1), (2, .int x2)]) (st1 := [.int (v_cl_hasFunction x1 σ)]) (σ1 := σ) (by decide +kernel) rfl (fun hC => ?_)
  rcases Classical.em ((v_cl_hasFunction x1 σ) = 0) with hc | hc
  · rw [if_pos hc] at h
    refine jE_ifT 27 hC (by decide) hc ?_
    cases h
  · rw [if_neg hc] at h
    refine jE_ifF 27 hC (by decide) hc ?_
    refine jE_blk (bs := [(.iload_n 2, 0, 0)]) (i := .ifCond .lt (18)) (a1 := 0) (a2 := 0) (pc1 := 9) (l1 := [(0, .ref 0), (1, .int x1), (2, .int x2)]) (st1 := [.int x2]) (σ1 := σ) (by decide +kernel) rfl (fun hC => ?_)
    rcases Classical.em (x2 < 0) with hc | hc
    · rw [if_pos hc] at h
      refine jE_ifT 27 hC (by decide) hc ?_
      cases h
    · rw [if_neg hc] at h
      refine jE_ifF 27 hC (by decide) hc ?_
      refine jE_blk (bs := [(.iload_n 2, 0, 0), (.aload_n 0, 0, 0), (.getfield 45, 0, 5), (.getfield 154, 4, 6), (.iload_n 1, 0, 0)]) (i := .invokevirtual 148) (a1 := 136) (a2 := 0) (pc1 := 21) (l1 := [(0, .ref 0), (1, .int x1), (2, .int x2)]) (st1 := [.int x1, .ref 52, .int x2]) (σ1 := σ) (by decide +kernel) rfl (fun hC => ?_)
      refine jE_call (as := [.ref 52, .int x1]) (pc1 := 24) (st1 := [.int x2]) hC rfl (by decide) (by omega) (xI_at (d - 1) 52 40 x1 σ (by decide) rfl rfl) ?_
      refine jE_blk (bs := []) (i := .if_icmp .lt (13)) (a1 := 0) (a2 := 0) (pc1 := 24) (l1 := [(0, .ref 0), (1, .int x1), (2, .int x2)]) (st1 := [.int (jI_at 40 (σ.1 53) x1), .int x2]) (σ1 := σ) (by decide +kernel) rfl (fun hC => ?_)
      rcases Classical.em (x2 < (jI_at 40 (σ.1 53) x1)) with hc | hc
      · rw [if_pos hc] at h
        refine jE_icT 37 hC (by decide) hc ?_
        refine jE_blk (bs := [(.aload_n 0, 0, 0), (.getfield 70, 0, 8), (.iload_n 1, 0, 0), (.iload_n 2, 0, 0)]) (i := .invokevirtual 181) (a1 := 87) (a2 := 0) (pc1 := 43) (l1 := [(0, .ref 0), (1, .int x1), (2, .int x2)]) (st1 := [.int x2, .int x1, .ref 7]) (σ1 := σ) (by decide +kernel) rfl (fun hC => ?_)
        refine jE_call (as := [.ref 7, .int x1, .int x2]) (pc1 := 46) (st1 := []) hC rfl (by decide) (by omega) (xv_cAna_pointOfCase (d - 1) (by omega) x1 x2 σ) ?_
        refine jE_blk (bs := []) (i := .ireturn) (a1 := 0) (a2 := 0) (pc1 := 46) (l1 := [(0, .ref 0), (1, .int x1), (2, .int x2)]) (st1 := [.int (v_cAna_pointOfCase x1 x2 σ)]) (σ1 := σ) (by decide +kernel) rfl (fun hC => ?_)
        have h9 := Option.some.inj h
        subst h9
        have e9 : ((some (.int (v_cAna_pointOfCase x1 x2 σ)), σ) : Option Value × jx_S) = res := hK
        subst e9
        exact jE_ret hC rfl
      · rw [if_neg hc] at h
        refine jE_icF 37 hC (by decide) hc ?_
        cases h
def kk_cl_isStrict_11 (d : Nat) (t : ((Int32 × Int32 × jx_S) ⊕ (Int32 × jx_S))) (res : Option Value × jx_S) : Prop := match t with
  | .inl s => jE d 9 11 [(0, .ref 0), (1, .int s.1), (2, .int s.2.1)] [] s.2.2 res
  | .inr t => kkI t res
def p_cl_isStrict_74 (x1 : Int32) (x2 : Int32) (σ : jx_S) : Option ((Int32 × Int32 × jx_S) ⊕ (Int32 × jx_S)) := (some (.inl (x1, (x2 + 1), σ)))
theorem x_cl_isStrict_74 (d : Nat) (hd : 2 ≤ d) (x1 : Int32) (x2 : Int32) (σ : jx_S) (t : ((Int32 × Int32 × jx_S) ⊕ (Int32 × jx_S))) (res : Option Value × jx_S) (h : p_cl_isStrict_74 x1 x2 σ = some t) (hK : kk_cl_isStrict_11 d t res) : jE d 9 74 [(0, .ref 0), (1, .int x1), (2, .int x2)] [] σ res := by
  unfold p_cl_isStrict_74 at h
  refine jE_blk (bs := [(.iinc 2 (1), 3, 2), (.goto (-66), 0, 0)]) (i := .iload_n 2) (a1 := 0) (a2 := 0) (pc1 := 11) (l1 := [(2, .int (x2 + 1)), (0, .ref 0), (1, .int x1)]) (st1 := []) (σ1 := σ) (by decide +kernel) rfl (fun hC => ?_)
  have h9 := Option.some.inj h
  subst h9
  exact jE_loc (l := [(0, .ref 0), (1, .int x1), (2, .int (x2 + 1))]) (ks := [0, 1, 2]) rfl (by decide) ⟨rfl, rfl, rfl, trivial⟩ hK
def p_cl_isStrict_11_s (x1 : Int32) (x2 : Int32) (σ : jx_S) : Option ((Int32 × Int32 × jx_S) ⊕ (Int32 × jx_S)) := (if (σ.1 3 9) < x2 then (Option.map Sum.inr (some (((-1 : Int32), σ)))) else (if ¬ (jI_at 1201 (σ.1 23) x2) = (5 : Int32) then (p_cl_isStrict_74 x1 x2 σ) else (if ¬ (jI_at 1201 (σ.1 17) (jI_at 1201 (σ.1 25) x2)) = x1 then (p_cl_isStrict_74 x1 x2 σ) else (Option.map Sum.inr (some (((jI_at 1201 (σ.1 39) x2), σ)))))))
theorem x_cl_isStrict_11_s (d : Nat) (hd : 2 ≤ d) (x1 : Int32) (x2 : Int32) (σ : jx_S) (t : ((Int32 × Int32 × jx_S) ⊕ (Int32 × jx_S))) (res : Option Value × jx_S) (h : p_cl_isStrict_11_s x1 x2 σ = some t) (hK : kk_cl_isStrict_11 d t res) : jE d 9 11 [(0, .ref 0), (1, .int x1), (2, .int x2)] [] σ res := by
  unfold p_cl_isStrict_11_s at h
  refine jE_blk (bs := [(.iload_n 2, 0, 0), (.aload_n 0, 0, 0), (.getfield 38, 0, 4), (.getfield 187, 3, 9)]) (i := .if_icmp .gt (61)) (a1 := 0) (a2 := 0) (pc1 := 19) (l1 := [(0, .ref 0), (1, .int x1), (2, .int x2)]) (st1 := [.int (σ.1 3 9), .int x2]) (σ1 := σ) (by decide +kernel) rfl (fun hC => ?_)
  rcases Classical.em ((σ.1 3 9) < x2) with hc | hc
  · rw [if_pos hc] at h
    refine jE_icT 80 hC (by decide) hc ?_
    obtain ⟨t9_1, h9_1, h8_1⟩ := Option.map_eq_some_iff.mp h
    clear h
    subst h8_1
    have h := h9_1
    clear h9_1
    refine jE_blk (bs := [(.iconst (-1), 1, 1)]) (i := .ireturn) (a1 := 0) (a2 := 0) (pc1 := 81) (l1 := [(0, .ref 0), (1, .int x1), (2, .int x2)]) (st1 := [.int (-1 : Int32)]) (σ1 := σ) (by decide +kernel) rfl (fun hC => ?_)
    have h9 := Option.some.inj h
    subst h9
    have e9 : ((some (.int (-1 : Int32)), σ) : Option Value × jx_S) = res := hK
    subst e9
    exact jE_ret hC rfl
  · rw [if_neg hc] at h
    refine jE_icF 80 hC (by decide) hc ?_
    refine jE_blk (bs := [(.aload_n 0, 0, 0), (.getfield 38, 0, 4), (.getfield 188, 3, 0), (.iload_n 2, 0, 0)]) (i := .invokevirtual 148) (a1 := 136) (a2 := 0) (pc1 := 30) (l1 := [(0, .ref 0), (1, .int x1), (2, .int x2)]) (st1 := [.int x2, .ref 22]) (σ1 := σ) (by decide +kernel) rfl (fun hC => ?_)
    refine jE_call (as := [.ref 22, .int x2]) (pc1 := 33) (st1 := []) hC rfl (by decide) (by omega) (xI_at (d - 1) 22 1201 x2 σ (by decide) rfl rfl) ?_
    refine jE_blk (bs := [(.iconst (5), 5, 0)]) (i := .if_icmp .ne (40)) (a1 := 0) (a2 := 0) (pc1 := 34) (l1 := [(0, .ref 0), (1, .int x1), (2, .int x2)]) (st1 := [.int (5 : Int32), .int (jI_at 1201 (σ.1 23) x2)]) (σ1 := σ) (by decide +kernel) rfl (fun hC => ?_)
    rcases Classical.em (¬ (jI_at 1201 (σ.1 23) x2) = (5 : Int32)) with hc | hc
    · rw [if_pos hc] at h
      refine jE_icT 74 hC (by decide) hc ?_
      exact jE_loc (l := [(0, .ref 0), (1, .int x1), (2, .int x2)]) (ks := [0, 1, 2]) rfl (by decide) ⟨rfl, rfl, rfl, trivial⟩ (x_cl_isStrict_74 d hd x1 x2 σ _ res h hK)
    · rw [if_neg hc] at h
      refine jE_icF 74 hC (by decide) hc ?_
      refine jE_blk (bs := [(.aload_n 0, 0, 0), (.getfield 31, 0, 3), (.getfield 164, 2, 1), (.aload_n 0, 0, 0), (.getfield 38, 0, 4), (.getfield 191, 3, 1), (.iload_n 2, 0, 0)]) (i := .invokevirtual 148) (a1 := 136) (a2 := 0) (pc1 := 52) (l1 := [(0, .ref 0), (1, .int x1), (2, .int x2)]) (st1 := [.int x2, .ref 24, .ref 16]) (σ1 := σ) (by decide +kernel) rfl (fun hC => ?_)
      refine jE_call (as := [.ref 24, .int x2]) (pc1 := 55) (st1 := [.ref 16]) hC rfl (by decide) (by omega) (xI_at (d - 1) 24 1201 x2 σ (by decide) rfl rfl) ?_
      refine jE_blk (bs := []) (i := .invokevirtual 148) (a1 := 136) (a2 := 0) (pc1 := 55) (l1 := [(0, .ref 0), (1, .int x1), (2, .int x2)]) (st1 := [.int (jI_at 1201 (σ.1 25) x2), .ref 16]) (σ1 := σ) (by decide +kernel) rfl (fun hC => ?_)
      refine jE_call (as := [.ref 16, .int (jI_at 1201 (σ.1 25) x2)]) (pc1 := 58) (st1 := []) hC rfl (by decide) (by omega) (xI_at (d - 1) 16 1201 (jI_at 1201 (σ.1 25) x2) σ (by decide) rfl rfl) ?_
      refine jE_blk (bs := [(.iload_n 1, 0, 0)]) (i := .if_icmp .ne (15)) (a1 := 0) (a2 := 0) (pc1 := 59) (l1 := [(0, .ref 0), (1, .int x1), (2, .int x2)]) (st1 := [.int x1, .int (jI_at 1201 (σ.1 17) (jI_at 1201 (σ.1 25) x2))]) (σ1 := σ) (by decide +kernel) rfl (fun hC => ?_)
      rcases Classical.em (¬ (jI_at 1201 (σ.1 17) (jI_at 1201 (σ.1 25) x2)) = x1) with hc | hc
      · rw [if_pos hc] at h
        refine jE_icT 74 hC (by decide) hc ?_
        exact jE_loc (l := [(0, .ref 0), (1, .int x1), (2, .int x2)]) (ks := [0, 1, 2]) rfl (by decide) ⟨rfl, rfl, rfl, trivial⟩ (x_cl_isStrict_74 d hd x1 x2 σ _ res h hK)
      · rw [if_neg hc] at h
        refine jE_icF 74 hC (by decide) hc ?_
        obtain ⟨t9_2, h9_2, h8_2⟩ := Option.map_eq_some_iff.mp h
        clear h
        subst h8_2
        have h := h9_2
        clear h9_2
        refine jE_blk (bs := [(.aload_n 0, 0, 0), (.getfield 38, 0, 4), (.getfield 194, 3, 8), (.iload_n 2, 0, 0)]) (i := .invokevirtual 148) (a1 := 136) (a2 := 0) (pc1 := 70) (l1 := [(0, .ref 0), (1, .int x1), (2, .int x2)]) (st1 := [.int x2, .ref 38]) (σ1 := σ) (by decide +kernel) rfl (fun hC => ?_)
        refine jE_call (as := [.ref 38, .int x2]) (pc1 := 73) (st1 := []) hC rfl (by decide) (by omega) (xI_at (d - 1) 38 1201 x2 σ (by decide) rfl rfl) ?_
        refine jE_blk (bs := []) (i := .ireturn) (a1 := 0) (a2 := 0) (pc1 := 73) (l1 := [(0, .ref 0), (1, .int x1), (2, .int x2)]) (st1 := [.int (jI_at 1201 (σ.1 39) x2)]) (σ1 := σ) (by decide +kernel) rfl (fun hC => ?_)
        have h9 := Option.some.inj h
        subst h9
        have e9 : ((some (.int (jI_at 1201 (σ.1 39) x2)), σ) : Option Value × jx_S) = res := hK
        subst e9
        exact jE_ret hC rfl
def p_cl_isStrict_11 (x1 : Int32) (x2 : Int32) (σ : jx_S) : Option (Int32 × jx_S) := jx_loop 100000000 (fun s => p_cl_isStrict_11_s s.1 s.2.1 (s.2.2)) (x1, x2, σ)
theorem x_cl_isStrict_11 (d : Nat) (hd : 2 ≤ d) (x1 : Int32) (x2 : Int32) (σ : jx_S) (t : (Int32 × jx_S)) (res : Option Value × jx_S) (h : p_cl_isStrict_11 x1 x2 σ = some t) (hK : kkI t res) : jE d 9 11 [(0, .ref 0), (1, .int x1), (2, .int x2)] [] σ res := by
  refine jx_loop_ok (E := fun s t => ∀ res, kkI t res → jE d 9 11 [(0, .ref 0), (1, .int s.1), (2, .int s.2.1)] [] s.2.2 res) (fun s t hs => ?_) _ _ _ h res hK
  cases t with
  | inl s1 => exact fun b hb res hk => x_cl_isStrict_11_s d hd (s.1) (s.2.1) (s.2.2) _ res hs (hb res hk)
  | inr b => exact fun res hk => x_cl_isStrict_11_s d hd (s.1) (s.2.1) (s.2.2) _ res hs hk
def p_cl_isStrict (x1 : Int32) (σ : jx_S) : Option (Int32 × jx_S) := (if ¬ (v_cl_isUsable σ) = 0 then (p_cl_isStrict_11 x1 (1 : Int32) σ) else (some (((-1 : Int32), σ))))
theorem x_cl_isStrict (d : Nat) (hd : 2 ≤ d) (x1 : Int32) (σ : jx_S) (t : (Int32 × jx_S)) (res : Option Value × jx_S) (h : p_cl_isStrict x1 σ = some t) (hK : kkI t res) : jE d 9 0 [(0, .ref 0), (1, .int x1)] [] σ res := by
  unfold p_cl_isStrict at h
  refine jE_blk (bs := [(.aload_n 0, 0, 0)]) (i := .invokevirtual 133) (a1 := 15) (a2 := 0) (pc1 := 1) (l1 := [(0, .ref 0), (1, .int x1)]) (st1 := [.ref 0]) (σ1 := σ) (by decide +kernel) rfl (fun hC => ?_)
  refine jE_call (as := [.ref 0]) (pc1 := 4) (st1 := []) hC rfl (by decide) (by omega) (xv_cl_isUsable (d - 1) (by omega) σ) ?_
  refine jE_blk (bs := []) (i := .ifCond .ne (5)) (a1 := 0) (a2 := 0) (pc1 := 4) (l1 := [(0, .ref 0), (1, .int x1)]) (st1 := [.int (v_cl_isUsable σ)]) (σ1 := σ) (by decide +kernel) rfl (fun hC => ?_)
  rcases Classical.em (¬ (v_cl_isUsable σ) = 0) with hc | hc
  · rw [if_pos hc] at h
    refine jE_ifT 9 hC (by decide) hc ?_
    refine jE_blk (bs := [(.iconst (1), 1, 0), (.istore_n 2, 3, 0)]) (i := .iload_n 2) (a1 := 0) (a2 := 0) (pc1 := 11) (l1 := [(2, .int (1 : Int32)), (0, .ref 0), (1, .int x1)]) (st1 := []) (σ1 := σ) (by decide +kernel) rfl (fun hC => ?_)
    exact jE_loc (l := [(0, .ref 0), (1, .int x1), (2, .int (1 : Int32))]) (ks := [0, 1, 2]) rfl (by decide) ⟨rfl, rfl, rfl, trivial⟩ (x_cl_isStrict_11 d hd x1 (1 : Int32) σ _ res h hK)
  · rw [if_neg hc] at h
    refine jE_ifF 9 hC (by decide) hc ?_
    refine jE_blk (bs := [(.iconst (-1), 1, 1)]) (i := .ireturn) (a1 := 0) (a2 := 0) (pc1 := 8) (l1 := [(0, .ref 0), (1, .int x1)]) (st1 := [.int (-1 : Int32)]) (σ1 := σ) (by decide +kernel) rfl (fun hC => ?_)
    have h9 := Option.some.inj h
    subst h9
    have e9 : ((some (.int (-1 : Int32)), σ) : Option Value × jx_S) = res := hK
    subst e9
    exact jE_ret hC rfl
def p_cl_argument (x1 : Int32) (σ : jx_S) : Option (Int32 × jx_S) := (if (σ.1 0 11) < (8 : Int32) then (some ((((σ.1 0 11) + (1 : Int32)), (jx_i (jI_put 8 σ 13 (σ.1 0 11) x1) 0 11 ((σ.1 0 11) + (1 : Int32)))))) else none)
theorem x_cl_argument (d : Nat) (hd : 1 ≤ d) (x1 : Int32) (σ : jx_S) (t : (Int32 × jx_S)) (res : Option Value × jx_S) (h : p_cl_argument x1 σ = some t) (hK : kkI t res) : jE d 10 0 [(0, .ref 0), (1, .int x1)] [] σ res := by
  unfold p_cl_argument at h
  refine jE_blk (bs := [(.aload_n 0, 0, 0), (.getfield 197, 0, 11), (.bipush (8), 8, 0)]) (i := .if_icmp .lt (13)) (a1 := 0) (a2 := 0) (pc1 := 6) (l1 := [(0, .ref 0), (1, .int x1)]) (st1 := [.int (8 : Int32), .int (σ.1 0 11)]) (σ1 := σ) (by decide +kernel) rfl (fun hC => ?_)
  rcases Classical.em ((σ.1 0 11) < (8 : Int32)) with hc | hc
  · rw [if_pos hc] at h
    refine jE_icT 19 hC (by decide) hc ?_
    refine jE_blk (bs := [(.aload_n 0, 0, 0), (.getfield 18, 0, 1), (.aload_n 0, 0, 0), (.getfield 197, 0, 11), (.iload_n 1, 0, 0)]) (i := .invokevirtual 94) (a1 := 137) (a2 := 0) (pc1 := 28) (l1 := [(0, .ref 0), (1, .int x1)]) (st1 := [.int x1, .int (σ.1 0 11), .ref 12]) (σ1 := σ) (by decide +kernel) rfl (fun hC => ?_)
    refine jE_call (as := [.ref 12, .int (σ.1 0 11), .int x1]) (pc1 := 31) (st1 := []) hC rfl (by decide) (by omega) (xI_put (d - 1) 12 8 (σ.1 0 11) x1 σ (by decide) rfl rfl) ?_
    refine jE_blk (bs := [(.aload_n 0, 0, 0), (.dup, 0, 0), (.getfield 197, 0, 11), (.iconst (1), 1, 0), (.iadd, 0, 0), (.putfield 197, 0, 11), (.aload_n 0, 0, 0), (.getfield 197, 0, 11)]) (i := .ireturn) (a1 := 0) (a2 := 0) (pc1 := 45) (l1 := [(0, .ref 0), (1, .int x1)]) (st1 := [.int ((σ.1 0 11) + (1 : Int32))]) (σ1 := (jx_i (jI_put 8 σ 13 (σ.1 0 11) x1) 0 11 ((σ.1 0 11) + (1 : Int32)))) (by decide +kernel) rfl (fun hC => ?_)
    have h9 := Option.some.inj h
    subst h9
    have e9 : ((some (.int ((σ.1 0 11) + (1 : Int32))), (jx_i (jI_put 8 σ 13 (σ.1 0 11) x1) 0 11 ((σ.1 0 11) + (1 : Int32)))) : Option Value × jx_S) = res := hK
    subst e9
    exact jE_ret hC rfl
  · rw [if_neg hc] at h
    refine jE_icF 19 hC (by decide) hc ?_
    cases h
def kk_cFun_takesInts_16 (d : Nat) (t : ((Int32 × Int32 × Int32 × jx_S) ⊕ (Int32 × jx_S))) (res : Option Value × jx_S) : Prop := match t with
  | .inl s => jE d 42 16 [(0, .ref 4), (1, .int s.1), (2, .int s.2.1), (3, .int s.2.2.1)] [] s.2.2.2 res
  | .inr t => kkI t res
def p_cFun_takesInts_16_s (x1 : Int32) (x2 : Int32) (x3 : Int32) (σ : jx_S) : Option ((Int32 × Int32 × Int32 × jx_S) ⊕ (Int32 × jx_S)) := (if x2 ≤ x3 then (Option.map Sum.inr (some (((1 : Int32), σ)))) else (if (v_cFun_typeOf x1 x3 σ) = 0 then (some (.inl (x1, x2, (x3 + 1), σ))) else (Option.map Sum.inr (some (((0 : Int32), σ))))))
theorem x_cFun_takesInts_16_s (d : Nat) (hd : 2 ≤ d) (x1 : Int32) (x2 : Int32) (x3 : Int32) (σ : jx_S) (t : ((Int32 × Int32 × Int32 × jx_S) ⊕ (Int32 × jx_S))) (res : Option Value × jx_S) (h : p_cFun_takesInts_16_s x1 x2 x3 σ = some t) (hK : kk_cFun_takesInts_16 d t res) : jE d 42 16 [(0, .ref 4), (1, .int x1), (2, .int x2), (3, .int x3)] [] σ res := by
  unfold p_cFun_takesInts_16_s at h
  refine jE_blk (bs := [(.iload_n 3, 0, 0), (.iload_n 2, 0, 0)]) (i := .if_icmp .ge (20)) (a1 := 0) (a2 := 0) (pc1 := 18) (l1 := [(0, .ref 4), (1, .int x1), (2, .int x2), (3, .int x3)]) (st1 := [.int x2, .int x3]) (σ1 := σ) (by decide +kernel) rfl (fun hC => ?_)
  rcases Classical.em (x2 ≤ x3) with hc | hc
  · rw [if_pos hc] at h
    refine jE_icT 38 hC (by decide) hc ?_
    obtain ⟨t9_1, h9_1, h8_1⟩ := Option.map_eq_some_iff.mp h
    clear h
    subst h8_1
    have h := h9_1
    clear h9_1
    refine jE_blk (bs := [(.iconst (1), 1, 0)]) (i := .ireturn) (a1 := 1) (a2 := 0) (pc1 := 39) (l1 := [(0, .ref 4), (1, .int x1), (2, .int x2), (3, .int x3)]) (st1 := [.int (1 : Int32)]) (σ1 := σ) (by decide +kernel) rfl (fun hC => ?_)
    have h9 := Option.some.inj h
    subst h9
    have e9 : ((some (.int (1 : Int32)), σ) : Option Value × jx_S) = res := hK
    subst e9
    exact jE_ret hC rfl
  · rw [if_neg hc] at h
    refine jE_icF 38 hC (by decide) hc ?_
    refine jE_blk (bs := [(.aload_n 0, 0, 0), (.iload_n 1, 0, 0), (.iload_n 3, 0, 0)]) (i := .invokevirtual 63) (a1 := 40) (a2 := 0) (pc1 := 24) (l1 := [(0, .ref 4), (1, .int x1), (2, .int x2), (3, .int x3)]) (st1 := [.int x3, .int x1, .ref 4]) (σ1 := σ) (by decide +kernel) rfl (fun hC => ?_)
    refine jE_call (as := [.ref 4, .int x1, .int x3]) (pc1 := 27) (st1 := []) hC rfl (by decide) (by omega) (xv_cFun_typeOf (d - 1) (by omega) x1 x3 σ) ?_
    refine jE_blk (bs := []) (i := .ifCond .eq (5)) (a1 := 0) (a2 := 0) (pc1 := 27) (l1 := [(0, .ref 4), (1, .int x1), (2, .int x2), (3, .int x3)]) (st1 := [.int (v_cFun_typeOf x1 x3 σ)]) (σ1 := σ) (by decide +kernel) rfl (fun hC => ?_)
    rcases Classical.em ((v_cFun_typeOf x1 x3 σ) = 0) with hc | hc
    · rw [if_pos hc] at h
      refine jE_ifT 32 hC (by decide) hc ?_
      refine jE_blk (bs := [(.iinc 3 (1), 4, 2), (.goto (-19), 0, 0)]) (i := .iload_n 3) (a1 := 0) (a2 := 0) (pc1 := 16) (l1 := [(3, .int (x3 + 1)), (0, .ref 4), (1, .int x1), (2, .int x2)]) (st1 := []) (σ1 := σ) (by decide +kernel) rfl (fun hC => ?_)
      have h9 := Option.some.inj h
      subst h9
      exact jE_loc (l := [(0, .ref 4), (1, .int x1), (2, .int x2), (3, .int (x3 + 1))]) (ks := [0, 1, 2, 3]) rfl (by decide) ⟨rfl, rfl, rfl, rfl, trivial⟩ hK
    · rw [if_neg hc] at h
      refine jE_ifF 32 hC (by decide) hc ?_
      obtain ⟨t9_2, h9_2, h8_2⟩ := Option.map_eq_some_iff.mp h
      clear h
      subst h8_2
      have h := h9_2
      clear h9_2
      refine jE_blk (bs := [(.iconst (0), 0, 0)]) (i := .ireturn) (a1 := 1) (a2 := 0) (pc1 := 31) (l1 := [(0, .ref 4), (1, .int x1), (2, .int x2), (3, .int x3)]) (st1 := [.int (0 : Int32)]) (σ1 := σ) (by decide +kernel) rfl (fun hC => ?_)
      have h9 := Option.some.inj h
      subst h9
      have e9 : ((some (.int (0 : Int32)), σ) : Option Value × jx_S) = res := hK
      subst e9
      exact jE_ret hC rfl
def p_cFun_takesInts_16 (x1 : Int32) (x2 : Int32) (x3 : Int32) (σ : jx_S) : Option (Int32 × jx_S) := jx_loop 100000000 (fun s => p_cFun_takesInts_16_s s.1 s.2.1 s.2.2.1 (s.2.2.2)) (x1, x2, x3, σ)
theorem x_cFun_takesInts_16 (d : Nat) (hd : 2 ≤ d) (x1 : Int32) (x2 : Int32) (x3 : Int32) (σ : jx_S) (t : (Int32 × jx_S)) (res : Option Value × jx_S) (h : p_cFun_takesInts_16 x1 x2 x3 σ = some t) (hK : kkI t res) : jE d 42 16 [(0, .ref 4), (1, .int x1), (2, .int x2), (3, .int x3)] [] σ res := by
  refine jx_loop_ok (E := fun s t => ∀ res, kkI t res → jE d 42 16 [(0, .ref 4), (1, .int s.1), (2, .int s.2.1), (3, .int s.2.2.1)] [] s.2.2.2 res) (fun s t hs => ?_) _ _ _ h res hK
  cases t with
  | inl s1 => exact fun b hb res hk => x_cFun_takesInts_16_s d hd (s.1) (s.2.1) (s.2.2.1) (s.2.2.2) _ res hs (hb res hk)
  | inr b => exact fun res hk => x_cFun_takesInts_16_s d hd (s.1) (s.2.1) (s.2.2.1) (s.2.2.2) _ res hs hk
def p_cFun_takesInts (x1 : Int32) (x2 : Int32) (σ : jx_S) : Option (Int32 × jx_S) := (if (jI_at 40 (σ.1 43) x1) = x2 then (p_cFun_takesInts_16 x1 x2 (0 : Int32) σ) else (some (((0 : Int32), σ))))
theorem x_cFun_takesInts (d : Nat) (hd : 2 ≤ d) (x1 : Int32) (x2 : Int32) (σ : jx_S) (t : (Int32 × jx_S)) (res : Option Value × jx_S) (h : p_cFun_takesInts x1 x2 σ = some t) (hK : kkI t res) : jE d 42 0 [(0, .ref 4), (1, .int x1), (2, .int x2)] [] σ res := by
  unfold p_cFun_takesInts at h
  refine jE_blk (bs := [(.aload_n 0, 0, 0), (.getfield 20, 4, 1), (.iload_n 1, 0, 0)]) (i := .invokevirtual 55) (a1 := 136) (a2 := 0) (pc1 := 5) (l1 := [(0, .ref 4), (1, .int x1), (2, .int x2)]) (st1 := [.int x1, .ref 42]) (σ1 := σ) (by decide +kernel) rfl (fun hC => ?_)
  refine jE_call (as := [.ref 42, .int x1]) (pc1 := 8) (st1 := []) hC rfl (by decide) (by omega) (xI_at (d - 1) 42 40 x1 σ (by decide) rfl rfl) ?_
  refine jE_blk (bs := [(.iload_n 2, 0, 0)]) (i := .if_icmp .eq (5)) (a1 := 0) (a2 := 0) (pc1 := 9) (l1 := [(0, .ref 4), (1, .int x1), (2, .int x2)]) (st1 := [.int x2, .int (jI_at 40 (σ.1 43) x1)]) (σ1 := σ) (by decide +kernel) rfl (fun hC => ?_)
  rcases Classical.em ((jI_at 40 (σ.1 43) x1) = x2) with hc | hc
  · rw [if_pos hc] at h
    refine jE_icT 14 hC (by decide) hc ?_
    refine jE_blk (bs := [(.iconst (0), 0, 0), (.istore_n 3, 4, 0)]) (i := .iload_n 3) (a1 := 0) (a2 := 0) (pc1 := 16) (l1 := [(3, .int (0 : Int32)), (0, .ref 4), (1, .int x1), (2, .int x2)]) (st1 := []) (σ1 := σ) (by decide +kernel) rfl (fun hC => ?_)
    exact jE_loc (l := [(0, .ref 4), (1, .int x1), (2, .int x2), (3, .int (0 : Int32))]) (ks := [0, 1, 2, 3]) rfl (by decide) ⟨rfl, rfl, rfl, rfl, trivial⟩ (x_cFun_takesInts_16 d hd x1 x2 (0 : Int32) σ _ res h hK)
  · rw [if_neg hc] at h
    refine jE_icF 14 hC (by decide) hc ?_
    refine jE_blk (bs := [(.iconst (0), 0, 0)]) (i := .ireturn) (a1 := 1) (a2 := 0) (pc1 := 13) (l1 := [(0, .ref 4), (1, .int x1), (2, .int x2)]) (st1 := [.int (0 : Int32)]) (σ1 := σ) (by decide +kernel) rfl (fun hC => ?_)
    have h9 := Option.some.inj h
    subst h9
    have e9 : ((some (.int (0 : Int32)), σ) : Option Value × jx_S) = res := hK
    subst e9
    exact jE_ret hC rfl
def p_cHea_clear (σ : jx_S) : Option jx_S := (some ((jx_i (jx_i (jx_i (jx_i (jx_i (jx_i σ 9 11 (0 : Int32)) 9 12 (0 : Int32)) 9 13 (0 : Int32)) 9 14 (0 : Int32)) 9 15 (0 : Int32)) 9 16 (0 : Int32))))
theorem x_cHea_clear (d : Nat) (hd : 0 ≤ d) (σ : jx_S) (t : jx_S) (res : Option Value × jx_S) (h : p_cHea_clear σ = some t) (hK : kkV t res) : jE d 132 0 [(0, .ref 9)] [] σ res := by
  unfold p_cHea_clear at h
  refine jE_blk (bs := [(.aload_n 0, 0, 0), (.iconst (0), 0, 0), (.putfield 54, 9, 11), (.aload_n 0, 0, 0), (.iconst (0), 0, 0), (.putfield 58, 9, 12), (.aload_n 0, 0, 0), (.iconst (0), 0, 0), (.putfield 61, 9, 13), (.aload_n 0, 0, 0), (.iconst (0), 0, 0), (.putfield 64, 9, 14), (.aload_n 0, 0, 0), (.iconst (0), 0, 0), (.putfield 67, 9, 15), (.aload_n 0, 0, 0), (.iconst (0), 0, 0), (.putfield 70, 9, 16)]) (i := .return_) (a1 := 0) (a2 := 0) (pc1 := 30) (l1 := [(0, .ref 9)]) (st1 := []) (σ1 := (jx_i (jx_i (jx_i (jx_i (jx_i (jx_i σ 9 11 (0 : Int32)) 9 12 (0 : Int32)) 9 13 (0 : Int32)) 9 14 (0 : Int32)) 9 15 (0 : Int32)) 9 16 (0 : Int32))) (by decide +kernel) rfl (fun hC => ?_)
  have h9 := Option.some.inj h
  subst h9
  have e9 : ((none, (jx_i (jx_i (jx_i (jx_i (jx_i (jx_i σ 9 11 (0 : Int32)) 9 12 (0 : Int32)) 9 13 (0 : Int32)) 9 14 (0 : Int32)) 9 15 (0 : Int32)) 9 16 (0 : Int32))) : Option Value × jx_S) = res := hK
  subst e9
  exact jE_ret hC rfl
def p_cMac_begin (x1 : Int32) (x2 : Int32) (σ : jx_S) : Option jx_S := (if ¬ (σ.1 8 11) = (250 : Int32) then (if ¬ (jI_at 10 (σ.1 71) (0 : Int32)) = (σ.1 8 12) then (some ((jI_put 10 (jI_put 10 (jx_i (jI_put 250 (jI_put 250 (jI_put 250 σ 75 (σ.1 8 11) x1) 77 (σ.1 8 11) x2) 79 (σ.1 8 11) (0 : Int32)) 8 11 ((σ.1 8 11) + (1 : Int32))) 71 (0 : Int32) ((jI_at 10 (σ.1 71) (0 : Int32)) + (1 : Int32))) 71 (4 : Int32) (if ((σ.1 8 11) + (1 : Int32)) < (jI_at 10 (jI_up 10 (σ.1 71) (0 : Int32) ((jI_at 10 (σ.1 71) (0 : Int32)) + (1 : Int32))) (4 : Int32)) then (jI_at 10 (jI_up 10 (σ.1 71) (0 : Int32) ((jI_at 10 (σ.1 71) (0 : Int32)) + (1 : Int32))) (4 : Int32)) else ((σ.1 8 11) + (1 : Int32)))))) else (some ((jx_i σ 8 14 (3 : Int32))))) else (some ((jx_i σ 8 14 (4 : Int32)))))
theorem x_cMac_begin (d : Nat) (hd : 1 ≤ d) (x1 : Int32) (x2 : Int32) (σ : jx_S) (t : jx_S) (res : Option Value × jx_S) (h : p_cMac_begin x1 x2 σ = some t) (hK : kkV t res) : jE d 108 0 [(0, .ref 8), (1, .int x1), (2, .int x2)] [] σ res := by
  unfold p_cMac_begin at h
  refine jE_blk (bs := [(.aload_n 0, 0, 0), (.getfield 65, 8, 11), (.sipush (250), 250, 0)]) (i := .if_icmp .ne (11)) (a1 := 0) (a2 := 0) (pc1 := 7) (l1 := [(0, .ref 8), (1, .int x1), (2, .int x2)]) (st1 := [.int (250 : Int32), .int (σ.1 8 11)]) (σ1 := σ) (by decide +kernel) rfl (fun hC => ?_)
  rcases Classical.em (¬ (σ.1 8 11) = (250 : Int32)) with hc | hc
  · rw [if_pos hc] at h
    refine jE_icT 18 hC (by decide) hc ?_
    refine jE_blk (bs := [(.aload_n 0, 0, 0), (.getfield 14, 8, 0), (.iconst (0), 0, 0)]) (i := .invokevirtual 90) (a1 := 136) (a2 := 0) (pc1 := 23) (l1 := [(0, .ref 8), (1, .int x1), (2, .int x2)]) (st1 := [.int (0 : Int32), .ref 70]) (σ1 := σ) (by decide +kernel) rfl (fun hC => ?_)
    refine jE_call (as := [.ref 70, .int (0 : Int32)]) (pc1 := 26) (st1 := []) hC rfl (by decide) (by omega) (xI_at (d - 1) 70 10 (0 : Int32) σ (by decide) rfl rfl) ?_
    refine jE_blk (bs := [(.aload_n 0, 0, 0), (.getfield 69, 8, 12)]) (i := .if_icmp .ne (11)) (a1 := 0) (a2 := 0) (pc1 := 30) (l1 := [(0, .ref 8), (1, .int x1), (2, .int x2)]) (st1 := [.int (σ.1 8 12), .int (jI_at 10 (σ.1 71) (0 : Int32))]) (σ1 := σ) (by decide +kernel) rfl (fun hC => ?_)
    rcases Classical.em (¬ (jI_at 10 (σ.1 71) (0 : Int32)) = (σ.1 8 12)) with hc | hc
    · rw [if_pos hc] at h
      refine jE_icT 41 hC (by decide) hc ?_
      refine jE_blk (bs := [(.aload_n 0, 0, 0), (.getfield 30, 8, 6), (.aload_n 0, 0, 0), (.getfield 65, 8, 11), (.iload_n 1, 0, 0)]) (i := .invokevirtual 121) (a1 := 137) (a2 := 0) (pc1 := 50) (l1 := [(0, .ref 8), (1, .int x1), (2, .int x2)]) (st1 := [.int x1, .int (σ.1 8 11), .ref 74]) (σ1 := σ) (by decide +kernel) rfl (fun hC => ?_)
      refine jE_call (as := [.ref 74, .int (σ.1 8 11), .int x1]) (pc1 := 53) (st1 := []) hC rfl (by decide) (by omega) (xI_put (d - 1) 74 250 (σ.1 8 11) x1 σ (by decide) rfl rfl) ?_
      refine jE_blk (bs := [(.aload_n 0, 0, 0), (.getfield 33, 8, 7), (.aload_n 0, 0, 0), (.getfield 65, 8, 11), (.iload_n 2, 0, 0)]) (i := .invokevirtual 121) (a1 := 137) (a2 := 0) (pc1 := 62) (l1 := [(0, .ref 8), (1, .int x1), (2, .int x2)]) (st1 := [.int x2, .int (σ.1 8 11), .ref 76]) (σ1 := (jI_put 250 σ 75 (σ.1 8 11) x1)) (by decide +kernel) rfl (fun hC => ?_)
      refine jE_call (as := [.ref 76, .int (σ.1 8 11), .int x2]) (pc1 := 65) (st1 := []) hC rfl (by decide) (by omega) (xI_put (d - 1) 76 250 (σ.1 8 11) x2 (jI_put 250 σ 75 (σ.1 8 11) x1) (by decide) rfl rfl) ?_
      refine jE_blk (bs := [(.aload_n 0, 0, 0), (.getfield 36, 8, 8), (.aload_n 0, 0, 0), (.getfield 65, 8, 11), (.iconst (0), 0, 0)]) (i := .invokevirtual 121) (a1 := 137) (a2 := 0) (pc1 := 74) (l1 := [(0, .ref 8), (1, .int x1), (2, .int x2)]) (st1 := [.int (0 : Int32), .int (σ.1 8 11), .ref 78]) (σ1 := (jI_put 250 (jI_put 250 σ 75 (σ.1 8 11) x1) 77 (σ.1 8 11) x2)) (by decide +kernel) rfl (fun hC => ?_)
      refine jE_call (as := [.ref 78, .int (σ.1 8 11), .int (0 : Int32)]) (pc1 := 77) (st1 := []) hC rfl (by decide) (by omega) (xI_put (d - 1) 78 250 (σ.1 8 11) (0 : Int32) (jI_put 250 (jI_put 250 σ 75 (σ.1 8 11) x1) 77 (σ.1 8 11) x2) (by decide) rfl rfl) ?_
      refine jE_blk (bs := [(.aload_n 0, 0, 0), (.dup, 0, 0), (.getfield 65, 8, 11), (.iconst (1), 1, 0), (.iadd, 0, 0), (.putfield 65, 8, 11), (.aload_n 0, 0, 0), (.getfield 14, 8, 0), (.iconst (0), 0, 0), (.aload_n 0, 0, 0), (.getfield 14, 8, 0), (.iconst (0), 0, 0)]) (i := .invokevirtual 90) (a1 := 136) (a2 := 0) (pc1 := 97) (l1 := [(0, .ref 8), (1, .int x1), (2, .int x2)]) (st1 := [.int (0 : Int32), .ref 70, .int (0 : Int32), .ref 70]) (σ1 := (jx_i (jI_put 250 (jI_put 250 (jI_put 250 σ 75 (σ.1 8 11) x1) 77 (σ.1 8 11) x2) 79 (σ.1 8 11) (0 : Int32)) 8 11 ((σ.1 8 11) + (1 : Int32)))) (by decide +kernel) rfl (fun hC => ?_)
      refine jE_call (as := [.ref 70, .int (0 : Int32)]) (pc1 := 100) (st1 := [.int (0 : Int32), .ref 70]) hC rfl (by decide) (by omega) (xI_at (d - 1) 70 10 (0 : Int32) (jx_i (jI_put 250 (jI_put 250 (jI_put 250 σ 75 (σ.1 8 11) x1) 77 (σ.1 8 11) x2) 79 (σ.1 8 11) (0 : Int32)) 8 11 ((σ.1 8 11) + (1 : Int32))) (by decide) rfl rfl) ?_
      refine jE_blk (bs := [(.iconst (1), 1, 0), (.iadd, 0, 0)]) (i := .invokevirtual 121) (a1 := 137) (a2 := 0) (pc1 := 102) (l1 := [(0, .ref 8), (1, .int x1), (2, .int x2)]) (st1 := [.int ((jI_at 10 (σ.1 71) (0 : Int32)) + (1 : Int32)), .int (0 : Int32), .ref 70]) (σ1 := (jx_i (jI_put 250 (jI_put 250 (jI_put 250 σ 75 (σ.1 8 11) x1) 77 (σ.1 8 11) x2) 79 (σ.1 8 11) (0 : Int32)) 8 11 ((σ.1 8 11) + (1 : Int32)))) (by decide +kernel) rfl (fun hC => ?_)
      refine jE_call (as := [.ref 70, .int (0 : Int32), .int ((jI_at 10 (σ.1 71) (0 : Int32)) + (1 : Int32))]) (pc1 := 105) (st1 := []) hC rfl (by decide) (by omega) (xI_put (d - 1) 70 10 (0 : Int32) ((jI_at 10 (σ.1 71) (0 : Int32)) + (1 : Int32)) (jx_i (jI_put 250 (jI_put 250 (jI_put 250 σ 75 (σ.1 8 11) x1) 77 (σ.1 8 11) x2) 79 (σ.1 8 11) (0 : Int32)) 8 11 ((σ.1 8 11) + (1 : Int32))) (by decide) rfl rfl) ?_
      refine jE_blk (bs := [(.aload_n 0, 0, 0), (.getfield 14, 8, 0), (.iconst (4), 4, 0), (.aload_n 0, 0, 0), (.getfield 65, 8, 11), (.aload_n 0, 0, 0), (.getfield 14, 8, 0), (.iconst (4), 4, 0)]) (i := .invokevirtual 90) (a1 := 136) (a2 := 0) (pc1 := 119) (l1 := [(0, .ref 8), (1, .int x1), (2, .int x2)]) (st1 := [.int (4 : Int32), .ref 70, .int ((σ.1 8 11) + (1 : Int32)), .int (4 : Int32), .ref 70]) (σ1 := (jI_put 10 (jx_i (jI_put 250 (jI_put 250 (jI_put 250 σ 75 (σ.1 8 11) x1) 77 (σ.1 8 11) x2) 79 (σ.1 8 11) (0 : Int32)) 8 11 ((σ.1 8 11) + (1 : Int32))) 71 (0 : Int32) ((jI_at 10 (σ.1 71) (0 : Int32)) + (1 : Int32)))) (by decide +kernel) rfl (fun hC => ?_)
      refine jE_call (as := [.ref 70, .int (4 : Int32)]) (pc1 := 122) (st1 := [.int ((σ.1 8 11) + (1 : Int32)), .int (4 : Int32), .ref 70]) hC rfl (by decide) (by omega) (xI_at (d - 1) 70 10 (4 : Int32) (jI_put 10 (jx_i (jI_put 250 (jI_put 250 (jI_put 250 σ 75 (σ.1 8 11) x1) 77 (σ.1 8 11) x2) 79 (σ.1 8 11) (0 : Int32)) 8 11 ((σ.1 8 11) + (1 : Int32))) 71 (0 : Int32) ((jI_at 10 (σ.1 71) (0 : Int32)) + (1 : Int32))) (by decide) rfl rfl) ?_
      refine jE_blk (bs := []) (i := .invokestatic 169) (a1 := 10000) (a2 := 0) (pc1 := 122) (l1 := [(0, .ref 8), (1, .int x1), (2, .int x2)]) (st1 := [.int (jI_at 10 (jI_up 10 (σ.1 71) (0 : Int32) ((jI_at 10 (σ.1 71) (0 : Int32)) + (1 : Int32))) (4 : Int32)), .int ((σ.1 8 11) + (1 : Int32)), .int (4 : Int32), .ref 70]) (σ1 := (jI_put 10 (jx_i (jI_put 250 (jI_put 250 (jI_put 250 σ 75 (σ.1 8 11) x1) 77 (σ.1 8 11) x2) 79 (σ.1 8 11) (0 : Int32)) 8 11 ((σ.1 8 11) + (1 : Int32))) 71 (0 : Int32) ((jI_at 10 (σ.1 71) (0 : Int32)) + (1 : Int32)))) (by decide +kernel) rfl (fun hC => ?_)
      refine jE_prim (as := [.int ((σ.1 8 11) + (1 : Int32)), .int (jI_at 10 (jI_up 10 (σ.1 71) (0 : Int32) ((jI_at 10 (σ.1 71) (0 : Int32)) + (1 : Int32))) (4 : Int32))]) (pc1 := 125) (st1 := [.int (4 : Int32), .ref 70]) (v := .int (if ((σ.1 8 11) + (1 : Int32)) < (jI_at 10 (jI_up 10 (σ.1 71) (0 : Int32) ((jI_at 10 (σ.1 71) (0 : Int32)) + (1 : Int32))) (4 : Int32)) then (jI_at 10 (jI_up 10 (σ.1 71) (0 : Int32) ((jI_at 10 (σ.1 71) (0 : Int32)) + (1 : Int32))) (4 : Int32)) else ((σ.1 8 11) + (1 : Int32)))) hC rfl rfl (by omega) ?_
      refine jE_blk (bs := []) (i := .invokevirtual 121) (a1 := 137) (a2 := 0) (pc1 := 125) (l1 := [(0, .ref 8), (1, .int x1), (2, .int x2)]) (st1 := [.int (if ((σ.1 8 11) + (1 : Int32)) < (jI_at 10 (jI_up 10 (σ.1 71) (0 : Int32) ((jI_at 10 (σ.1 71) (0 : Int32)) + (1 : Int32))) (4 : Int32)) then (jI_at 10 (jI_up 10 (σ.1 71) (0 : Int32) ((jI_at 10 (σ.1 71) (0 : Int32)) + (1 : Int32))) (4 : Int32)) else ((σ.1 8 11) + (1 : Int32))), .int (4 : Int32), .ref 70]) (σ1 := (jI_put 10 (jx_i (jI_put 250 (jI_put 250 (jI_put 250 σ 75 (σ.1 8 11) x1) 77 (σ.1 8 11) x2) 79 (σ.1 8 11) (0 : Int32)) 8 11 ((σ.1 8 11) + (1 : Int32))) 71 (0 : Int32) ((jI_at 10 (σ.1 71) (0 : Int32)) + (1 : Int32)))) (by decide +kernel) rfl (fun hC => ?_)
      refine jE_call (as := [.ref 70, .int (4 : Int32), .int (if ((σ.1 8 11) + (1 : Int32)) < (jI_at 10 (jI_up 10 (σ.1 71) (0 : Int32) ((jI_at 10 (σ.1 71) (0 : Int32)) + (1 : Int32))) (4 : Int32)) then (jI_at 10 (jI_up 10 (σ.1 71) (0 : Int32) ((jI_at 10 (σ.1 71) (0 : Int32)) + (1 : Int32))) (4 : Int32)) else ((σ.1 8 11) + (1 : Int32)))]) (pc1 := 128) (st1 := []) hC rfl (by decide) (by omega) (xI_put (d - 1) 70 10 (4 : Int32) (if ((σ.1 8 11) + (1 : Int32)) < (jI_at 10 (jI_up 10 (σ.1 71) (0 : Int32) ((jI_at 10 (σ.1 71) (0 : Int32)) + (1 : Int32))) (4 : Int32)) then (jI_at 10 (jI_up 10 (σ.1 71) (0 : Int32) ((jI_at 10 (σ.1 71) (0 : Int32)) + (1 : Int32))) (4 : Int32)) else ((σ.1 8 11) + (1 : Int32))) (jI_put 10 (jx_i (jI_put 250 (jI_put 250 (jI_put 250 σ 75 (σ.1 8 11) x1) 77 (σ.1 8 11) x2) 79 (σ.1 8 11) (0 : Int32)) 8 11 ((σ.1 8 11) + (1 : Int32))) 71 (0 : Int32) ((jI_at 10 (σ.1 71) (0 : Int32)) + (1 : Int32))) (by decide) rfl rfl) ?_
      refine jE_blk (bs := []) (i := .return_) (a1 := 0) (a2 := 0) (pc1 := 128) (l1 := [(0, .ref 8), (1, .int x1), (2, .int x2)]) (st1 := []) (σ1 := (jI_put 10 (jI_put 10 (jx_i (jI_put 250 (jI_put 250 (jI_put 250 σ 75 (σ.1 8 11) x1) 77 (σ.1 8 11) x2) 79 (σ.1 8 11) (0 : Int32)) 8 11 ((σ.1 8 11) + (1 : Int32))) 71 (0 : Int32) ((jI_at 10 (σ.1 71) (0 : Int32)) + (1 : Int32))) 71 (4 : Int32) (if ((σ.1 8 11) + (1 : Int32)) < (jI_at 10 (jI_up 10 (σ.1 71) (0 : Int32) ((jI_at 10 (σ.1 71) (0 : Int32)) + (1 : Int32))) (4 : Int32)) then (jI_at 10 (jI_up 10 (σ.1 71) (0 : Int32) ((jI_at 10 (σ.1 71) (0 : Int32)) + (1 : Int32))) (4 : Int32)) else ((σ.1 8 11) + (1 : Int32))))) (by decide +kernel) rfl (fun hC => ?_)
      have h9 := Option.some.inj h
      subst h9
      have e9 : ((none, (jI_put 10 (jI_put 10 (jx_i (jI_put 250 (jI_put 250 (jI_put 250 σ 75 (σ.1 8 11) x1) 77 (σ.1 8 11) x2) 79 (σ.1 8 11) (0 : Int32)) 8 11 ((σ.1 8 11) + (1 : Int32))) 71 (0 : Int32) ((jI_at 10 (σ.1 71) (0 : Int32)) + (1 : Int32))) 71 (4 : Int32) (if ((σ.1 8 11) + (1 : Int32)) < (jI_at 10 (jI_up 10 (σ.1 71) (0 : Int32) ((jI_at 10 (σ.1 71) (0 : Int32)) + (1 : Int32))) (4 : Int32)) then (jI_at 10 (jI_up 10 (σ.1 71) (0 : Int32) ((jI_at 10 (σ.1 71) (0 : Int32)) + (1 : Int32))) (4 : Int32)) else ((σ.1 8 11) + (1 : Int32))))) : Option Value × jx_S) = res := hK
      subst e9
      exact jE_ret hC rfl
    · rw [if_neg hc] at h
      refine jE_icF 41 hC (by decide) hc ?_
      refine jE_blk (bs := [(.aload_n 0, 0, 0), (.iconst (3), 3, 0), (.putfield 76, 8, 14), (.goto (90), 0, 0)]) (i := .return_) (a1 := 0) (a2 := 0) (pc1 := 128) (l1 := [(0, .ref 8), (1, .int x1), (2, .int x2)]) (st1 := []) (σ1 := (jx_i σ 8 14 (3 : Int32))) (by decide +kernel) rfl (fun hC => ?_)
      have h9 := Option.some.inj h
      subst h9
      have e9 : ((none, (jx_i σ 8 14 (3 : Int32))) : Option Value × jx_S) = res := hK
      subst e9
      exact jE_ret hC rfl
  · rw [if_neg hc] at h
    refine jE_icF 18 hC (by decide) hc ?_
    refine jE_blk (bs := [(.aload_n 0, 0, 0), (.iconst (4), 4, 0), (.putfield 76, 8, 14), (.goto (113), 0, 0)]) (i := .return_) (a1 := 0) (a2 := 0) (pc1 := 128) (l1 := [(0, .ref 8), (1, .int x1), (2, .int x2)]) (st1 := []) (σ1 := (jx_i σ 8 14 (4 : Int32))) (by decide +kernel) rfl (fun hC => ?_)
    have h9 := Option.some.inj h
    subst h9
    have e9 : ((none, (jx_i σ 8 14 (4 : Int32))) : Option Value × jx_S) = res := hK
    subst e9
    exact jE_ret hC rfl
def kk_cMac_enter_74 (d : Nat) (t : ((Int32 × Int32 × Int32 × jx_S) ⊕ jx_S)) (res : Option Value × jx_S) : Prop := match t with
  | .inl s => jE d 126 74 [(0, .ref 8), (1, .int s.1), (2, .int s.2.1), (3, .int s.2.2.1)] [] s.2.2.2 res
  | .inr t => kkV t res
def p_cMac_enter_74_s (x1 : Int32) (x2 : Int32) (x3 : Int32) (σ : jx_S) : Option ((Int32 × Int32 × Int32 × jx_S) ⊕ jx_S) := (if (jI_at 40 (σ.1 43) x1) ≤ x3 then (Option.map Sum.inr ((p_cMac_begin (jI_at 40 (σ.1 51) x1) x2 σ).bind fun q1 => (some (q1)))) else (some (.inl (x1, x2, (x3 + 1), (jL_put 30000 σ 97 (x2 + x3) (jL_at 8 (σ.2 83) x3))))))
theorem x_cMac_enter_74_s (d : Nat) (hd : 2 ≤ d) (x1 : Int32) (x2 : Int32) (x3 : Int32) (σ : jx_S) (t : ((Int32 × Int32 × Int32 × jx_S) ⊕ jx_S)) (res : Option Value × jx_S) (h : p_cMac_enter_74_s x1 x2 x3 σ = some t) (hK : kk_cMac_enter_74 d t res) : jE d 126 74 [(0, .ref 8), (1, .int x1), (2, .int x2), (3, .int x3)] [] σ res := by
  unfold p_cMac_enter_74_s at h
  refine jE_blk (bs := [(.iload_n 3, 0, 0), (.aload_n 0, 0, 0), (.getfield 57, 8, 4), (.getfield 85, 4, 1), (.iload_n 1, 0, 0)]) (i := .invokevirtual 90) (a1 := 136) (a2 := 0) (pc1 := 83) (l1 := [(0, .ref 8), (1, .int x1), (2, .int x2), (3, .int x3)]) (st1 := [.int x1, .ref 42, .int x3]) (σ1 := σ) (by decide +kernel) rfl (fun hC => ?_)
  refine jE_call (as := [.ref 42, .int x1]) (pc1 := 86) (st1 := [.int x3]) hC rfl (by decide) (by omega) (xI_at (d - 1) 42 40 x1 σ (by decide) rfl rfl) ?_
  refine jE_blk (bs := []) (i := .if_icmp .ge (30)) (a1 := 0) (a2 := 0) (pc1 := 86) (l1 := [(0, .ref 8), (1, .int x1), (2, .int x2), (3, .int x3)]) (st1 := [.int (jI_at 40 (σ.1 43) x1), .int x3]) (σ1 := σ) (by decide +kernel) rfl (fun hC => ?_)
  rcases Classical.em ((jI_at 40 (σ.1 43) x1) ≤ x3) with hc | hc
  · rw [if_pos hc] at h
    refine jE_icT 116 hC (by decide) hc ?_
    obtain ⟨t9_2, h9_2, h8_2⟩ := Option.map_eq_some_iff.mp h
    clear h
    subst h8_2
    have h := h9_2
    clear h9_2
    refine jE_blk (bs := [(.aload_n 0, 0, 0), (.aload_n 0, 0, 0), (.getfield 57, 8, 4), (.getfield 284, 4, 5), (.iload_n 1, 0, 0)]) (i := .invokevirtual 90) (a1 := 136) (a2 := 0) (pc1 := 125) (l1 := [(0, .ref 8), (1, .int x1), (2, .int x2), (3, .int x3)]) (st1 := [.int x1, .ref 50, .ref 8]) (σ1 := σ) (by decide +kernel) rfl (fun hC => ?_)
    refine jE_call (as := [.ref 50, .int x1]) (pc1 := 128) (st1 := [.ref 8]) hC rfl (by decide) (by omega) (xI_at (d - 1) 50 40 x1 σ (by decide) rfl rfl) ?_
    refine jE_blk (bs := [(.iload_n 2, 0, 0)]) (i := .invokevirtual 179) (a1 := 108) (a2 := 0) (pc1 := 129) (l1 := [(0, .ref 8), (1, .int x1), (2, .int x2), (3, .int x3)]) (st1 := [.int x2, .int (jI_at 40 (σ.1 51) x1), .ref 8]) (σ1 := σ) (by decide +kernel) rfl (fun hC => ?_)
    obtain ⟨q1, hq, h⟩ := Option.bind_eq_some_iff.mp h
    refine jE_call (as := [.ref 8, .int (jI_at 40 (σ.1 51) x1), .int x2]) (pc1 := 132) (st1 := []) hC rfl (by decide) (by omega) (x_cMac_begin (d - 1) (by omega) (jI_at 40 (σ.1 51) x1) x2 σ q1 (none, q1) hq rfl) ?_
    refine jE_blk (bs := []) (i := .return_) (a1 := 0) (a2 := 0) (pc1 := 132) (l1 := [(0, .ref 8), (1, .int x1), (2, .int x2), (3, .int x3)]) (st1 := []) (σ1 := q1) (by decide +kernel) rfl (fun hC => ?_)
    have h9 := Option.some.inj h
    subst h9
    have e9 : ((none, q1) : Option Value × jx_S) = res := hK
    subst e9
    exact jE_ret hC rfl
  · rw [if_neg hc] at h
    refine jE_icF 116 hC (by decide) hc ?_
    refine jE_blk (bs := [(.aload_n 0, 0, 0), (.getfield 26, 8, 5), (.getfield 233, 9, 6), (.iload_n 2, 0, 0), (.iload_n 3, 0, 0), (.iadd, 0, 0), (.aload_n 0, 0, 0), (.getfield 46, 8, 10), (.iload_n 3, 0, 0)]) (i := .invokevirtual 148) (a1 := 140) (a2 := 0) (pc1 := 104) (l1 := [(0, .ref 8), (1, .int x1), (2, .int x2), (3, .int x3)]) (st1 := [.int x3, .ref 82, .int (x2 + x3), .ref 96]) (σ1 := σ) (by decide +kernel) rfl (fun hC => ?_)
    refine jE_call (as := [.ref 82, .int x3]) (pc1 := 107) (st1 := [.int (x2 + x3), .ref 96]) hC rfl (by decide) (by omega) (xL_at (d - 1) 82 8 x3 σ (by decide) rfl rfl) ?_
    refine jE_blk (bs := []) (i := .invokevirtual 98) (a1 := 141) (a2 := 0) (pc1 := 107) (l1 := [(0, .ref 8), (1, .int x1), (2, .int x2), (3, .int x3)]) (st1 := [.long (jL_at 8 (σ.2 83) x3), .int (x2 + x3), .ref 96]) (σ1 := σ) (by decide +kernel) rfl (fun hC => ?_)
    refine jE_call (as := [.ref 96, .int (x2 + x3), .long (jL_at 8 (σ.2 83) x3)]) (pc1 := 110) (st1 := []) hC rfl (by decide) (by omega) (xL_put (d - 1) 96 30000 (x2 + x3) (jL_at 8 (σ.2 83) x3) σ (by decide) rfl rfl) ?_
    refine jE_blk (bs := [(.iinc 3 (1), 4, 2), (.goto (-39), 0, 0)]) (i := .iload_n 3) (a1 := 0) (a2 := 0) (pc1 := 74) (l1 := [(3, .int (x3 + 1)), (0, .ref 8), (1, .int x1), (2, .int x2)]) (st1 := []) (σ1 := (jL_put 30000 σ 97 (x2 + x3) (jL_at 8 (σ.2 83) x3))) (by decide +kernel) rfl (fun hC => ?_)
    have h9 := Option.some.inj h
    subst h9
    exact jE_loc (l := [(0, .ref 8), (1, .int x1), (2, .int x2), (3, .int (x3 + 1))]) (ks := [0, 1, 2, 3]) rfl (by decide) ⟨rfl, rfl, rfl, rfl, trivial⟩ hK
def p_cMac_enter_74 (x1 : Int32) (x2 : Int32) (x3 : Int32) (σ : jx_S) : Option jx_S := jx_loop 100000000 (fun s => p_cMac_enter_74_s s.1 s.2.1 s.2.2.1 (s.2.2.2)) (x1, x2, x3, σ)
theorem x_cMac_enter_74 (d : Nat) (hd : 2 ≤ d) (x1 : Int32) (x2 : Int32) (x3 : Int32) (σ : jx_S) (t : jx_S) (res : Option Value × jx_S) (h : p_cMac_enter_74 x1 x2 x3 σ = some t) (hK : kkV t res) : jE d 126 74 [(0, .ref 8), (1, .int x1), (2, .int x2), (3, .int x3)] [] σ res := by
  refine jx_loop_ok (E := fun s t => ∀ res, kkV t res → jE d 126 74 [(0, .ref 8), (1, .int s.1), (2, .int s.2.1), (3, .int s.2.2.1)] [] s.2.2.2 res) (fun s t hs => ?_) _ _ _ h res hK
  cases t with
  | inl s1 => exact fun b hb res hk => x_cMac_enter_74_s d hd (s.1) (s.2.1) (s.2.2.1) (s.2.2.2) _ res hs (hb res hk)
  | inr b => exact fun res hk => x_cMac_enter_74_s d hd (s.1) (s.2.1) (s.2.2.1) (s.2.2.2) _ res hs hk
def p_cMac_enter (x1 : Int32) (σ : jx_S) : Option jx_S := (if ((σ.1 9 14) + (jI_at 40 (σ.1 47) x1)) ≤ (30000 : Int32) then (p_cMac_enter_74 x1 (σ.1 9 14) (0 : Int32) (jI_put 10 (jx_i σ 9 14 ((σ.1 9 14) + (jI_at 40 (σ.1 47) x1))) 71 (8 : Int32) (jI_at 10 (σ.1 71) (8 : Int32) + (1 : Int32)))) else (some ((jx_i σ 8 14 (5 : Int32)))))
theorem x_cMac_enter (d : Nat) (hd : 2 ≤ d) (x1 : Int32) (σ : jx_S) (t : jx_S) (res : Option Value × jx_S) (h : p_cMac_enter x1 σ = some t) (hK : kkV t res) : jE d 126 0 [(0, .ref 8), (1, .int x1)] [] σ res := by
  unfold p_cMac_enter at h
  refine jE_blk (bs := [(.aload_n 0, 0, 0), (.getfield 26, 8, 5), (.getfield 279, 9, 14), (.aload_n 0, 0, 0), (.getfield 57, 8, 4), (.getfield 282, 4, 3), (.iload_n 1, 0, 0)]) (i := .invokevirtual 90) (a1 := 136) (a2 := 0) (pc1 := 15) (l1 := [(0, .ref 8), (1, .int x1)]) (st1 := [.int x1, .ref 46, .int (σ.1 9 14)]) (σ1 := σ) (by decide +kernel) rfl (fun hC => ?_)
  refine jE_call (as := [.ref 46, .int x1]) (pc1 := 18) (st1 := [.int (σ.1 9 14)]) hC rfl (by decide) (by omega) (xI_at (d - 1) 46 40 x1 σ (by decide) rfl rfl) ?_
  refine jE_blk (bs := [(.iadd, 0, 0), (.sipush (30000), 30000, 0)]) (i := .if_icmp .le (9)) (a1 := 0) (a2 := 0) (pc1 := 22) (l1 := [(0, .ref 8), (1, .int x1)]) (st1 := [.int (30000 : Int32), .int ((σ.1 9 14) + (jI_at 40 (σ.1 47) x1))]) (σ1 := σ) (by decide +kernel) rfl (fun hC => ?_)
  rcases Classical.em (((σ.1 9 14) + (jI_at 40 (σ.1 47) x1)) ≤ (30000 : Int32)) with hc | hc
  · rw [if_pos hc] at h
    refine jE_icT 31 hC (by decide) hc ?_
    refine jE_blk (bs := [(.aload_n 0, 0, 0), (.getfield 26, 8, 5), (.getfield 279, 9, 14), (.istore_n 2, 4, 0), (.aload_n 0, 0, 0), (.getfield 26, 8, 5), (.dup, 0, 0), (.getfield 279, 9, 14), (.aload_n 0, 0, 0), (.getfield 57, 8, 4), (.getfield 282, 4, 3), (.iload_n 1, 0, 0)]) (i := .invokevirtual 90) (a1 := 136) (a2 := 0) (pc1 := 55) (l1 := [(2, .int (σ.1 9 14)), (0, .ref 8), (1, .int x1)]) (st1 := [.int x1, .ref 46, .int (σ.1 9 14), .ref 9]) (σ1 := σ) (by decide +kernel) rfl (fun hC => ?_)
    refine jE_call (as := [.ref 46, .int x1]) (pc1 := 58) (st1 := [.int (σ.1 9 14), .ref 9]) hC rfl (by decide) (by omega) (xI_at (d - 1) 46 40 x1 σ (by decide) rfl rfl) ?_
    refine jE_blk (bs := [(.iadd, 0, 0), (.putfield 279, 9, 14), (.aload_n 0, 0, 0), (.getfield 14, 8, 0), (.bipush (8), 8, 0), (.iconst (1), 1, 0)]) (i := .invokevirtual 250) (a1 := 138) (a2 := 0) (pc1 := 69) (l1 := [(2, .int (σ.1 9 14)), (0, .ref 8), (1, .int x1)]) (st1 := [.int (1 : Int32), .int (8 : Int32), .ref 70]) (σ1 := (jx_i σ 9 14 ((σ.1 9 14) + (jI_at 40 (σ.1 47) x1)))) (by decide +kernel) rfl (fun hC => ?_)
    refine jE_call (as := [.ref 70, .int (8 : Int32), .int (1 : Int32)]) (pc1 := 72) (st1 := []) hC rfl (by decide) (by omega) (xI_add (d - 1) 70 10 (8 : Int32) (1 : Int32) (jx_i σ 9 14 ((σ.1 9 14) + (jI_at 40 (σ.1 47) x1))) (by omega) (by decide) rfl rfl) ?_
    refine jE_blk (bs := [(.iconst (0), 0, 0), (.istore_n 3, 4, 0)]) (i := .iload_n 3) (a1 := 0) (a2 := 0) (pc1 := 74) (l1 := [(3, .int (0 : Int32)), (2, .int (σ.1 9 14)), (0, .ref 8), (1, .int x1)]) (st1 := []) (σ1 := (jI_put 10 (jx_i σ 9 14 ((σ.1 9 14) + (jI_at 40 (σ.1 47) x1))) 71 (8 : Int32) (jI_at 10 (σ.1 71) (8 : Int32) + (1 : Int32)))) (by decide +kernel) rfl (fun hC => ?_)
    exact jE_loc (l := [(0, .ref 8), (1, .int x1), (2, .int (σ.1 9 14)), (3, .int (0 : Int32))]) (ks := [0, 1, 2, 3]) rfl (by decide) ⟨rfl, rfl, rfl, rfl, trivial⟩ (x_cMac_enter_74 d hd x1 (σ.1 9 14) (0 : Int32) (jI_put 10 (jx_i σ 9 14 ((σ.1 9 14) + (jI_at 40 (σ.1 47) x1))) 71 (8 : Int32) (jI_at 10 (σ.1 71) (8 : Int32) + (1 : Int32))) _ res h hK)
  · rw [if_neg hc] at h
    refine jE_icF 31 hC (by decide) hc ?_
    refine jE_blk (bs := [(.aload_n 0, 0, 0), (.iconst (5), 5, 0), (.putfield 76, 8, 14)]) (i := .return_) (a1 := 0) (a2 := 0) (pc1 := 30) (l1 := [(0, .ref 8), (1, .int x1)]) (st1 := []) (σ1 := (jx_i σ 8 14 (5 : Int32))) (by decide +kernel) rfl (fun hC => ?_)
    have h9 := Option.some.inj h
    subst h9
    have e9 : ((none, (jx_i σ 8 14 (5 : Int32))) : Option Value × jx_S) = res := hK
    subst e9
    exact jE_ret hC rfl
def p_cMac_finish (x1 : Int64) (σ : jx_S) : Option jx_S := (some ((jx_i (jx_l σ 8 15 x1) 8 11 ((σ.1 8 11) - (1 : Int32)))))
theorem x_cMac_finish (d : Nat) (hd : 0 ≤ d) (x1 : Int64) (σ : jx_S) (t : jx_S) (res : Option Value × jx_S) (h : p_cMac_finish x1 σ = some t) (hK : kkV t res) : jE d 111 0 [(0, .ref 8), (1, .long x1)] [] σ res := by
  unfold p_cMac_finish at h
  refine jE_blk (bs := [(.aload_n 0, 0, 0), (.lload_n 1, 0, 0), (.putfield 113, 8, 15), (.aload_n 0, 0, 0), (.dup, 0, 0), (.getfield 65, 8, 11), (.iconst (1), 1, 0), (.isub, 0, 0), (.putfield 65, 8, 11)]) (i := .return_) (a1 := 0) (a2 := 0) (pc1 := 15) (l1 := [(0, .ref 8), (1, .long x1)]) (st1 := []) (σ1 := (jx_i (jx_l σ 8 15 x1) 8 11 ((σ.1 8 11) - (1 : Int32)))) (by decide +kernel) rfl (fun hC => ?_)
  have h9 := Option.some.inj h
  subst h9
  have e9 : ((none, (jx_i (jx_l σ 8 15 x1) 8 11 ((σ.1 8 11) - (1 : Int32)))) : Option Value × jx_S) = res := hK
  subst e9
  exact jE_ret hC rfl
def kk_cMac_sizeGot_8 (d : Nat) (t : ((Int32 × Int64 × Int32 × jx_S) ⊕ (Int32 × jx_S))) (res : Option Value × jx_S) : Prop := match t with
  | .inl s => jE d 125 8 [(0, .ref 8), (3, .int s.1), (4, .long s.2.1), (6, .int s.2.2.1)] [] s.2.2.2 res
  | .inr t => kkI t res
def p_cMac_sizeGot_8_s (x3 : Int32) (x4 : Int64) (x6 : Int32) (σ : jx_S) : Option ((Int32 × Int64 × Int32 × jx_S) ⊕ (Int32 × jx_S)) := (if (8 : Int32) ≤ x6 then (Option.map Sum.inr (some ((x3, σ)))) else (if ¬ (v_cHea_tagOf x4 σ) = (6 : Int32) then (Option.map Sum.inr (some ((x3, σ)))) else (some (.inl ((x3 + (jI_at 6000 (σ.1 105) (v_cHea_numberOf x4 σ))), (jL_at 6000 (σ.2 101) (v_cHea_numberOf x4 σ)), (x6 + 1), σ)))))
theorem x_cMac_sizeGot_8_s (d : Nat) (hd : 1 ≤ d) (x3 : Int32) (x4 : Int64) (x6 : Int32) (σ : jx_S) (t : ((Int32 × Int64 × Int32 × jx_S) ⊕ (Int32 × jx_S))) (res : Option Value × jx_S) (h : p_cMac_sizeGot_8_s x3 x4 x6 σ = some t) (hK : kk_cMac_sizeGot_8 d t res) : jE d 125 8 [(0, .ref 8), (3, .int x3), (4, .long x4), (6, .int x6)] [] σ res := by
  unfold p_cMac_sizeGot_8_s at h
  refine jE_blk (bs := [(.iload 6, 0, 0), (.bipush (8), 8, 0)]) (i := .if_icmp .ge (54)) (a1 := 0) (a2 := 0) (pc1 := 12) (l1 := [(0, .ref 8), (3, .int x3), (4, .long x4), (6, .int x6)]) (st1 := [.int (8 : Int32), .int x6]) (σ1 := σ) (by decide +kernel) rfl (fun hC => ?_)
  rcases Classical.em ((8 : Int32) ≤ x6) with hc | hc
  · rw [if_pos hc] at h
    refine jE_icT 66 hC (by decide) hc ?_
    obtain ⟨t9_1, h9_1, h8_1⟩ := Option.map_eq_some_iff.mp h
    clear h
    subst h8_1
    have h := h9_1
    clear h9_1
    refine jE_blk (bs := [(.iload_n 3, 0, 0)]) (i := .ireturn) (a1 := 0) (a2 := 0) (pc1 := 67) (l1 := [(0, .ref 8), (3, .int x3), (4, .long x4), (6, .int x6)]) (st1 := [.int x3]) (σ1 := σ) (by decide +kernel) rfl (fun hC => ?_)
    have h9 := Option.some.inj h
    subst h9
    have e9 : ((some (.int x3), σ) : Option Value × jx_S) = res := hK
    subst e9
    exact jE_ret hC rfl
  · rw [if_neg hc] at h
    refine jE_icF 66 hC (by decide) hc ?_
    refine jE_blk (bs := [(.lload 4, 0, 0)]) (i := .invokestatic 154) (a1 := 130) (a2 := 0) (pc1 := 17) (l1 := [(0, .ref 8), (3, .int x3), (4, .long x4), (6, .int x6)]) (st1 := [.long x4]) (σ1 := σ) (by decide +kernel) rfl (fun hC => ?_)
    refine jE_call (as := [.long x4]) (pc1 := 20) (st1 := []) hC rfl (by decide) (by omega) (xv_cHea_tagOf (d - 1) (by omega) x4 σ) ?_
    refine jE_blk (bs := [(.bipush (6), 6, 0)]) (i := .if_icmp .ne (44)) (a1 := 0) (a2 := 0) (pc1 := 22) (l1 := [(0, .ref 8), (3, .int x3), (4, .long x4), (6, .int x6)]) (st1 := [.int (6 : Int32), .int (v_cHea_tagOf x4 σ)]) (σ1 := σ) (by decide +kernel) rfl (fun hC => ?_)
    rcases Classical.em (¬ (v_cHea_tagOf x4 σ) = (6 : Int32)) with hc | hc
    · rw [if_pos hc] at h
      refine jE_icT 66 hC (by decide) hc ?_
      obtain ⟨t9_2, h9_2, h8_2⟩ := Option.map_eq_some_iff.mp h
      clear h
      subst h8_2
      have h := h9_2
      clear h9_2
      refine jE_blk (bs := [(.iload_n 3, 0, 0)]) (i := .ireturn) (a1 := 0) (a2 := 0) (pc1 := 67) (l1 := [(0, .ref 8), (3, .int x3), (4, .long x4), (6, .int x6)]) (st1 := [.int x3]) (σ1 := σ) (by decide +kernel) rfl (fun hC => ?_)
      have h9 := Option.some.inj h
      subst h9
      have e9 : ((some (.int x3), σ) : Option Value × jx_S) = res := hK
      subst e9
      exact jE_ret hC rfl
    · rw [if_neg hc] at h
      refine jE_icF 66 hC (by decide) hc ?_
      refine jE_blk (bs := [(.iload_n 3, 0, 0), (.aload_n 0, 0, 0), (.getfield 26, 8, 5), (.getfield 267, 9, 10), (.lload 4, 0, 0)]) (i := .invokestatic 117) (a1 := 131) (a2 := 0) (pc1 := 35) (l1 := [(0, .ref 8), (3, .int x3), (4, .long x4), (6, .int x6)]) (st1 := [.long x4, .ref 104, .int x3]) (σ1 := σ) (by decide +kernel) rfl (fun hC => ?_)
      refine jE_call (as := [.long x4]) (pc1 := 38) (st1 := [.ref 104, .int x3]) hC rfl (by decide) (by omega) (xv_cHea_numberOf (d - 1) (by omega) x4 σ) ?_
      refine jE_blk (bs := []) (i := .invokevirtual 90) (a1 := 136) (a2 := 0) (pc1 := 38) (l1 := [(0, .ref 8), (3, .int x3), (4, .long x4), (6, .int x6)]) (st1 := [.int (v_cHea_numberOf x4 σ), .ref 104, .int x3]) (σ1 := σ) (by decide +kernel) rfl (fun hC => ?_)
      refine jE_call (as := [.ref 104, .int (v_cHea_numberOf x4 σ)]) (pc1 := 41) (st1 := [.int x3]) hC rfl (by decide) (by omega) (xI_at (d - 1) 104 6000 (v_cHea_numberOf x4 σ) σ (by decide) rfl rfl) ?_
      refine jE_blk (bs := [(.iadd, 0, 0), (.istore_n 3, 7, 0), (.aload_n 0, 0, 0), (.getfield 26, 8, 5), (.getfield 276, 9, 8), (.lload 4, 0, 0)]) (i := .invokestatic 117) (a1 := 131) (a2 := 0) (pc1 := 52) (l1 := [(3, .int (x3 + (jI_at 6000 (σ.1 105) (v_cHea_numberOf x4 σ)))), (0, .ref 8), (4, .long x4), (6, .int x6)]) (st1 := [.long x4, .ref 100]) (σ1 := σ) (by decide +kernel) rfl (fun hC => ?_)
      refine jE_call (as := [.long x4]) (pc1 := 55) (st1 := [.ref 100]) hC rfl (by decide) (by omega) (xv_cHea_numberOf (d - 1) (by omega) x4 σ) ?_
      refine jE_blk (bs := []) (i := .invokevirtual 148) (a1 := 140) (a2 := 0) (pc1 := 55) (l1 := [(3, .int (x3 + (jI_at 6000 (σ.1 105) (v_cHea_numberOf x4 σ)))), (0, .ref 8), (4, .long x4), (6, .int x6)]) (st1 := [.int (v_cHea_numberOf x4 σ), .ref 100]) (σ1 := σ) (by decide +kernel) rfl (fun hC => ?_)
      refine jE_call (as := [.ref 100, .int (v_cHea_numberOf x4 σ)]) (pc1 := 58) (st1 := []) hC rfl (by decide) (by omega) (xL_at (d - 1) 100 6000 (v_cHea_numberOf x4 σ) σ (by decide) rfl rfl) ?_
      refine jE_blk (bs := [(.lstore 4, 7, 0), (.iinc 6 (1), 7, 2), (.goto (-55), 0, 0)]) (i := .iload 6) (a1 := 0) (a2 := 0) (pc1 := 8) (l1 := [(6, .int (x6 + 1)), (4, .long (jL_at 6000 (σ.2 101) (v_cHea_numberOf x4 σ))), (3, .int (x3 + (jI_at 6000 (σ.1 105) (v_cHea_numberOf x4 σ)))), (0, .ref 8)]) (st1 := []) (σ1 := σ) (by decide +kernel) rfl (fun hC => ?_)
      have h9 := Option.some.inj h
      subst h9
      exact jE_loc (l := [(0, .ref 8), (3, .int (x3 + (jI_at 6000 (σ.1 105) (v_cHea_numberOf x4 σ)))), (4, .long (jL_at 6000 (σ.2 101) (v_cHea_numberOf x4 σ))), (6, .int (x6 + 1))]) (ks := [0, 3, 4, 6]) rfl (by decide) ⟨rfl, rfl, rfl, rfl, trivial⟩ hK
def p_cMac_sizeGot_8 (x3 : Int32) (x4 : Int64) (x6 : Int32) (σ : jx_S) : Option (Int32 × jx_S) := jx_loop 100000000 (fun s => p_cMac_sizeGot_8_s s.1 s.2.1 s.2.2.1 (s.2.2.2)) (x3, x4, x6, σ)
theorem x_cMac_sizeGot_8 (d : Nat) (hd : 1 ≤ d) (x3 : Int32) (x4 : Int64) (x6 : Int32) (σ : jx_S) (t : (Int32 × jx_S)) (res : Option Value × jx_S) (h : p_cMac_sizeGot_8 x3 x4 x6 σ = some t) (hK : kkI t res) : jE d 125 8 [(0, .ref 8), (3, .int x3), (4, .long x4), (6, .int x6)] [] σ res := by
  refine jx_loop_ok (E := fun s t => ∀ res, kkI t res → jE d 125 8 [(0, .ref 8), (3, .int s.1), (4, .long s.2.1), (6, .int s.2.2.1)] [] s.2.2.2 res) (fun s t hs => ?_) _ _ _ h res hK
  cases t with
  | inl s1 => exact fun b hb res hk => x_cMac_sizeGot_8_s d hd (s.1) (s.2.1) (s.2.2.1) (s.2.2.2) _ res hs (hb res hk)
  | inr b => exact fun res hk => x_cMac_sizeGot_8_s d hd (s.1) (s.2.1) (s.2.2.1) (s.2.2.2) _ res hs hk
def p_cMac_sizeGot (x1 : Int64) (σ : jx_S) : Option (Int32 × jx_S) := (p_cMac_sizeGot_8 (0 : Int32) x1 (0 : Int32) σ)
theorem x_cMac_sizeGot (d : Nat) (hd : 1 ≤ d) (x1 : Int64) (σ : jx_S) (t : (Int32 × jx_S)) (res : Option Value × jx_S) (h : p_cMac_sizeGot x1 σ = some t) (hK : kkI t res) : jE d 125 0 [(0, .ref 8), (1, .long x1)] [] σ res := by
  unfold p_cMac_sizeGot at h
  refine jE_blk (bs := [(.iconst (0), 0, 0), (.istore_n 3, 7, 0), (.lload_n 1, 0, 0), (.lstore 4, 7, 0), (.iconst (0), 0, 0), (.istore 6, 7, 0)]) (i := .iload 6) (a1 := 0) (a2 := 0) (pc1 := 8) (l1 := [(6, .int (0 : Int32)), (4, .long x1), (3, .int (0 : Int32)), (0, .ref 8), (1, .long x1)]) (st1 := []) (σ1 := σ) (by decide +kernel) rfl (fun hC => ?_)
  exact jE_loc (l := [(0, .ref 8), (3, .int (0 : Int32)), (4, .long x1), (6, .int (0 : Int32))]) (ks := [0, 3, 4, 6]) rfl (by decide) ⟨rfl, rfl, rfl, rfl, trivial⟩ (x_cMac_sizeGot_8 d hd (0 : Int32) x1 (0 : Int32) σ _ res h hK)
def p_cHea_addPutOff (x1 : Int32) (x2 : Int32) (σ : jx_S) : Option (Int64 × jx_S) := (some (((v_cHea_hold (4 : Int32) (((σ.1 9 12) + (1 : Int32)) - (1 : Int32)) (jx_i (jI_put 3000 (jI_put 3000 (jI_put 3000 σ 89 (σ.1 9 12) x1) 91 (σ.1 9 12) x2) 93 (σ.1 9 12) (0 : Int32)) 9 12 ((σ.1 9 12) + (1 : Int32)))), (jx_i (jI_put 3000 (jI_put 3000 (jI_put 3000 σ 89 (σ.1 9 12) x1) 91 (σ.1 9 12) x2) 93 (σ.1 9 12) (0 : Int32)) 9 12 ((σ.1 9 12) + (1 : Int32))))))
theorem x_cHea_addPutOff (d : Nat) (hd : 1 ≤ d) (x1 : Int32) (x2 : Int32) (σ : jx_S) (t : (Int64 × jx_S)) (res : Option Value × jx_S) (h : p_cHea_addPutOff x1 x2 σ = some t) (hK : kkJ t res) : jE d 133 0 [(0, .ref 9), (1, .int x1), (2, .int x2)] [] σ res := by
  unfold p_cHea_addPutOff at h
  refine jE_blk (bs := [(.aload_n 0, 0, 0), (.getfield 24, 9, 2), (.aload_n 0, 0, 0), (.getfield 58, 9, 12), (.iload_n 1, 0, 0)]) (i := .invokevirtual 73) (a1 := 137) (a2 := 0) (pc1 := 9) (l1 := [(0, .ref 9), (1, .int x1), (2, .int x2)]) (st1 := [.int x1, .int (σ.1 9 12), .ref 88]) (σ1 := σ) (by decide +kernel) rfl (fun hC => ?_)
  refine jE_call (as := [.ref 88, .int (σ.1 9 12), .int x1]) (pc1 := 12) (st1 := []) hC rfl (by decide) (by omega) (xI_put (d - 1) 88 3000 (σ.1 9 12) x1 σ (by decide) rfl rfl) ?_
  refine jE_blk (bs := [(.aload_n 0, 0, 0), (.getfield 28, 9, 3), (.aload_n 0, 0, 0), (.getfield 58, 9, 12), (.iload_n 2, 0, 0)]) (i := .invokevirtual 73) (a1 := 137) (a2 := 0) (pc1 := 21) (l1 := [(0, .ref 9), (1, .int x1), (2, .int x2)]) (st1 := [.int x2, .int (σ.1 9 12), .ref 90]) (σ1 := (jI_put 3000 σ 89 (σ.1 9 12) x1)) (by decide +kernel) rfl (fun hC => ?_)
  refine jE_call (as := [.ref 90, .int (σ.1 9 12), .int x2]) (pc1 := 24) (st1 := []) hC rfl (by decide) (by omega) (xI_put (d - 1) 90 3000 (σ.1 9 12) x2 (jI_put 3000 σ 89 (σ.1 9 12) x1) (by decide) rfl rfl) ?_
  refine jE_blk (bs := [(.aload_n 0, 0, 0), (.getfield 31, 9, 4), (.aload_n 0, 0, 0), (.getfield 58, 9, 12), (.iconst (0), 0, 0)]) (i := .invokevirtual 73) (a1 := 137) (a2 := 0) (pc1 := 33) (l1 := [(0, .ref 9), (1, .int x1), (2, .int x2)]) (st1 := [.int (0 : Int32), .int (σ.1 9 12), .ref 92]) (σ1 := (jI_put 3000 (jI_put 3000 σ 89 (σ.1 9 12) x1) 91 (σ.1 9 12) x2)) (by decide +kernel) rfl (fun hC => ?_)
  refine jE_call (as := [.ref 92, .int (σ.1 9 12), .int (0 : Int32)]) (pc1 := 36) (st1 := []) hC rfl (by decide) (by omega) (xI_put (d - 1) 92 3000 (σ.1 9 12) (0 : Int32) (jI_put 3000 (jI_put 3000 σ 89 (σ.1 9 12) x1) 91 (σ.1 9 12) x2) (by decide) rfl rfl) ?_
  refine jE_blk (bs := [(.aload_n 0, 0, 0), (.dup, 0, 0), (.getfield 58, 9, 12), (.iconst (1), 1, 0), (.iadd, 0, 0), (.putfield 58, 9, 12), (.iconst (4), 4, 0), (.aload_n 0, 0, 0), (.getfield 58, 9, 12), (.iconst (1), 1, 0), (.isub, 0, 0)]) (i := .invokestatic 77) (a1 := 129) (a2 := 0) (pc1 := 53) (l1 := [(0, .ref 9), (1, .int x1), (2, .int x2)]) (st1 := [.int (((σ.1 9 12) + (1 : Int32)) - (1 : Int32)), .int (4 : Int32)]) (σ1 := (jx_i (jI_put 3000 (jI_put 3000 (jI_put 3000 σ 89 (σ.1 9 12) x1) 91 (σ.1 9 12) x2) 93 (σ.1 9 12) (0 : Int32)) 9 12 ((σ.1 9 12) + (1 : Int32)))) (by decide +kernel) rfl (fun hC => ?_)
  refine jE_call (as := [.int (4 : Int32), .int (((σ.1 9 12) + (1 : Int32)) - (1 : Int32))]) (pc1 := 56) (st1 := []) hC rfl (by decide) (by omega) (xv_cHea_hold (d - 1) (by omega) (4 : Int32) (((σ.1 9 12) + (1 : Int32)) - (1 : Int32)) (jx_i (jI_put 3000 (jI_put 3000 (jI_put 3000 σ 89 (σ.1 9 12) x1) 91 (σ.1 9 12) x2) 93 (σ.1 9 12) (0 : Int32)) 9 12 ((σ.1 9 12) + (1 : Int32)))) ?_
  refine jE_blk (bs := []) (i := .lreturn) (a1 := 0) (a2 := 0) (pc1 := 56) (l1 := [(0, .ref 9), (1, .int x1), (2, .int x2)]) (st1 := [.long (v_cHea_hold (4 : Int32) (((σ.1 9 12) + (1 : Int32)) - (1 : Int32)) (jx_i (jI_put 3000 (jI_put 3000 (jI_put 3000 σ 89 (σ.1 9 12) x1) 91 (σ.1 9 12) x2) 93 (σ.1 9 12) (0 : Int32)) 9 12 ((σ.1 9 12) + (1 : Int32))))]) (σ1 := (jx_i (jI_put 3000 (jI_put 3000 (jI_put 3000 σ 89 (σ.1 9 12) x1) 91 (σ.1 9 12) x2) 93 (σ.1 9 12) (0 : Int32)) 9 12 ((σ.1 9 12) + (1 : Int32)))) (by decide +kernel) rfl (fun hC => ?_)
  have h9 := Option.some.inj h
  subst h9
  have e9 : ((some (.long (v_cHea_hold (4 : Int32) (((σ.1 9 12) + (1 : Int32)) - (1 : Int32)) (jx_i (jI_put 3000 (jI_put 3000 (jI_put 3000 σ 89 (σ.1 9 12) x1) 91 (σ.1 9 12) x2) 93 (σ.1 9 12) (0 : Int32)) 9 12 ((σ.1 9 12) + (1 : Int32))))), (jx_i (jI_put 3000 (jI_put 3000 (jI_put 3000 σ 89 (σ.1 9 12) x1) 91 (σ.1 9 12) x2) 93 (σ.1 9 12) (0 : Int32)) 9 12 ((σ.1 9 12) + (1 : Int32)))) : Option Value × jx_S) = res := hK
  subst e9
  exact jE_ret hC rfl
def p_cHea_addPartial (x1 : Int64) (x3 : Int32) (σ : jx_S) : Option (Int32 × jx_S) := (some (((((σ.1 9 16) + (1 : Int32)) - (1 : Int32)), (jx_i (jx_i (jI_put 6000 (jI_put 6000 (jL_put 6000 σ 101 (σ.1 9 16) x1) 103 (σ.1 9 16) (σ.1 9 15)) 105 (σ.1 9 16) x3) 9 15 ((σ.1 9 15) + x3)) 9 16 ((σ.1 9 16) + (1 : Int32))))))
theorem x_cHea_addPartial (d : Nat) (hd : 1 ≤ d) (x1 : Int64) (x3 : Int32) (σ : jx_S) (t : (Int32 × jx_S)) (res : Option Value × jx_S) (h : p_cHea_addPartial x1 x3 σ = some t) (hK : kkI t res) : jE d 134 0 [(0, .ref 9), (1, .long x1), (3, .int x3)] [] σ res := by
  unfold p_cHea_addPartial at h
  refine jE_blk (bs := [(.aload_n 0, 0, 0), (.getfield 43, 9, 8), (.aload_n 0, 0, 0), (.getfield 70, 9, 16), (.lload_n 1, 0, 0)]) (i := .invokevirtual 81) (a1 := 141) (a2 := 0) (pc1 := 9) (l1 := [(0, .ref 9), (1, .long x1), (3, .int x3)]) (st1 := [.long x1, .int (σ.1 9 16), .ref 100]) (σ1 := σ) (by decide +kernel) rfl (fun hC => ?_)
  refine jE_call (as := [.ref 100, .int (σ.1 9 16), .long x1]) (pc1 := 12) (st1 := []) hC rfl (by decide) (by omega) (xL_put (d - 1) 100 6000 (σ.1 9 16) x1 σ (by decide) rfl rfl) ?_
  refine jE_blk (bs := [(.aload_n 0, 0, 0), (.getfield 46, 9, 9), (.aload_n 0, 0, 0), (.getfield 70, 9, 16), (.aload_n 0, 0, 0), (.getfield 67, 9, 15)]) (i := .invokevirtual 73) (a1 := 137) (a2 := 0) (pc1 := 24) (l1 := [(0, .ref 9), (1, .long x1), (3, .int x3)]) (st1 := [.int (σ.1 9 15), .int (σ.1 9 16), .ref 102]) (σ1 := (jL_put 6000 σ 101 (σ.1 9 16) x1)) (by decide +kernel) rfl (fun hC => ?_)
  refine jE_call (as := [.ref 102, .int (σ.1 9 16), .int (σ.1 9 15)]) (pc1 := 27) (st1 := []) hC rfl (by decide) (by omega) (xI_put (d - 1) 102 6000 (σ.1 9 16) (σ.1 9 15) (jL_put 6000 σ 101 (σ.1 9 16) x1) (by decide) rfl rfl) ?_
  refine jE_blk (bs := [(.aload_n 0, 0, 0), (.getfield 49, 9, 10), (.aload_n 0, 0, 0), (.getfield 70, 9, 16), (.iload_n 3, 0, 0)]) (i := .invokevirtual 73) (a1 := 137) (a2 := 0) (pc1 := 36) (l1 := [(0, .ref 9), (1, .long x1), (3, .int x3)]) (st1 := [.int x3, .int (σ.1 9 16), .ref 104]) (σ1 := (jI_put 6000 (jL_put 6000 σ 101 (σ.1 9 16) x1) 103 (σ.1 9 16) (σ.1 9 15))) (by decide +kernel) rfl (fun hC => ?_)
  refine jE_call (as := [.ref 104, .int (σ.1 9 16), .int x3]) (pc1 := 39) (st1 := []) hC rfl (by decide) (by omega) (xI_put (d - 1) 104 6000 (σ.1 9 16) x3 (jI_put 6000 (jL_put 6000 σ 101 (σ.1 9 16) x1) 103 (σ.1 9 16) (σ.1 9 15)) (by decide) rfl rfl) ?_
  refine jE_blk (bs := [(.aload_n 0, 0, 0), (.dup, 0, 0), (.getfield 67, 9, 15), (.iload_n 3, 0, 0), (.iadd, 0, 0), (.putfield 67, 9, 15), (.aload_n 0, 0, 0), (.dup, 0, 0), (.getfield 70, 9, 16), (.iconst (1), 1, 0), (.iadd, 0, 0), (.putfield 70, 9, 16), (.aload_n 0, 0, 0), (.getfield 70, 9, 16), (.iconst (1), 1, 0), (.isub, 0, 0)]) (i := .ireturn) (a1 := 0) (a2 := 0) (pc1 := 65) (l1 := [(0, .ref 9), (1, .long x1), (3, .int x3)]) (st1 := [.int (((σ.1 9 16) + (1 : Int32)) - (1 : Int32))]) (σ1 := (jx_i (jx_i (jI_put 6000 (jI_put 6000 (jL_put 6000 σ 101 (σ.1 9 16) x1) 103 (σ.1 9 16) (σ.1 9 15)) 105 (σ.1 9 16) x3) 9 15 ((σ.1 9 15) + x3)) 9 16 ((σ.1 9 16) + (1 : Int32)))) (by decide +kernel) rfl (fun hC => ?_)
  have h9 := Option.some.inj h
  subst h9
  have e9 : ((some (.int (((σ.1 9 16) + (1 : Int32)) - (1 : Int32))), (jx_i (jx_i (jI_put 6000 (jI_put 6000 (jL_put 6000 σ 101 (σ.1 9 16) x1) 103 (σ.1 9 16) (σ.1 9 15)) 105 (σ.1 9 16) x3) 9 15 ((σ.1 9 15) + x3)) 9 16 ((σ.1 9 16) + (1 : Int32)))) : Option Value × jx_S) = res := hK
  subst e9
  exact jE_ret hC rfl
def kk_cMac_putOffFunction_127 (d : Nat) (t : ((Int32 × Int32 × Int32 × Int32 × Int32 × Int32 × jx_S) ⊕ (Int64 × jx_S))) (res : Option Value × jx_S) : Prop := match t with
  | .inl s => jE d 128 127 [(0, .ref 8), (1, .int s.1), (2, .int s.2.1), (3, .int s.2.2.1), (6, .int s.2.2.2.1), (7, .int s.2.2.2.2.1), (8, .int s.2.2.2.2.2.1)] [] s.2.2.2.2.2.2 res
  | .inr t => kkJ t res
def p_cMac_putOffFunction_178 (rec : (Int32 → Int32 → jx_S → Option (Int64 × jx_S))) (x7 : Int32) (σ : jx_S) : Option (Int64 × jx_S) := (some (((v_cHea_hold (6 : Int32) x7 σ), σ)))
theorem x_cMac_putOffFunction_178 (d : Nat) (rec : (Int32 → Int32 → jx_S → Option (Int64 × jx_S))) (Dr : Nat) (hrec : ∀ z0 z1 s r, rec z0 z1 s = some r → jE Dr 127 0 (lv_args 0 [.ref 8, .int z0, .int z1]) [] s (some (.long r.1), r.2)) (hd : Dr + 2 ≤ d) (x7 : Int32) (σ : jx_S) (t : (Int64 × jx_S)) (res : Option Value × jx_S) (h : p_cMac_putOffFunction_178 rec x7 σ = some t) (hK : kkJ t res) : jE d 128 178 [(7, .int x7)] [] σ res := by
  unfold p_cMac_putOffFunction_178 at h
  refine jE_blk (bs := [(.bipush (6), 6, 0), (.iload 7, 0, 0)]) (i := .invokestatic 94) (a1 := 129) (a2 := 0) (pc1 := 182) (l1 := [(7, .int x7)]) (st1 := [.int x7, .int (6 : Int32)]) (σ1 := σ) (by decide +kernel) rfl (fun hC => ?_)
  refine jE_call (as := [.int (6 : Int32), .int x7]) (pc1 := 185) (st1 := []) hC rfl (by decide) (by omega) (xv_cHea_hold (d - 1) (by omega) (6 : Int32) x7 σ) ?_
  refine jE_blk (bs := []) (i := .lreturn) (a1 := 0) (a2 := 0) (pc1 := 185) (l1 := [(7, .int x7)]) (st1 := [.long (v_cHea_hold (6 : Int32) x7 σ)]) (σ1 := σ) (by decide +kernel) rfl (fun hC => ?_)
  have h9 := Option.some.inj h
  subst h9
  have e9 : ((some (.long (v_cHea_hold (6 : Int32) x7 σ)), σ) : Option Value × jx_S) = res := hK
  subst e9
  exact jE_ret hC rfl
def p_cMac_putOffFunction_127_s (rec : (Int32 → Int32 → jx_S → Option (Int64 × jx_S))) (x1 : Int32) (x2 : Int32) (x3 : Int32) (x6 : Int32) (x7 : Int32) (x8 : Int32) (σ : jx_S) : Option ((Int32 × Int32 × Int32 × Int32 × Int32 × Int32 × jx_S) ⊕ (Int64 × jx_S)) := (if x3 ≤ x8 then (Option.map Sum.inr (p_cMac_putOffFunction_178 rec x7 σ)) else (if ¬ (σ.1 8 14) = 0 then (Option.map Sum.inr (p_cMac_putOffFunction_178 rec x7 σ)) else ((p_cTre_part x1 x8 σ).bind fun q4 => ((rec q4.1 (x2 + (1 : Int32)) q4.2).bind fun q5 => (some (.inl (x1, x2, x3, x6, x7, (x8 + 1), (jL_put 6000 q5.2 99 (x6 + x8) q5.1))))))))
theorem x_cMac_putOffFunction_127_s (d : Nat) (rec : (Int32 → Int32 → jx_S → Option (Int64 × jx_S))) (Dr : Nat) (hrec : ∀ z0 z1 s r, rec z0 z1 s = some r → jE Dr 127 0 (lv_args 0 [.ref 8, .int z0, .int z1]) [] s (some (.long r.1), r.2)) (hd : Dr + 2 ≤ d) (x1 : Int32) (x2 : Int32) (x3 : Int32) (x6 : Int32) (x7 : Int32) (x8 : Int32) (σ : jx_S) (t : ((Int32 × Int32 × Int32 × Int32 × Int32 × Int32 × jx_S) ⊕ (Int64 × jx_S))) (res : Option Value × jx_S) (h : p_cMac_putOffFunction_127_s rec x1 x2 x3 x6 x7 x8 σ = some t) (hK : kk_cMac_putOffFunction_127 d t res) : jE d 128 127 [(0, .ref 8), (1, .int x1), (2, .int x2), (3, .int x3), (6, .int x6), (7, .int x7), (8, .int x8)] [] σ res := by
  unfold p_cMac_putOffFunction_127_s at h
  refine jE_blk (bs := [(.iload 8, 0, 0), (.iload_n 3, 0, 0)]) (i := .if_icmp .ge (48)) (a1 := 0) (a2 := 0) (pc1 := 130) (l1 := [(0, .ref 8), (1, .int x1), (2, .int x2), (3, .int x3), (6, .int x6), (7, .int x7), (8, .int x8)]) (st1 := [.int x3, .int x8]) (σ1 := σ) (by decide +kernel) rfl (fun hC => ?_)
  rcases Classical.em (x3 ≤ x8) with hc | hc
  · rw [if_pos hc] at h
    refine jE_icT 178 hC (by decide) hc ?_
    obtain ⟨t9_2, h9_2, h8_2⟩ := Option.map_eq_some_iff.mp h
    clear h
    subst h8_2
    have h := h9_2
    clear h9_2
    exact jE_loc (l := [(7, .int x7)]) (ks := [7]) rfl (by decide) ⟨rfl, trivial⟩ (x_cMac_putOffFunction_178 d rec Dr hrec hd x7 σ _ res h hK)
  · rw [if_neg hc] at h
    refine jE_icF 178 hC (by decide) hc ?_
    refine jE_blk (bs := [(.aload_n 0, 0, 0), (.getfield 76, 8, 14)]) (i := .ifCond .ne (41)) (a1 := 0) (a2 := 0) (pc1 := 137) (l1 := [(0, .ref 8), (1, .int x1), (2, .int x2), (3, .int x3), (6, .int x6), (7, .int x7), (8, .int x8)]) (st1 := [.int (σ.1 8 14)]) (σ1 := σ) (by decide +kernel) rfl (fun hC => ?_)
    rcases Classical.em (¬ (σ.1 8 14) = 0) with hc | hc
    · rw [if_pos hc] at h
      refine jE_ifT 178 hC (by decide) hc ?_
      obtain ⟨t9_3, h9_3, h8_3⟩ := Option.map_eq_some_iff.mp h
      clear h
      subst h8_3
      have h := h9_3
      clear h9_3
      exact jE_loc (l := [(7, .int x7)]) (ks := [7]) rfl (by decide) ⟨rfl, trivial⟩ (x_cMac_putOffFunction_178 d rec Dr hrec hd x7 σ _ res h hK)
    · rw [if_neg hc] at h
      refine jE_ifF 178 hC (by decide) hc ?_
      refine jE_blk (bs := [(.aload_n 0, 0, 0), (.getfield 26, 8, 5), (.getfield 270, 9, 7), (.iload 6, 0, 0), (.iload 8, 0, 0), (.iadd, 0, 0), (.aload_n 0, 0, 0), (.aload_n 0, 0, 0), (.getfield 53, 8, 3), (.iload_n 1, 0, 0), (.iload 8, 0, 0)]) (i := .invokevirtual 239) (a1 := 31) (a2 := 0) (pc1 := 160) (l1 := [(0, .ref 8), (1, .int x1), (2, .int x2), (3, .int x3), (6, .int x6), (7, .int x7), (8, .int x8)]) (st1 := [.int x8, .int x1, .ref 3, .ref 8, .int (x6 + x8), .ref 98]) (σ1 := σ) (by decide +kernel) rfl (fun hC => ?_)
      obtain ⟨q4, hq, h⟩ := Option.bind_eq_some_iff.mp h
      refine jE_call (as := [.ref 3, .int x1, .int x8]) (pc1 := 163) (st1 := [.ref 8, .int (x6 + x8), .ref 98]) hC rfl (by decide) (by omega) (x_cTre_part (d - 1) (by omega) x1 x8 σ q4 (some (.int q4.1), q4.2) hq rfl) ?_
      refine jE_blk (bs := [(.iload_n 2, 0, 0), (.iconst (1), 1, 0), (.iadd, 0, 0)]) (i := .invokevirtual 245) (a1 := 127) (a2 := 0) (pc1 := 166) (l1 := [(0, .ref 8), (1, .int x1), (2, .int x2), (3, .int x3), (6, .int x6), (7, .int x7), (8, .int x8)]) (st1 := [.int (x2 + (1 : Int32)), .int q4.1, .ref 8, .int (x6 + x8), .ref 98]) (σ1 := q4.2) (by decide +kernel) rfl (fun hC => ?_)
      obtain ⟨q5, hq, h⟩ := Option.bind_eq_some_iff.mp h
      refine jE_call (as := [.ref 8, .int q4.1, .int (x2 + (1 : Int32))]) (pc1 := 169) (st1 := [.int (x6 + x8), .ref 98]) hC rfl (by decide) (by omega) (jE_up (hrec q4.1 (x2 + (1 : Int32)) q4.2 q5 hq) (by omega)) ?_
      refine jE_blk (bs := []) (i := .invokevirtual 98) (a1 := 141) (a2 := 0) (pc1 := 169) (l1 := [(0, .ref 8), (1, .int x1), (2, .int x2), (3, .int x3), (6, .int x6), (7, .int x7), (8, .int x8)]) (st1 := [.long q5.1, .int (x6 + x8), .ref 98]) (σ1 := q5.2) (by decide +kernel) rfl (fun hC => ?_)
      refine jE_call (as := [.ref 98, .int (x6 + x8), .long q5.1]) (pc1 := 172) (st1 := []) hC rfl (by decide) (by omega) (xL_put (d - 1) 98 6000 (x6 + x8) q5.1 q5.2 (by decide) rfl rfl) ?_
      refine jE_blk (bs := [(.iinc 8 (1), 9, 2), (.goto (-48), 0, 0)]) (i := .iload 8) (a1 := 0) (a2 := 0) (pc1 := 127) (l1 := [(8, .int (x8 + 1)), (0, .ref 8), (1, .int x1), (2, .int x2), (3, .int x3), (6, .int x6), (7, .int x7)]) (st1 := []) (σ1 := (jL_put 6000 q5.2 99 (x6 + x8) q5.1)) (by decide +kernel) rfl (fun hC => ?_)
      have h9 := Option.some.inj h
      subst h9
      exact jE_loc (l := [(0, .ref 8), (1, .int x1), (2, .int x2), (3, .int x3), (6, .int x6), (7, .int x7), (8, .int (x8 + 1))]) (ks := [0, 1, 2, 3, 6, 7, 8]) rfl (by decide) ⟨rfl, rfl, rfl, rfl, rfl, rfl, rfl, trivial⟩ hK
def p_cMac_putOffFunction_127 (rec : (Int32 → Int32 → jx_S → Option (Int64 × jx_S))) (x1 : Int32) (x2 : Int32) (x3 : Int32) (x6 : Int32) (x7 : Int32) (x8 : Int32) (σ : jx_S) : Option (Int64 × jx_S) := jx_loop 100000000 (fun s => p_cMac_putOffFunction_127_s rec s.1 s.2.1 s.2.2.1 s.2.2.2.1 s.2.2.2.2.1 s.2.2.2.2.2.1 (s.2.2.2.2.2.2)) (x1, x2, x3, x6, x7, x8, σ)
theorem x_cMac_putOffFunction_127 (d : Nat) (rec : (Int32 → Int32 → jx_S → Option (Int64 × jx_S))) (Dr : Nat) (hrec : ∀ z0 z1 s r, rec z0 z1 s = some r → jE Dr 127 0 (lv_args 0 [.ref 8, .int z0, .int z1]) [] s (some (.long r.1), r.2)) (hd : Dr + 2 ≤ d) (x1 : Int32) (x2 : Int32) (x3 : Int32) (x6 : Int32) (x7 : Int32) (x8 : Int32) (σ : jx_S) (t : (Int64 × jx_S)) (res : Option Value × jx_S) (h : p_cMac_putOffFunction_127 rec x1 x2 x3 x6 x7 x8 σ = some t) (hK : kkJ t res) : jE d 128 127 [(0, .ref 8), (1, .int x1), (2, .int x2), (3, .int x3), (6, .int x6), (7, .int x7), (8, .int x8)] [] σ res := by
  refine jx_loop_ok (E := fun s t => ∀ res, kkJ t res → jE d 128 127 [(0, .ref 8), (1, .int s.1), (2, .int s.2.1), (3, .int s.2.2.1), (6, .int s.2.2.2.1), (7, .int s.2.2.2.2.1), (8, .int s.2.2.2.2.2.1)] [] s.2.2.2.2.2.2 res) (fun s t hs => ?_) _ _ _ h res hK
  cases t with
  | inl s1 => exact fun b hb res hk => x_cMac_putOffFunction_127_s d rec Dr hrec hd (s.1) (s.2.1) (s.2.2.1) (s.2.2.2.1) (s.2.2.2.2.1) (s.2.2.2.2.2.1) (s.2.2.2.2.2.2) _ res hs (hb res hk)
  | inr b => exact fun res hk => x_cMac_putOffFunction_127_s d rec Dr hrec hd (s.1) (s.2.1) (s.2.2.1) (s.2.2.2.1) (s.2.2.2.2.1) (s.2.2.2.2.2.1) (s.2.2.2.2.2.2) _ res hs hk
def p_cMac_putOffFunction_72 (rec : (Int32 → Int32 → jx_S → Option (Int64 × jx_S))) (x1 : Int32) (x2 : Int32) (x3 : Int32) (y0 : Int64) (σ : jx_S) : Option (Int64 × jx_S) := (if ¬ x3 = 0 then (if ((σ.1 9 15) + x3) ≤ (6000 : Int32) then ((p_cHea_addPartial y0 x3 σ).bind fun q1 => (p_cMac_putOffFunction_127 rec x1 x2 x3 (σ.1 9 15) q1.1 (0 : Int32) q1.2)) else (some (((0 : Int64), (jx_i σ 8 14 (5 : Int32)))))) else (some ((y0, σ))))
theorem x_cMac_putOffFunction_72 (d : Nat) (rec : (Int32 → Int32 → jx_S → Option (Int64 × jx_S))) (Dr : Nat) (hrec : ∀ z0 z1 s r, rec z0 z1 s = some r → jE Dr 127 0 (lv_args 0 [.ref 8, .int z0, .int z1]) [] s (some (.long r.1), r.2)) (hd : Dr + 2 ≤ d) (x1 : Int32) (x2 : Int32) (x3 : Int32) (y0 : Int64) (σ : jx_S) (t : (Int64 × jx_S)) (res : Option Value × jx_S) (h : p_cMac_putOffFunction_72 rec x1 x2 x3 y0 σ = some t) (hK : kkJ t res) : jE d 128 72 [(0, .ref 8), (1, .int x1), (2, .int x2), (3, .int x3)] [.long y0] σ res := by
  unfold p_cMac_putOffFunction_72 at h
  refine jE_blk (bs := [(.lstore 4, 9, 0), (.iload_n 3, 0, 0)]) (i := .ifCond .ne (6)) (a1 := 0) (a2 := 0) (pc1 := 75) (l1 := [(4, .long y0), (0, .ref 8), (1, .int x1), (2, .int x2), (3, .int x3)]) (st1 := [.int x3]) (σ1 := σ) (by decide +kernel) rfl (fun hC => ?_)
  rcases Classical.em (¬ x3 = 0) with hc | hc
  · rw [if_pos hc] at h
    refine jE_ifT 81 hC (by decide) hc ?_
    refine jE_blk (bs := [(.aload_n 0, 0, 0), (.getfield 26, 8, 5), (.getfield 302, 9, 15), (.iload_n 3, 0, 0), (.iadd, 0, 0), (.sipush (6000), 6000, 0)]) (i := .if_icmp .le (10)) (a1 := 0) (a2 := 0) (pc1 := 93) (l1 := [(4, .long y0), (0, .ref 8), (1, .int x1), (2, .int x2), (3, .int x3)]) (st1 := [.int (6000 : Int32), .int ((σ.1 9 15) + x3)]) (σ1 := σ) (by decide +kernel) rfl (fun hC => ?_)
    rcases Classical.em (((σ.1 9 15) + x3) ≤ (6000 : Int32)) with hc | hc
    · rw [if_pos hc] at h
      refine jE_icT 103 hC (by decide) hc ?_
      refine jE_blk (bs := [(.aload_n 0, 0, 0), (.getfield 26, 8, 5), (.getfield 302, 9, 15), (.istore 6, 9, 0), (.aload_n 0, 0, 0), (.getfield 26, 8, 5), (.lload 4, 0, 0), (.iload_n 3, 0, 0)]) (i := .invokevirtual 305) (a1 := 134) (a2 := 0) (pc1 := 119) (l1 := [(6, .int (σ.1 9 15)), (4, .long y0), (0, .ref 8), (1, .int x1), (2, .int x2), (3, .int x3)]) (st1 := [.int x3, .long y0, .ref 9]) (σ1 := σ) (by decide +kernel) rfl (fun hC => ?_)
      obtain ⟨q1, hq, h⟩ := Option.bind_eq_some_iff.mp h
      refine jE_call (as := [.ref 9, .long y0, .int x3]) (pc1 := 122) (st1 := []) hC rfl (by decide) (by omega) (x_cHea_addPartial (d - 1) (by omega) y0 x3 σ q1 (some (.int q1.1), q1.2) hq rfl) ?_
      refine jE_blk (bs := [(.istore 7, 9, 0), (.iconst (0), 0, 0), (.istore 8, 9, 0)]) (i := .iload 8) (a1 := 0) (a2 := 0) (pc1 := 127) (l1 := [(8, .int (0 : Int32)), (7, .int q1.1), (6, .int (σ.1 9 15)), (4, .long y0), (0, .ref 8), (1, .int x1), (2, .int x2), (3, .int x3)]) (st1 := []) (σ1 := q1.2) (by decide +kernel) rfl (fun hC => ?_)
      exact jE_loc (l := [(0, .ref 8), (1, .int x1), (2, .int x2), (3, .int x3), (6, .int (σ.1 9 15)), (7, .int q1.1), (8, .int (0 : Int32))]) (ks := [0, 1, 2, 3, 6, 7, 8]) rfl (by decide) ⟨rfl, rfl, rfl, rfl, rfl, rfl, rfl, trivial⟩ (x_cMac_putOffFunction_127 d rec Dr hrec hd x1 x2 x3 (σ.1 9 15) q1.1 (0 : Int32) q1.2 _ res h hK)
    · rw [if_neg hc] at h
      refine jE_icF 103 hC (by decide) hc ?_
      refine jE_blk (bs := [(.aload_n 0, 0, 0), (.iconst (5), 5, 0), (.putfield 76, 8, 14), (.lconst 0, 0, 0)]) (i := .lreturn) (a1 := 0) (a2 := 0) (pc1 := 102) (l1 := [(4, .long y0), (0, .ref 8), (1, .int x1), (2, .int x2), (3, .int x3)]) (st1 := [.long (0 : Int64)]) (σ1 := (jx_i σ 8 14 (5 : Int32))) (by decide +kernel) rfl (fun hC => ?_)
      have h9 := Option.some.inj h
      subst h9
      have e9 : ((some (.long (0 : Int64)), (jx_i σ 8 14 (5 : Int32))) : Option Value × jx_S) = res := hK
      subst e9
      exact jE_ret hC rfl
  · rw [if_neg hc] at h
    refine jE_ifF 81 hC (by decide) hc ?_
    refine jE_blk (bs := [(.lload 4, 0, 0)]) (i := .lreturn) (a1 := 0) (a2 := 0) (pc1 := 80) (l1 := [(4, .long y0), (0, .ref 8), (1, .int x1), (2, .int x2), (3, .int x3)]) (st1 := [.long y0]) (σ1 := σ) (by decide +kernel) rfl (fun hC => ?_)
    have h9 := Option.some.inj h
    subst h9
    have e9 : ((some (.long y0), σ) : Option Value × jx_S) = res := hK
    subst e9
    exact jE_ret hC rfl
def p_cMac_putOffFunction (rec : (Int32 → Int32 → jx_S → Option (Int64 × jx_S))) (x1 : Int32) (x2 : Int32) (σ : jx_S) : Option (Int64 × jx_S) := (if ¬ (jI_at 1201 (σ.1 23) x1) = (29 : Int32) then (p_cMac_putOffFunction_72 rec x1 x2 (jI_at 1201 (σ.1 35) x1) (jL_at 30000 (σ.2 97) ((v_cMac_frame σ) + (jI_at 1201 (σ.1 33) x1))) σ) else (p_cMac_putOffFunction_72 rec x1 x2 (jI_at 1201 (σ.1 35) x1) (v_cHea_hold (5 : Int32) (jI_at 1201 (σ.1 33) x1) σ) σ))
theorem x_cMac_putOffFunction (d : Nat) (rec : (Int32 → Int32 → jx_S → Option (Int64 × jx_S))) (Dr : Nat) (hrec : ∀ z0 z1 s r, rec z0 z1 s = some r → jE Dr 127 0 (lv_args 0 [.ref 8, .int z0, .int z1]) [] s (some (.long r.1), r.2)) (hd : Dr + 2 ≤ d) (x1 : Int32) (x2 : Int32) (σ : jx_S) (t : (Int64 × jx_S)) (res : Option Value × jx_S) (h : p_cMac_putOffFunction rec x1 x2 σ = some t) (hK : kkJ t res) : jE d 128 0 [(0, .ref 8), (1, .int x1), (2, .int x2)] [] σ res := by
  unfold p_cMac_putOffFunction at h
  refine jE_blk (bs := [(.aload_n 0, 0, 0), (.getfield 53, 8, 3), (.getfield 198, 3, 6), (.iload_n 1, 0, 0)]) (i := .invokevirtual 90) (a1 := 136) (a2 := 0) (pc1 := 8) (l1 := [(0, .ref 8), (1, .int x1), (2, .int x2)]) (st1 := [.int x1, .ref 34]) (σ1 := σ) (by decide +kernel) rfl (fun hC => ?_)
  refine jE_call (as := [.ref 34, .int x1]) (pc1 := 11) (st1 := []) hC rfl (by decide) (by omega) (xI_at (d - 1) 34 1201 x1 σ (by decide) rfl rfl) ?_
  refine jE_blk (bs := [(.istore_n 3, 9, 0), (.aload_n 0, 0, 0), (.getfield 53, 8, 3), (.getfield 190, 3, 0), (.iload_n 1, 0, 0)]) (i := .invokevirtual 90) (a1 := 136) (a2 := 0) (pc1 := 20) (l1 := [(3, .int (jI_at 1201 (σ.1 35) x1)), (0, .ref 8), (1, .int x1), (2, .int x2)]) (st1 := [.int x1, .ref 22]) (σ1 := σ) (by decide +kernel) rfl (fun hC => ?_)
  refine jE_call (as := [.ref 22, .int x1]) (pc1 := 23) (st1 := []) hC rfl (by decide) (by omega) (xI_at (d - 1) 22 1201 x1 σ (by decide) rfl rfl) ?_
  refine jE_blk (bs := [(.bipush (29), 29, 0)]) (i := .if_icmp .ne (21)) (a1 := 0) (a2 := 0) (pc1 := 25) (l1 := [(3, .int (jI_at 1201 (σ.1 35) x1)), (0, .ref 8), (1, .int x1), (2, .int x2)]) (st1 := [.int (29 : Int32), .int (jI_at 1201 (σ.1 23) x1)]) (σ1 := σ) (by decide +kernel) rfl (fun hC => ?_)
  rcases Classical.em (¬ (jI_at 1201 (σ.1 23) x1) = (29 : Int32)) with hc | hc
  · rw [if_pos hc] at h
    refine jE_icT 46 hC (by decide) hc ?_
    refine jE_blk (bs := [(.aload_n 0, 0, 0), (.getfield 26, 8, 5), (.getfield 233, 9, 6), (.aload_n 0, 0, 0)]) (i := .invokevirtual 175) (a1 := 112) (a2 := 0) (pc1 := 54) (l1 := [(3, .int (jI_at 1201 (σ.1 35) x1)), (0, .ref 8), (1, .int x1), (2, .int x2)]) (st1 := [.ref 8, .ref 96]) (σ1 := σ) (by decide +kernel) rfl (fun hC => ?_)
    refine jE_call (as := [.ref 8]) (pc1 := 57) (st1 := [.ref 96]) hC rfl (by decide) (by omega) (xv_cMac_frame (d - 1) (by omega) σ) ?_
    refine jE_blk (bs := [(.aload_n 0, 0, 0), (.getfield 53, 8, 3), (.getfield 236, 3, 5), (.iload_n 1, 0, 0)]) (i := .invokevirtual 90) (a1 := 136) (a2 := 0) (pc1 := 65) (l1 := [(3, .int (jI_at 1201 (σ.1 35) x1)), (0, .ref 8), (1, .int x1), (2, .int x2)]) (st1 := [.int x1, .ref 32, .int (v_cMac_frame σ), .ref 96]) (σ1 := σ) (by decide +kernel) rfl (fun hC => ?_)
    refine jE_call (as := [.ref 32, .int x1]) (pc1 := 68) (st1 := [.int (v_cMac_frame σ), .ref 96]) hC rfl (by decide) (by omega) (xI_at (d - 1) 32 1201 x1 σ (by decide) rfl rfl) ?_
    refine jE_blk (bs := [(.iadd, 0, 0)]) (i := .invokevirtual 148) (a1 := 140) (a2 := 0) (pc1 := 69) (l1 := [(3, .int (jI_at 1201 (σ.1 35) x1)), (0, .ref 8), (1, .int x1), (2, .int x2)]) (st1 := [.int ((v_cMac_frame σ) + (jI_at 1201 (σ.1 33) x1)), .ref 96]) (σ1 := σ) (by decide +kernel) rfl (fun hC => ?_)
    refine jE_call (as := [.ref 96, .int ((v_cMac_frame σ) + (jI_at 1201 (σ.1 33) x1))]) (pc1 := 72) (st1 := []) hC rfl (by decide) (by omega) (xL_at (d - 1) 96 30000 ((v_cMac_frame σ) + (jI_at 1201 (σ.1 33) x1)) σ (by decide) rfl rfl) ?_
    exact jE_loc (l := [(0, .ref 8), (1, .int x1), (2, .int x2), (3, .int (jI_at 1201 (σ.1 35) x1))]) (ks := [0, 1, 2, 3]) rfl (by decide) ⟨rfl, rfl, rfl, rfl, trivial⟩ (x_cMac_putOffFunction_72 d rec Dr hrec hd x1 x2 (jI_at 1201 (σ.1 35) x1) (jL_at 30000 (σ.2 97) ((v_cMac_frame σ) + (jI_at 1201 (σ.1 33) x1))) σ _ res h hK)
  · rw [if_neg hc] at h
    refine jE_icF 46 hC (by decide) hc ?_
    refine jE_blk (bs := [(.iconst (5), 5, 0), (.aload_n 0, 0, 0), (.getfield 53, 8, 3), (.getfield 236, 3, 5), (.iload_n 1, 0, 0)]) (i := .invokevirtual 90) (a1 := 136) (a2 := 0) (pc1 := 37) (l1 := [(3, .int (jI_at 1201 (σ.1 35) x1)), (0, .ref 8), (1, .int x1), (2, .int x2)]) (st1 := [.int x1, .ref 32, .int (5 : Int32)]) (σ1 := σ) (by decide +kernel) rfl (fun hC => ?_)
    refine jE_call (as := [.ref 32, .int x1]) (pc1 := 40) (st1 := [.int (5 : Int32)]) hC rfl (by decide) (by omega) (xI_at (d - 1) 32 1201 x1 σ (by decide) rfl rfl) ?_
    refine jE_blk (bs := []) (i := .invokestatic 94) (a1 := 129) (a2 := 0) (pc1 := 40) (l1 := [(3, .int (jI_at 1201 (σ.1 35) x1)), (0, .ref 8), (1, .int x1), (2, .int x2)]) (st1 := [.int (jI_at 1201 (σ.1 33) x1), .int (5 : Int32)]) (σ1 := σ) (by decide +kernel) rfl (fun hC => ?_)
    refine jE_call (as := [.int (5 : Int32), .int (jI_at 1201 (σ.1 33) x1)]) (pc1 := 43) (st1 := []) hC rfl (by decide) (by omega) (xv_cHea_hold (d - 1) (by omega) (5 : Int32) (jI_at 1201 (σ.1 33) x1) σ) ?_
    refine jE_blk (bs := [(.goto (29), 0, 0)]) (i := .lstore 4) (a1 := 9) (a2 := 0) (pc1 := 72) (l1 := [(3, .int (jI_at 1201 (σ.1 35) x1)), (0, .ref 8), (1, .int x1), (2, .int x2)]) (st1 := [.long (v_cHea_hold (5 : Int32) (jI_at 1201 (σ.1 33) x1) σ)]) (σ1 := σ) (by decide +kernel) rfl (fun hC => ?_)
    exact jE_loc (l := [(0, .ref 8), (1, .int x1), (2, .int x2), (3, .int (jI_at 1201 (σ.1 35) x1))]) (ks := [0, 1, 2, 3]) rfl (by decide) ⟨rfl, rfl, rfl, rfl, trivial⟩ (x_cMac_putOffFunction_72 d rec Dr hrec hd x1 x2 (jI_at 1201 (σ.1 35) x1) (v_cHea_hold (5 : Int32) (jI_at 1201 (σ.1 33) x1) σ) σ _ res h hK)
