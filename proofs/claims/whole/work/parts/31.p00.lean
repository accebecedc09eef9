def p_cl_forget (σ : jx_S) : Option jx_S := (some ((jI_clr 10 (jx_i (jx_i σ 0 12 (0 : Int32)) 0 11 (0 : Int32)) 71)))
theorem x_cl_forget (d : Nat) (hd : 1 ≤ d) (σ : jx_S) (t : jx_S) (res : Option Value × jx_S) (h : p_cl_forget σ = some t) (hK : kkV t res) : jE d 14 0 [(0, .ref 0)] [] σ res := by
  unfold p_cl_forget at h
  refine jE_blk (bs := [(.aload_n 0, 0, 0), (.iconst (0), 0, 0), (.putfield 101, 0, 12), (.aload_n 0, 0, 0), (.iconst (0), 0, 0), (.putfield 197, 0, 11), (.aload_n 0, 0, 0), (.getfield 79, 0, 9), (.getfield 220, 8, 0)]) (i := .invokevirtual 228) (a1 := 139) (a2 := 0) (pc1 := 17) (l1 := [(0, .ref 0)]) (st1 := [.ref 70]) (σ1 := (jx_i (jx_i σ 0 12 (0 : Int32)) 0 11 (0 : Int32))) (by decide +kernel) rfl (fun hC => ?_)
  refine jE_call (as := [.ref 70]) (pc1 := 20) (st1 := []) hC rfl (by decide) (by omega) (xI_clear (d - 1) 70 10 (jx_i (jx_i σ 0 12 (0 : Int32)) 0 11 (0 : Int32)) (by decide) rfl rfl) ?_
  refine jE_blk (bs := []) (i := .return_) (a1 := 0) (a2 := 0) (pc1 := 20) (l1 := [(0, .ref 0)]) (st1 := []) (σ1 := (jI_clr 10 (jx_i (jx_i σ 0 12 (0 : Int32)) 0 11 (0 : Int32)) 71)) (by decide +kernel) rfl (fun hC => ?_)
  have h9 := Option.some.inj h
  subst h9
  have e9 : ((none, (jI_clr 10 (jx_i (jx_i σ 0 12 (0 : Int32)) 0 11 (0 : Int32)) 71)) : Option Value × jx_S) = res := hK
  subst e9
  exact jE_ret hC rfl
def kk_cl_feed_36 (d : Nat) (t : ((Int32 × Int64 × Int32 × jx_S) ⊕ (Int32 × jx_S))) (res : Option Value × jx_S) : Prop := match t with
  | .inl s => jE d 0 36 [(0, .ref 0), (1, .int s.1), (2, .long s.2.1), (4, .int s.2.2.1)] [] s.2.2.2 res
  | .inr t => kkI t res
def p_cl_feed_36_s (x1 : Int32) (x2 : Int64) (x4 : Int32) (σ : jx_S) : Option ((Int32 × Int64 × Int32 × jx_S) ⊕ (Int32 × jx_S)) := (if x1 ≤ x4 then (Option.map Sum.inr ((p_cl_forget (jx_i σ 0 10 ((σ.1 0 10) + x1))).bind fun q1 => (some (((q1.1 0 10), q1))))) else (some (.inl (x1, x2, (x4 + 1), (jI_put 4000 σ 11 ((σ.1 0 10) + x4) ((((x2).toUInt64 >>> ((((8 : Int32) * x4)).toInt64.toUInt64 &&& Int64.toUInt64 63)).toInt64).toInt32 &&& (255 : Int32)))))))
theorem x_cl_feed_36_s (d : Nat) (hd : 2 ≤ d) (x1 : Int32) (x2 : Int64) (x4 : Int32) (σ : jx_S) (t : ((Int32 × Int64 × Int32 × jx_S) ⊕ (Int32 × jx_S))) (res : Option Value × jx_S) (h : p_cl_feed_36_s x1 x2 x4 σ = some t) (hK : kk_cl_feed_36 d t res) : jE d 0 36 [(0, .ref 0), (1, .int x1), (2, .long x2), (4, .int x4)] [] σ res := by
  unfold p_cl_feed_36_s at h
  refine jE_blk (bs := [(.iload 4, 0, 0), (.iload_n 1, 0, 0)]) (i := .if_icmp .ge (35)) (a1 := 0) (a2 := 0) (pc1 := 39) (l1 := [(0, .ref 0), (1, .int x1), (2, .long x2), (4, .int x4)]) (st1 := [.int x1, .int x4]) (σ1 := σ) (by decide +kernel) rfl (fun hC => ?_)
  rcases Classical.em (x1 ≤ x4) with hc | hc
  · rw [if_pos hc] at h
    refine jE_icT 74 hC (by decide) hc ?_
    obtain ⟨t9_2, h9_2, h8_2⟩ := Option.map_eq_some_iff.mp h
    clear h
    subst h8_2
    have h := h9_2
    clear h9_2
    refine jE_blk (bs := [(.aload_n 0, 0, 0), (.dup, 0, 0), (.getfield 83, 0, 10), (.iload_n 1, 0, 0), (.iadd, 0, 0), (.putfield 83, 0, 10), (.aload_n 0, 0, 0)]) (i := .invokevirtual 98) (a1 := 14) (a2 := 0) (pc1 := 85) (l1 := [(0, .ref 0), (1, .int x1), (2, .long x2), (4, .int x4)]) (st1 := [.ref 0]) (σ1 := (jx_i σ 0 10 ((σ.1 0 10) + x1))) (by decide +kernel) rfl (fun hC => ?_)
    obtain ⟨q1, hq, h⟩ := Option.bind_eq_some_iff.mp h
    refine jE_call (as := [.ref 0]) (pc1 := 88) (st1 := []) hC rfl (by decide) (by omega) (x_cl_forget (d - 1) (by omega) (jx_i σ 0 10 ((σ.1 0 10) + x1)) q1 (none, q1) hq rfl) ?_
    refine jE_blk (bs := [(.aload_n 0, 0, 0), (.getfield 83, 0, 10)]) (i := .ireturn) (a1 := 0) (a2 := 0) (pc1 := 92) (l1 := [(0, .ref 0), (1, .int x1), (2, .long x2), (4, .int x4)]) (st1 := [.int (q1.1 0 10)]) (σ1 := q1) (by decide +kernel) rfl (fun hC => ?_)
    have h9 := Option.some.inj h
    subst h9
    have e9 : ((some (.int (q1.1 0 10)), q1) : Option Value × jx_S) = res := hK
    subst e9
    exact jE_ret hC rfl
  · rw [if_neg hc] at h
    refine jE_icF 74 hC (by decide) hc ?_
    refine jE_blk (bs := [(.aload_n 0, 0, 0), (.getfield 14, 0, 0), (.aload_n 0, 0, 0), (.getfield 83, 0, 10), (.iload 4, 0, 0), (.iadd, 0, 0), (.lload_n 2, 0, 0), (.bipush (8), 8, 0), (.iload 4, 0, 0), (.imul, 0, 0), (.lushr, 0, 0), (.l2i, 0, 0), (.sipush (255), 255, 0), (.iand, 0, 0)]) (i := .invokevirtual 94) (a1 := 137) (a2 := 0) (pc1 := 65) (l1 := [(0, .ref 0), (1, .int x1), (2, .long x2), (4, .int x4)]) (st1 := [.int ((((x2).toUInt64 >>> ((((8 : Int32) * x4)).toInt64.toUInt64 &&& Int64.toUInt64 63)).toInt64).toInt32 &&& (255 : Int32)), .int ((σ.1 0 10) + x4), .ref 10]) (σ1 := σ) (by decide +kernel) rfl (fun hC => ?_)
    refine jE_call (as := [.ref 10, .int ((σ.1 0 10) + x4), .int ((((x2).toUInt64 >>> ((((8 : Int32) * x4)).toInt64.toUInt64 &&& Int64.toUInt64 63)).toInt64).toInt32 &&& (255 : Int32))]) (pc1 := 68) (st1 := []) hC rfl (by decide) (by omega) (xI_put (d - 1) 10 4000 ((σ.1 0 10) + x4) ((((x2).toUInt64 >>> ((((8 : Int32) * x4)).toInt64.toUInt64 &&& Int64.toUInt64 63)).toInt64).toInt32 &&& (255 : Int32)) σ (by decide) rfl rfl) ?_
    refine jE_blk (bs := [(.iinc 4 (1), 5, 2), (.goto (-35), 0, 0)]) (i := .iload 4) (a1 := 0) (a2 := 0) (pc1 := 36) (l1 := [(4, .int (x4 + 1)), (0, .ref 0), (1, .int x1), (2, .long x2)]) (st1 := []) (σ1 := (jI_put 4000 σ 11 ((σ.1 0 10) + x4) ((((x2).toUInt64 >>> ((((8 : Int32) * x4)).toInt64.toUInt64 &&& Int64.toUInt64 63)).toInt64).toInt32 &&& (255 : Int32)))) (by decide +kernel) rfl (fun hC => ?_)
    have h9 := Option.some.inj h
    subst h9
    exact jE_loc (l := [(0, .ref 0), (1, .int x1), (2, .long x2), (4, .int (x4 + 1))]) (ks := [0, 1, 2, 4]) rfl (by decide) ⟨rfl, rfl, rfl, rfl, trivial⟩ hK
def p_cl_feed_36 (x1 : Int32) (x2 : Int64) (x4 : Int32) (σ : jx_S) : Option (Int32 × jx_S) := jx_loop 100000000 (fun s => p_cl_feed_36_s s.1 s.2.1 s.2.2.1 (s.2.2.2)) (x1, x2, x4, σ)
theorem x_cl_feed_36 (d : Nat) (hd : 2 ≤ d) (x1 : Int32) (x2 : Int64) (x4 : Int32) (σ : jx_S) (t : (Int32 × jx_S)) (res : Option Value × jx_S) (h : p_cl_feed_36 x1 x2 x4 σ = some t) (hK : kkI t res) : jE d 0 36 [(0, .ref 0), (1, .int x1), (2, .long x2), (4, .int x4)] [] σ res := by
  refine jx_loop_ok (E := fun s t => ∀ res, kkI t res → jE d 0 36 [(0, .ref 0), (1, .int s.1), (2, .long s.2.1), (4, .int s.2.2.1)] [] s.2.2.2 res) (fun s t hs => ?_) _ _ _ h res hK
  cases t with
  | inl s1 => exact fun b hb res hk => x_cl_feed_36_s d hd (s.1) (s.2.1) (s.2.2.1) (s.2.2.2) _ res hs (hb res hk)
  | inr b => exact fun res hk => x_cl_feed_36_s d hd (s.1) (s.2.1) (s.2.2.1) (s.2.2.2) _ res hs hk
def p_cl_feed (x1 : Int32) (x2 : Int64) (σ : jx_S) : Option (Int32 × jx_S) := (if x1 < (1 : Int32) then none else (if (8 : Int32) < x1 then none else (if ((σ.1 0 10) + x1) ≤ (4000 : Int32) then (p_cl_feed_36 x1 x2 (0 : Int32) σ) else none)))
theorem x_cl_feed (d : Nat) (hd : 2 ≤ d) (x1 : Int32) (x2 : Int64) (σ : jx_S) (t : (Int32 × jx_S)) (res : Option Value × jx_S) (h : p_cl_feed x1 x2 σ = some t) (hK : kkI t res) : jE d 0 0 [(0, .ref 0), (1, .int x1), (2, .long x2)] [] σ res := by
  unfold p_cl_feed at h
  refine jE_blk (bs := [(.iload_n 1, 0, 0), (.iconst (1), 1, 0)]) (i := .if_icmp .lt (21)) (a1 := 0) (a2 := 0) (pc1 := 2) (l1 := [(0, .ref 0), (1, .int x1), (2, .long x2)]) (st1 := [.int (1 : Int32), .int x1]) (σ1 := σ) (by decide +kernel) rfl (fun hC => ?_)
  rcases Classical.em (x1 < (1 : Int32)) with hc | hc
  · rw [if_pos hc] at h
    refine jE_icT 23 hC (by decide) hc ?_
    cases h
  · rw [if_neg hc] at h
    refine jE_icF 23 hC (by decide) hc ?_
    refine jE_blk (bs := [(.iload_n 1, 0, 0), (.bipush (8), 8, 0)]) (i := .if_icmp .gt (15)) (a1 := 0) (a2 := 0) (pc1 := 8) (l1 := [(0, .ref 0), (1, .int x1), (2, .long x2)]) (st1 := [.int (8 : Int32), .int x1]) (σ1 := σ) (by decide +kernel) rfl (fun hC => ?_)
    rcases Classical.em ((8 : Int32) < x1) with hc | hc
    · rw [if_pos hc] at h
      refine jE_icT 23 hC (by decide) hc ?_
      cases h
    · rw [if_neg hc] at h
      refine jE_icF 23 hC (by decide) hc ?_
      refine jE_blk (bs := [(.aload_n 0, 0, 0), (.getfield 83, 0, 10), (.iload_n 1, 0, 0), (.iadd, 0, 0), (.sipush (4000), 4000, 0)]) (i := .if_icmp .le (13)) (a1 := 0) (a2 := 0) (pc1 := 20) (l1 := [(0, .ref 0), (1, .int x1), (2, .long x2)]) (st1 := [.int (4000 : Int32), .int ((σ.1 0 10) + x1)]) (σ1 := σ) (by decide +kernel) rfl (fun hC => ?_)
      rcases Classical.em (((σ.1 0 10) + x1) ≤ (4000 : Int32)) with hc | hc
      · rw [if_pos hc] at h
        refine jE_icT 33 hC (by decide) hc ?_
        refine jE_blk (bs := [(.iconst (0), 0, 0), (.istore 4, 5, 0)]) (i := .iload 4) (a1 := 0) (a2 := 0) (pc1 := 36) (l1 := [(4, .int (0 : Int32)), (0, .ref 0), (1, .int x1), (2, .long x2)]) (st1 := []) (σ1 := σ) (by decide +kernel) rfl (fun hC => ?_)
        exact jE_loc (l := [(0, .ref 0), (1, .int x1), (2, .long x2), (4, .int (0 : Int32))]) (ks := [0, 1, 2, 4]) rfl (by decide) ⟨rfl, rfl, rfl, rfl, trivial⟩ (x_cl_feed_36 d hd x1 x2 (0 : Int32) σ _ res h hK)
      · rw [if_neg hc] at h
        refine jE_icF 33 hC (by decide) hc ?_
        cases h
def p_cl_wipe (σ : jx_S) : Option (Int32 × jx_S) := ((p_cl_forget (jx_i σ 0 10 (0 : Int32))).bind fun q1 => (some (((σ.1 0 10), q1))))
theorem x_cl_wipe (d : Nat) (hd : 2 ≤ d) (σ : jx_S) (t : (Int32 × jx_S)) (res : Option Value × jx_S) (h : p_cl_wipe σ = some t) (hK : kkI t res) : jE d 1 0 [(0, .ref 0)] [] σ res := by
  unfold p_cl_wipe at h
  refine jE_blk (bs := [(.aload_n 0, 0, 0), (.getfield 83, 0, 10), (.istore_n 1, 2, 0), (.aload_n 0, 0, 0), (.iconst (0), 0, 0), (.putfield 83, 0, 10), (.aload_n 0, 0, 0)]) (i := .invokevirtual 98) (a1 := 14) (a2 := 0) (pc1 := 11) (l1 := [(1, .int (σ.1 0 10)), (0, .ref 0)]) (st1 := [.ref 0]) (σ1 := (jx_i σ 0 10 (0 : Int32))) (by decide +kernel) rfl (fun hC => ?_)
  obtain ⟨q1, hq, h⟩ := Option.bind_eq_some_iff.mp h
  refine jE_call (as := [.ref 0]) (pc1 := 14) (st1 := []) hC rfl (by decide) (by omega) (x_cl_forget (d - 1) (by omega) (jx_i σ 0 10 (0 : Int32)) q1 (none, q1) hq rfl) ?_
  refine jE_blk (bs := [(.iload_n 1, 0, 0)]) (i := .ireturn) (a1 := 0) (a2 := 0) (pc1 := 15) (l1 := [(1, .int (σ.1 0 10)), (0, .ref 0)]) (st1 := [.int (σ.1 0 10)]) (σ1 := q1) (by decide +kernel) rfl (fun hC => ?_)
  have h9 := Option.some.inj h
  subst h9
  have e9 : ((some (.int (σ.1 0 10)), q1) : Option Value × jx_S) = res := hK
  subst e9
  exact jE_ret hC rfl
def p_cFau_clear (σ : jx_S) : Option jx_S := (some ((jx_i (jx_i σ 1 0 (0 : Int32)) 1 1 (0 : Int32))))
theorem x_cFau_clear (d : Nat) (hd : 0 ≤ d) (σ : jx_S) (t : jx_S) (res : Option Value × jx_S) (h : p_cFau_clear σ = some t) (hK : kkV t res) : jE d 19 0 [(0, .ref 1)] [] σ res := by
  unfold p_cFau_clear at h
  refine jE_blk (bs := [(.aload_n 0, 0, 0), (.iconst (0), 0, 0), (.putfield 7, 1, 0), (.aload_n 0, 0, 0), (.iconst (0), 0, 0), (.putfield 13, 1, 1)]) (i := .return_) (a1 := 0) (a2 := 0) (pc1 := 10) (l1 := [(0, .ref 1)]) (st1 := []) (σ1 := (jx_i (jx_i σ 1 0 (0 : Int32)) 1 1 (0 : Int32))) (by decide +kernel) rfl (fun hC => ?_)
  have h9 := Option.some.inj h
  subst h9
  have e9 : ((none, (jx_i (jx_i σ 1 0 (0 : Int32)) 1 1 (0 : Int32))) : Option Value × jx_S) = res := hK
  subst e9
  exact jE_ret hC rfl
def p_cFau_tell (x1 : Int32) (x2 : Int32) (σ : jx_S) : Option jx_S := (if ¬ (σ.1 1 0) = 0 then (some (σ)) else (some ((jx_i (jx_i σ 1 0 x1) 1 1 x2))))
theorem x_cFau_tell (d : Nat) (hd : 0 ≤ d) (x1 : Int32) (x2 : Int32) (σ : jx_S) (t : jx_S) (res : Option Value × jx_S) (h : p_cFau_tell x1 x2 σ = some t) (hK : kkV t res) : jE d 18 0 [(0, .ref 1), (1, .int x1), (2, .int x2)] [] σ res := by
  unfold p_cFau_tell at h
  refine jE_blk (bs := [(.aload_n 0, 0, 0), (.getfield 7, 1, 0)]) (i := .ifCond .ne (13)) (a1 := 0) (a2 := 0) (pc1 := 4) (l1 := [(0, .ref 1), (1, .int x1), (2, .int x2)]) (st1 := [.int (σ.1 1 0)]) (σ1 := σ) (by decide +kernel) rfl (fun hC => ?_)
  rcases Classical.em (¬ (σ.1 1 0) = 0) with hc | hc
  · rw [if_pos hc] at h
    refine jE_ifT 17 hC (by decide) hc ?_
    refine jE_blk (bs := []) (i := .return_) (a1 := 0) (a2 := 0) (pc1 := 17) (l1 := [(0, .ref 1), (1, .int x1), (2, .int x2)]) (st1 := []) (σ1 := σ) (by decide +kernel) rfl (fun hC => ?_)
    have h9 := Option.some.inj h
    subst h9
    have e9 : ((none, σ) : Option Value × jx_S) = res := hK
    subst e9
    exact jE_ret hC rfl
  · rw [if_neg hc] at h
    refine jE_ifF 17 hC (by decide) hc ?_
    refine jE_blk (bs := [(.aload_n 0, 0, 0), (.iload_n 1, 0, 0), (.putfield 7, 1, 0), (.aload_n 0, 0, 0), (.iload_n 2, 0, 0), (.putfield 13, 1, 1)]) (i := .return_) (a1 := 0) (a2 := 0) (pc1 := 17) (l1 := [(0, .ref 1), (1, .int x1), (2, .int x2)]) (st1 := []) (σ1 := (jx_i (jx_i σ 1 0 x1) 1 1 x2)) (by decide +kernel) rfl (fun hC => ?_)
    have h9 := Option.some.inj h
    subst h9
    have e9 : ((none, (jx_i (jx_i σ 1 0 x1) 1 1 x2)) : Option Value × jx_S) = res := hK
    subst e9
    exact jE_ret hC rfl
def p_cTok_add (x1 : Int32) (x2 : Int32) (x3 : Int64) (σ : jx_S) : Option jx_S := (some ((jx_i (jL_put 1201 (jI_put 1201 (jI_put 1201 σ 15 (σ.1 2 4) x1) 17 (σ.1 2 4) x2) 19 (σ.1 2 4) x3) 2 4 ((σ.1 2 4) + (1 : Int32)))))
theorem x_cTok_add (d : Nat) (hd : 1 ≤ d) (x1 : Int32) (x2 : Int32) (x3 : Int64) (σ : jx_S) (t : jx_S) (res : Option Value × jx_S) (h : p_cTok_add x1 x2 x3 σ = some t) (hK : kkV t res) : jE d 25 0 [(0, .ref 2), (1, .int x1), (2, .int x2), (3, .long x3)] [] σ res := by
  unfold p_cTok_add at h
  refine jE_blk (bs := [(.aload_n 0, 0, 0), (.getfield 14, 2, 0), (.aload_n 0, 0, 0), (.getfield 55, 2, 4), (.iload_n 1, 0, 0)]) (i := .invokevirtual 76) (a1 := 137) (a2 := 0) (pc1 := 9) (l1 := [(0, .ref 2), (1, .int x1), (2, .int x2), (3, .long x3)]) (st1 := [.int x1, .int (σ.1 2 4), .ref 14]) (σ1 := σ) (by decide +kernel) rfl (fun hC => ?_)
  refine jE_call (as := [.ref 14, .int (σ.1 2 4), .int x1]) (pc1 := 12) (st1 := []) hC rfl (by decide) (by omega) (xI_put (d - 1) 14 1201 (σ.1 2 4) x1 σ (by decide) rfl rfl) ?_
  refine jE_blk (bs := [(.aload_n 0, 0, 0), (.getfield 20, 2, 1), (.aload_n 0, 0, 0), (.getfield 55, 2, 4), (.iload_n 2, 0, 0)]) (i := .invokevirtual 76) (a1 := 137) (a2 := 0) (pc1 := 21) (l1 := [(0, .ref 2), (1, .int x1), (2, .int x2), (3, .long x3)]) (st1 := [.int x2, .int (σ.1 2 4), .ref 16]) (σ1 := (jI_put 1201 σ 15 (σ.1 2 4) x1)) (by decide +kernel) rfl (fun hC => ?_)
  refine jE_call (as := [.ref 16, .int (σ.1 2 4), .int x2]) (pc1 := 24) (st1 := []) hC rfl (by decide) (by omega) (xI_put (d - 1) 16 1201 (σ.1 2 4) x2 (jI_put 1201 σ 15 (σ.1 2 4) x1) (by decide) rfl rfl) ?_
  refine jE_blk (bs := [(.aload_n 0, 0, 0), (.getfield 26, 2, 2), (.aload_n 0, 0, 0), (.getfield 55, 2, 4), (.lload_n 3, 0, 0)]) (i := .invokevirtual 45) (a1 := 141) (a2 := 0) (pc1 := 33) (l1 := [(0, .ref 2), (1, .int x1), (2, .int x2), (3, .long x3)]) (st1 := [.long x3, .int (σ.1 2 4), .ref 18]) (σ1 := (jI_put 1201 (jI_put 1201 σ 15 (σ.1 2 4) x1) 17 (σ.1 2 4) x2)) (by decide +kernel) rfl (fun hC => ?_)
  refine jE_call (as := [.ref 18, .int (σ.1 2 4), .long x3]) (pc1 := 36) (st1 := []) hC rfl (by decide) (by omega) (xL_put (d - 1) 18 1201 (σ.1 2 4) x3 (jI_put 1201 (jI_put 1201 σ 15 (σ.1 2 4) x1) 17 (σ.1 2 4) x2) (by decide) rfl rfl) ?_
  refine jE_blk (bs := [(.aload_n 0, 0, 0), (.dup, 0, 0), (.getfield 55, 2, 4), (.iconst (1), 1, 0), (.iadd, 0, 0), (.putfield 55, 2, 4)]) (i := .return_) (a1 := 0) (a2 := 0) (pc1 := 46) (l1 := [(0, .ref 2), (1, .int x1), (2, .int x2), (3, .long x3)]) (st1 := []) (σ1 := (jx_i (jL_put 1201 (jI_put 1201 (jI_put 1201 σ 15 (σ.1 2 4) x1) 17 (σ.1 2 4) x2) 19 (σ.1 2 4) x3) 2 4 ((σ.1 2 4) + (1 : Int32)))) (by decide +kernel) rfl (fun hC => ?_)
  have h9 := Option.some.inj h
  subst h9
  have e9 : ((none, (jx_i (jL_put 1201 (jI_put 1201 (jI_put 1201 σ 15 (σ.1 2 4) x1) 17 (σ.1 2 4) x2) 19 (σ.1 2 4) x3) 2 4 ((σ.1 2 4) + (1 : Int32)))) : Option Value × jx_S) = res := hK
  subst e9
  exact jE_ret hC rfl
def p_cTok_readSign_45 (x3 : Int32) (x5 : Int32) (σ : jx_S) : Option (Int32 × jx_S) := (if ¬ (v_cTok_signKind x5 σ) = 0 then ((p_cTok_add (v_cTok_signKind x5 σ) x3 (0 : Int64) σ).bind fun q1 => (some (((x3 + (1 : Int32)), q1)))) else ((p_cFau_tell (1 : Int32) x3 σ).bind fun q2 => (some ((x3, q2)))))
theorem x_cTok_readSign_45 (d : Nat) (hd : 2 ≤ d) (x3 : Int32) (x5 : Int32) (σ : jx_S) (t : (Int32 × jx_S)) (res : Option Value × jx_S) (h : p_cTok_readSign_45 x3 x5 σ = some t) (hK : kkI t res) : jE d 24 45 [(0, .ref 2), (3, .int x3), (4, .ref 1), (5, .int x5)] [] σ res := by
  unfold p_cTok_readSign_45 at h
  refine jE_blk (bs := [(.iload 5, 0, 0)]) (i := .invokestatic 113) (a1 := 29) (a2 := 0) (pc1 := 47) (l1 := [(0, .ref 2), (3, .int x3), (4, .ref 1), (5, .int x5)]) (st1 := [.int x5]) (σ1 := σ) (by decide +kernel) rfl (fun hC => ?_)
  refine jE_call (as := [.int x5]) (pc1 := 50) (st1 := []) hC rfl (by decide) (by omega) (xv_cTok_signKind (d - 1) (by omega) x5 σ) ?_
  refine jE_blk (bs := [(.istore 6, 7, 0), (.iload 6, 0, 0)]) (i := .ifCond .ne (12)) (a1 := 0) (a2 := 0) (pc1 := 54) (l1 := [(6, .int (v_cTok_signKind x5 σ)), (0, .ref 2), (3, .int x3), (4, .ref 1), (5, .int x5)]) (st1 := [.int (v_cTok_signKind x5 σ)]) (σ1 := σ) (by decide +kernel) rfl (fun hC => ?_)
  rcases Classical.em (¬ (v_cTok_signKind x5 σ) = 0) with hc | hc
  · rw [if_pos hc] at h
    refine jE_ifT 66 hC (by decide) hc ?_
    refine jE_blk (bs := [(.aload_n 0, 0, 0), (.iload 6, 0, 0), (.iload_n 3, 0, 0), (.lconst 0, 0, 0)]) (i := .invokevirtual 95) (a1 := 25) (a2 := 0) (pc1 := 71) (l1 := [(6, .int (v_cTok_signKind x5 σ)), (0, .ref 2), (3, .int x3), (4, .ref 1), (5, .int x5)]) (st1 := [.long (0 : Int64), .int x3, .int (v_cTok_signKind x5 σ), .ref 2]) (σ1 := σ) (by decide +kernel) rfl (fun hC => ?_)
    obtain ⟨q1, hq, h⟩ := Option.bind_eq_some_iff.mp h
    refine jE_call (as := [.ref 2, .int (v_cTok_signKind x5 σ), .int x3, .long (0 : Int64)]) (pc1 := 74) (st1 := []) hC rfl (by decide) (by omega) (x_cTok_add (d - 1) (by omega) (v_cTok_signKind x5 σ) x3 (0 : Int64) σ q1 (none, q1) hq rfl) ?_
    refine jE_blk (bs := [(.iload_n 3, 0, 0), (.iconst (1), 1, 0), (.iadd, 0, 0)]) (i := .ireturn) (a1 := 0) (a2 := 0) (pc1 := 77) (l1 := [(6, .int (v_cTok_signKind x5 σ)), (0, .ref 2), (3, .int x3), (4, .ref 1), (5, .int x5)]) (st1 := [.int (x3 + (1 : Int32))]) (σ1 := q1) (by decide +kernel) rfl (fun hC => ?_)
    have h9 := Option.some.inj h
    subst h9
    have e9 : ((some (.int (x3 + (1 : Int32))), q1) : Option Value × jx_S) = res := hK
    subst e9
    exact jE_ret hC rfl
  · rw [if_neg hc] at h
    refine jE_ifF 66 hC (by decide) hc ?_
    refine jE_blk (bs := [(.aload 4, 0, 0), (.iconst (1), 1, 0), (.iload_n 3, 0, 0)]) (i := .invokevirtual 68) (a1 := 18) (a2 := 0) (pc1 := 61) (l1 := [(6, .int (v_cTok_signKind x5 σ)), (0, .ref 2), (3, .int x3), (4, .ref 1), (5, .int x5)]) (st1 := [.int x3, .int (1 : Int32), .ref 1]) (σ1 := σ) (by decide +kernel) rfl (fun hC => ?_)
    obtain ⟨q2, hq, h⟩ := Option.bind_eq_some_iff.mp h
    refine jE_call (as := [.ref 1, .int (1 : Int32), .int x3]) (pc1 := 64) (st1 := []) hC rfl (by decide) (by omega) (x_cFau_tell (d - 1) (by omega) (1 : Int32) x3 σ q2 (none, q2) hq rfl) ?_
    refine jE_blk (bs := [(.iload_n 3, 0, 0)]) (i := .ireturn) (a1 := 0) (a2 := 0) (pc1 := 65) (l1 := [(6, .int (v_cTok_signKind x5 σ)), (0, .ref 2), (3, .int x3), (4, .ref 1), (5, .int x5)]) (st1 := [.int x3]) (σ1 := q2) (by decide +kernel) rfl (fun hC => ?_)
    have h9 := Option.some.inj h
    subst h9
    have e9 : ((some (.int x3), q2) : Option Value × jx_S) = res := hK
    subst e9
    exact jE_ret hC rfl
def p_cTok_readSign (x2 : Int32) (x3 : Int32) (σ : jx_S) : Option (Int32 × jx_S) := (if ¬ (jI_at 4000 (σ.1 11) x3) = (45 : Int32) then (p_cTok_readSign_45 x3 (jI_at 4000 (σ.1 11) x3) σ) else (if x2 ≤ (x3 + (1 : Int32)) then (p_cTok_readSign_45 x3 (jI_at 4000 (σ.1 11) x3) σ) else (if ¬ (jI_at 4000 (σ.1 11) (x3 + (1 : Int32))) = (62 : Int32) then (p_cTok_readSign_45 x3 (jI_at 4000 (σ.1 11) x3) σ) else ((p_cTok_add (21 : Int32) x3 (0 : Int64) σ).bind fun q3 => (some (((x3 + (2 : Int32)), q3)))))))
theorem x_cTok_readSign (d : Nat) (hd : 2 ≤ d) (x2 : Int32) (x3 : Int32) (σ : jx_S) (t : (Int32 × jx_S)) (res : Option Value × jx_S) (h : p_cTok_readSign x2 x3 σ = some t) (hK : kkI t res) : jE d 24 0 [(0, .ref 2), (1, .ref 10), (2, .int x2), (3, .int x3), (4, .ref 1)] [] σ res := by
  unfold p_cTok_readSign at h
  refine jE_blk (bs := [(.aload_n 1, 0, 0), (.iload_n 3, 0, 0)]) (i := .invokevirtual 65) (a1 := 136) (a2 := 0) (pc1 := 2) (l1 := [(0, .ref 2), (1, .ref 10), (2, .int x2), (3, .int x3), (4, .ref 1)]) (st1 := [.int x3, .ref 10]) (σ1 := σ) (by decide +kernel) rfl (fun hC => ?_)
  refine jE_call (as := [.ref 10, .int x3]) (pc1 := 5) (st1 := []) hC rfl (by decide) (by omega) (xI_at (d - 1) 10 4000 x3 σ (by decide) rfl rfl) ?_
  refine jE_blk (bs := [(.istore 5, 7, 0), (.iload 5, 0, 0), (.bipush (45), 45, 0)]) (i := .if_icmp .ne (34)) (a1 := 0) (a2 := 0) (pc1 := 11) (l1 := [(5, .int (jI_at 4000 (σ.1 11) x3)), (0, .ref 2), (1, .ref 10), (2, .int x2), (3, .int x3), (4, .ref 1)]) (st1 := [.int (45 : Int32), .int (jI_at 4000 (σ.1 11) x3)]) (σ1 := σ) (by decide +kernel) rfl (fun hC => ?_)
  rcases Classical.em (¬ (jI_at 4000 (σ.1 11) x3) = (45 : Int32)) with hc | hc
  · rw [if_pos hc] at h
    refine jE_icT 45 hC (by decide) hc ?_
    exact jE_loc (l := [(0, .ref 2), (3, .int x3), (4, .ref 1), (5, .int (jI_at 4000 (σ.1 11) x3))]) (ks := [0, 3, 4, 5]) rfl (by decide) ⟨rfl, rfl, rfl, rfl, trivial⟩ (x_cTok_readSign_45 d hd x3 (jI_at 4000 (σ.1 11) x3) σ _ res h hK)
  · rw [if_neg hc] at h
    refine jE_icF 45 hC (by decide) hc ?_
    refine jE_blk (bs := [(.iload_n 3, 0, 0), (.iconst (1), 1, 0), (.iadd, 0, 0), (.iload_n 2, 0, 0)]) (i := .if_icmp .ge (27)) (a1 := 0) (a2 := 0) (pc1 := 18) (l1 := [(5, .int (jI_at 4000 (σ.1 11) x3)), (0, .ref 2), (1, .ref 10), (2, .int x2), (3, .int x3), (4, .ref 1)]) (st1 := [.int x2, .int (x3 + (1 : Int32))]) (σ1 := σ) (by decide +kernel) rfl (fun hC => ?_)
    rcases Classical.em (x2 ≤ (x3 + (1 : Int32))) with hc | hc
    · rw [if_pos hc] at h
      refine jE_icT 45 hC (by decide) hc ?_
      exact jE_loc (l := [(0, .ref 2), (3, .int x3), (4, .ref 1), (5, .int (jI_at 4000 (σ.1 11) x3))]) (ks := [0, 3, 4, 5]) rfl (by decide) ⟨rfl, rfl, rfl, rfl, trivial⟩ (x_cTok_readSign_45 d hd x3 (jI_at 4000 (σ.1 11) x3) σ _ res h hK)
    · rw [if_neg hc] at h
      refine jE_icF 45 hC (by decide) hc ?_
      refine jE_blk (bs := [(.aload_n 1, 0, 0), (.iload_n 3, 0, 0), (.iconst (1), 1, 0), (.iadd, 0, 0)]) (i := .invokevirtual 65) (a1 := 136) (a2 := 0) (pc1 := 25) (l1 := [(5, .int (jI_at 4000 (σ.1 11) x3)), (0, .ref 2), (1, .ref 10), (2, .int x2), (3, .int x3), (4, .ref 1)]) (st1 := [.int (x3 + (1 : Int32)), .ref 10]) (σ1 := σ) (by decide +kernel) rfl (fun hC => ?_)
      refine jE_call (as := [.ref 10, .int (x3 + (1 : Int32))]) (pc1 := 28) (st1 := []) hC rfl (by decide) (by omega) (xI_at (d - 1) 10 4000 (x3 + (1 : Int32)) σ (by decide) rfl rfl) ?_
      refine jE_blk (bs := [(.bipush (62), 62, 0)]) (i := .if_icmp .ne (15)) (a1 := 0) (a2 := 0) (pc1 := 30) (l1 := [(5, .int (jI_at 4000 (σ.1 11) x3)), (0, .ref 2), (1, .ref 10), (2, .int x2), (3, .int x3), (4, .ref 1)]) (st1 := [.int (62 : Int32), .int (jI_at 4000 (σ.1 11) (x3 + (1 : Int32)))]) (σ1 := σ) (by decide +kernel) rfl (fun hC => ?_)
      rcases Classical.em (¬ (jI_at 4000 (σ.1 11) (x3 + (1 : Int32))) = (62 : Int32)) with hc | hc
      · rw [if_pos hc] at h
        refine jE_icT 45 hC (by decide) hc ?_
        exact jE_loc (l := [(0, .ref 2), (3, .int x3), (4, .ref 1), (5, .int (jI_at 4000 (σ.1 11) x3))]) (ks := [0, 3, 4, 5]) rfl (by decide) ⟨rfl, rfl, rfl, rfl, trivial⟩ (x_cTok_readSign_45 d hd x3 (jI_at 4000 (σ.1 11) x3) σ _ res h hK)
      · rw [if_neg hc] at h
        refine jE_icF 45 hC (by decide) hc ?_
        refine jE_blk (bs := [(.aload_n 0, 0, 0), (.bipush (21), 21, 0), (.iload_n 3, 0, 0), (.lconst 0, 0, 0)]) (i := .invokevirtual 95) (a1 := 25) (a2 := 0) (pc1 := 38) (l1 := [(5, .int (jI_at 4000 (σ.1 11) x3)), (0, .ref 2), (1, .ref 10), (2, .int x2), (3, .int x3), (4, .ref 1)]) (st1 := [.long (0 : Int64), .int x3, .int (21 : Int32), .ref 2]) (σ1 := σ) (by decide +kernel) rfl (fun hC => ?_)
        obtain ⟨q3, hq, h⟩ := Option.bind_eq_some_iff.mp h
        refine jE_call (as := [.ref 2, .int (21 : Int32), .int x3, .long (0 : Int64)]) (pc1 := 41) (st1 := []) hC rfl (by decide) (by omega) (x_cTok_add (d - 1) (by omega) (21 : Int32) x3 (0 : Int64) σ q3 (none, q3) hq rfl) ?_
        refine jE_blk (bs := [(.iload_n 3, 0, 0), (.iconst (2), 2, 0), (.iadd, 0, 0)]) (i := .ireturn) (a1 := 0) (a2 := 0) (pc1 := 44) (l1 := [(5, .int (jI_at 4000 (σ.1 11) x3)), (0, .ref 2), (1, .ref 10), (2, .int x2), (3, .int x3), (4, .ref 1)]) (st1 := [.int (x3 + (2 : Int32))]) (σ1 := q3) (by decide +kernel) rfl (fun hC => ?_)
        have h9 := Option.some.inj h
        subst h9
        have e9 : ((some (.int (x3 + (2 : Int32))), q3) : Option Value × jx_S) = res := hK
        subst e9
        exact jE_ret hC rfl
def kk_cTok_readNumber_9 (d : Nat) (t : ((Int32 × Int32 × Int64 × Int32 × Int32 × jx_S) ⊕ (Int32 × jx_S))) (res : Option Value × jx_S) : Prop := match t with
  | .inl s => jE d 23 9 [(0, .ref 2), (1, .ref 10), (2, .int s.1), (3, .int s.2.1), (4, .ref 1), (5, .long s.2.2.1), (7, .int s.2.2.2.1), (8, .int s.2.2.2.2.1)] [] s.2.2.2.2.2 res
  | .inr t => kkI t res
def p_cTok_readNumber_65 (x3 : Int32) (x5 : Int64) (x7 : Int32) (σ : jx_S) : Option (Int32 × jx_S) := (if (lg_cmp x5 (2147483647 : Int64)) ≤ 0 then ((p_cTok_add (2 : Int32) x3 x5 σ).bind fun q1 => (some ((x7, q1)))) else ((p_cFau_tell (1 : Int32) x3 σ).bind fun q2 => (some ((x7, q2)))))
theorem x_cTok_readNumber_65 (d : Nat) (hd : 2 ≤ d) (x3 : Int32) (x5 : Int64) (x7 : Int32) (σ : jx_S) (t : (Int32 × jx_S)) (res : Option Value × jx_S) (h : p_cTok_readNumber_65 x3 x5 x7 σ = some t) (hK : kkI t res) : jE d 23 65 [(0, .ref 2), (3, .int x3), (4, .ref 1), (5, .long x5), (7, .int x7)] [] σ res := by
  unfold p_cTok_readNumber_65 at h
  refine jE_blk (bs := [(.lload 5, 0, 0), (.ldc2_w 111, 2147483647, 0), (.lcmp, 0, 0)]) (i := .ifCond .le (13)) (a1 := 0) (a2 := 0) (pc1 := 71) (l1 := [(0, .ref 2), (3, .int x3), (4, .ref 1), (5, .long x5), (7, .int x7)]) (st1 := [.int (lg_cmp x5 (2147483647 : Int64))]) (σ1 := σ) (by decide +kernel) rfl (fun hC => ?_)
  rcases Classical.em ((lg_cmp x5 (2147483647 : Int64)) ≤ 0) with hc | hc
  · rw [if_pos hc] at h
    refine jE_ifT 84 hC (by decide) hc ?_
    refine jE_blk (bs := [(.aload_n 0, 0, 0), (.iconst (2), 2, 0), (.iload_n 3, 0, 0), (.lload 5, 0, 0)]) (i := .invokevirtual 95) (a1 := 25) (a2 := 0) (pc1 := 89) (l1 := [(0, .ref 2), (3, .int x3), (4, .ref 1), (5, .long x5), (7, .int x7)]) (st1 := [.long x5, .int x3, .int (2 : Int32), .ref 2]) (σ1 := σ) (by decide +kernel) rfl (fun hC => ?_)
    obtain ⟨q1, hq, h⟩ := Option.bind_eq_some_iff.mp h
    refine jE_call (as := [.ref 2, .int (2 : Int32), .int x3, .long x5]) (pc1 := 92) (st1 := []) hC rfl (by decide) (by omega) (x_cTok_add (d - 1) (by omega) (2 : Int32) x3 x5 σ q1 (none, q1) hq rfl) ?_
    refine jE_blk (bs := [(.iload 7, 0, 0)]) (i := .ireturn) (a1 := 0) (a2 := 0) (pc1 := 94) (l1 := [(0, .ref 2), (3, .int x3), (4, .ref 1), (5, .long x5), (7, .int x7)]) (st1 := [.int x7]) (σ1 := q1) (by decide +kernel) rfl (fun hC => ?_)
    have h9 := Option.some.inj h
    subst h9
    have e9 : ((some (.int x7), q1) : Option Value × jx_S) = res := hK
    subst e9
    exact jE_ret hC rfl
  · rw [if_neg hc] at h
    refine jE_ifF 84 hC (by decide) hc ?_
    refine jE_blk (bs := [(.aload 4, 0, 0), (.iconst (1), 1, 0), (.iload_n 3, 0, 0)]) (i := .invokevirtual 68) (a1 := 18) (a2 := 0) (pc1 := 78) (l1 := [(0, .ref 2), (3, .int x3), (4, .ref 1), (5, .long x5), (7, .int x7)]) (st1 := [.int x3, .int (1 : Int32), .ref 1]) (σ1 := σ) (by decide +kernel) rfl (fun hC => ?_)
    obtain ⟨q2, hq, h⟩ := Option.bind_eq_some_iff.mp h
    refine jE_call (as := [.ref 1, .int (1 : Int32), .int x3]) (pc1 := 81) (st1 := []) hC rfl (by decide) (by omega) (x_cFau_tell (d - 1) (by omega) (1 : Int32) x3 σ q2 (none, q2) hq rfl) ?_
    refine jE_blk (bs := [(.iload 7, 0, 0)]) (i := .ireturn) (a1 := 0) (a2 := 0) (pc1 := 83) (l1 := [(0, .ref 2), (3, .int x3), (4, .ref 1), (5, .long x5), (7, .int x7)]) (st1 := [.int x7]) (σ1 := q2) (by decide +kernel) rfl (fun hC => ?_)
    have h9 := Option.some.inj h
    subst h9
    have e9 : ((some (.int x7), q2) : Option Value × jx_S) = res := hK
    subst e9
    exact jE_ret hC rfl
def p_cTok_readNumber_9_s (x2 : Int32) (x3 : Int32) (x5 : Int64) (x7 : Int32) (x8 : Int32) (σ : jx_S) : Option ((Int32 × Int32 × Int64 × Int32 × Int32 × jx_S) ⊕ (Int32 × jx_S)) := (if x2 ≤ x8 then (Option.map Sum.inr (p_cTok_readNumber_65 x3 x5 x7 σ)) else (if (v_cTok_isDigit (jI_at 4000 (σ.1 11) x8) σ) = 0 then (Option.map Sum.inr (p_cTok_readNumber_65 x3 x5 x7 σ)) else (some (.inl (x2, x3, (if (4294967296 : Int64) < (((x5 * (10 : Int64)) + ((jI_at 4000 (σ.1 11) x8)).toInt64) - (48 : Int64)) then (4294967296 : Int64) else (((x5 * (10 : Int64)) + ((jI_at 4000 (σ.1 11) x8)).toInt64) - (48 : Int64))), (x8 + (1 : Int32)), (x8 + 1), σ)))))
theorem x_cTok_readNumber_9_s (d : Nat) (hd : 2 ≤ d) (x2 : Int32) (x3 : Int32) (x5 : Int64) (x7 : Int32) (x8 : Int32) (σ : jx_S) (t : ((Int32 × Int32 × Int64 × Int32 × Int32 × jx_S) ⊕ (Int32 × jx_S))) (res : Option Value × jx_S) (h : p_cTok_readNumber_9_s x2 x3 x5 x7 x8 σ = some t) (hK : kk_cTok_readNumber_9 d t res) : jE d 23 9 [(0, .ref 2), (1, .ref 10), (2, .int x2), (3, .int x3), (4, .ref 1), (5, .long x5), (7, .int x7), (8, .int x8)] [] σ res := by
  unfold p_cTok_readNumber_9_s at h
  refine jE_blk (bs := [(.iload 8, 0, 0), (.iload_n 2, 0, 0)]) (i := .if_icmp .ge (53)) (a1 := 0) (a2 := 0) (pc1 := 12) (l1 := [(0, .ref 2), (1, .ref 10), (2, .int x2), (3, .int x3), (4, .ref 1), (5, .long x5), (7, .int x7), (8, .int x8)]) (st1 := [.int x2, .int x8]) (σ1 := σ) (by decide +kernel) rfl (fun hC => ?_)
  rcases Classical.em (x2 ≤ x8) with hc | hc
  · rw [if_pos hc] at h
    refine jE_icT 65 hC (by decide) hc ?_
    obtain ⟨t9_3, h9_3, h8_3⟩ := Option.map_eq_some_iff.mp h
    clear h
    subst h8_3
    have h := h9_3
    clear h9_3
    exact jE_loc (l := [(0, .ref 2), (3, .int x3), (4, .ref 1), (5, .long x5), (7, .int x7)]) (ks := [0, 3, 4, 5, 7]) rfl (by decide) ⟨rfl, rfl, rfl, rfl, rfl, trivial⟩ (x_cTok_readNumber_65 d hd x3 x5 x7 σ _ res h hK)
  · rw [if_neg hc] at h
    refine jE_icF 65 hC (by decide) hc ?_
    refine jE_blk (bs := [(.aload_n 1, 0, 0), (.iload 8, 0, 0)]) (i := .invokevirtual 65) (a1 := 136) (a2 := 0) (pc1 := 18) (l1 := [(0, .ref 2), (1, .ref 10), (2, .int x2), (3, .int x3), (4, .ref 1), (5, .long x5), (7, .int x7), (8, .int x8)]) (st1 := [.int x8, .ref 10]) (σ1 := σ) (by decide +kernel) rfl (fun hC => ?_)
    refine jE_call (as := [.ref 10, .int x8]) (pc1 := 21) (st1 := []) hC rfl (by decide) (by omega) (xI_at (d - 1) 10 4000 x8 σ (by decide) rfl rfl) ?_
    refine jE_blk (bs := []) (i := .invokestatic 81) (a1 := 27) (a2 := 0) (pc1 := 21) (l1 := [(0, .ref 2), (1, .ref 10), (2, .int x2), (3, .int x3), (4, .ref 1), (5, .long x5), (7, .int x7), (8, .int x8)]) (st1 := [.int (jI_at 4000 (σ.1 11) x8)]) (σ1 := σ) (by decide +kernel) rfl (fun hC => ?_)
    refine jE_call (as := [.int (jI_at 4000 (σ.1 11) x8)]) (pc1 := 24) (st1 := []) hC rfl (by decide) (by omega) (xv_cTok_isDigit (d - 1) (by omega) (jI_at 4000 (σ.1 11) x8) σ) ?_
    refine jE_blk (bs := []) (i := .ifCond .eq (41)) (a1 := 0) (a2 := 0) (pc1 := 24) (l1 := [(0, .ref 2), (1, .ref 10), (2, .int x2), (3, .int x3), (4, .ref 1), (5, .long x5), (7, .int x7), (8, .int x8)]) (st1 := [.int (v_cTok_isDigit (jI_at 4000 (σ.1 11) x8) σ)]) (σ1 := σ) (by decide +kernel) rfl (fun hC => ?_)
    rcases Classical.em ((v_cTok_isDigit (jI_at 4000 (σ.1 11) x8) σ) = 0) with hc | hc
    · rw [if_pos hc] at h
      refine jE_ifT 65 hC (by decide) hc ?_
      obtain ⟨t9_4, h9_4, h8_4⟩ := Option.map_eq_some_iff.mp h
      clear h
      subst h8_4
      have h := h9_4
      clear h9_4
      exact jE_loc (l := [(0, .ref 2), (3, .int x3), (4, .ref 1), (5, .long x5), (7, .int x7)]) (ks := [0, 3, 4, 5, 7]) rfl (by decide) ⟨rfl, rfl, rfl, rfl, rfl, trivial⟩ (x_cTok_readNumber_65 d hd x3 x5 x7 σ _ res h hK)
    · rw [if_neg hc] at h
      refine jE_ifF 65 hC (by decide) hc ?_
      refine jE_blk (bs := [(.lload 5, 0, 0), (.ldc2_w 99, 10, 0), (.lmul, 0, 0), (.aload_n 1, 0, 0), (.iload 8, 0, 0)]) (i := .invokevirtual 65) (a1 := 136) (a2 := 0) (pc1 := 36) (l1 := [(0, .ref 2), (1, .ref 10), (2, .int x2), (3, .int x3), (4, .ref 1), (5, .long x5), (7, .int x7), (8, .int x8)]) (st1 := [.int x8, .ref 10, .long (x5 * (10 : Int64))]) (σ1 := σ) (by decide +kernel) rfl (fun hC => ?_)
      refine jE_call (as := [.ref 10, .int x8]) (pc1 := 39) (st1 := [.long (x5 * (10 : Int64))]) hC rfl (by decide) (by omega) (xI_at (d - 1) 10 4000 x8 σ (by decide) rfl rfl) ?_
      refine jE_blk (bs := [(.i2l, 0, 0), (.ladd, 0, 0), (.ldc2_w 101, 48, 0), (.lsub, 0, 0), (.ldc2_w 103, 4294967296, 0)]) (i := .invokestatic 105) (a1 := 10001) (a2 := 0) (pc1 := 48) (l1 := [(0, .ref 2), (1, .ref 10), (2, .int x2), (3, .int x3), (4, .ref 1), (5, .long x5), (7, .int x7), (8, .int x8)]) (st1 := [.long (4294967296 : Int64), .long (((x5 * (10 : Int64)) + ((jI_at 4000 (σ.1 11) x8)).toInt64) - (48 : Int64))]) (σ1 := σ) (by decide +kernel) rfl (fun hC => ?_)
      refine jE_prim (as := [.long (((x5 * (10 : Int64)) + ((jI_at 4000 (σ.1 11) x8)).toInt64) - (48 : Int64)), .long (4294967296 : Int64)]) (pc1 := 51) (st1 := []) (v := .long (if (4294967296 : Int64) < (((x5 * (10 : Int64)) + ((jI_at 4000 (σ.1 11) x8)).toInt64) - (48 : Int64)) then (4294967296 : Int64) else (((x5 * (10 : Int64)) + ((jI_at 4000 (σ.1 11) x8)).toInt64) - (48 : Int64)))) hC rfl rfl (by omega) ?_
      refine jE_blk (bs := [(.lstore 5, 9, 0), (.iload 8, 0, 0), (.iconst (1), 1, 0), (.iadd, 0, 0), (.istore 7, 9, 0), (.iinc 8 (1), 9, 2), (.goto (-53), 0, 0)]) (i := .iload 8) (a1 := 0) (a2 := 0) (pc1 := 9) (l1 := [(8, .int (x8 + 1)), (7, .int (x8 + (1 : Int32))), (5, .long (if (4294967296 : Int64) < (((x5 * (10 : Int64)) + ((jI_at 4000 (σ.1 11) x8)).toInt64) - (48 : Int64)) then (4294967296 : Int64) else (((x5 * (10 : Int64)) + ((jI_at 4000 (σ.1 11) x8)).toInt64) - (48 : Int64)))), (0, .ref 2), (1, .ref 10), (2, .int x2), (3, .int x3), (4, .ref 1)]) (st1 := []) (σ1 := σ) (by decide +kernel) rfl (fun hC => ?_)
      have h9 := Option.some.inj h
      subst h9
      exact jE_loc (l := [(0, .ref 2), (1, .ref 10), (2, .int x2), (3, .int x3), (4, .ref 1), (5, .long (if (4294967296 : Int64) < (((x5 * (10 : Int64)) + ((jI_at 4000 (σ.1 11) x8)).toInt64) - (48 : Int64)) then (4294967296 : Int64) else (((x5 * (10 : Int64)) + ((jI_at 4000 (σ.1 11) x8)).toInt64) - (48 : Int64)))), (7, .int (x8 + (1 : Int32))), (8, .int (x8 + 1))]) (ks := [0, 1, 2, 3, 4, 5, 7, 8]) rfl (by decide) ⟨rfl, rfl, rfl, rfl, rfl, rfl, rfl, rfl, trivial⟩ hK
def p_cTok_readNumber_9 (x2 : Int32) (x3 : Int32) (x5 : Int64) (x7 : Int32) (x8 : Int32) (σ : jx_S) : Option (Int32 × jx_S) := jx_loop 100000000 (fun s => p_cTok_readNumber_9_s s.1 s.2.1 s.2.2.1 s.2.2.2.1 s.2.2.2.2.1 (s.2.2.2.2.2)) (x2, x3, x5, x7, x8, σ)
theorem x_cTok_readNumber_9 (d : Nat) (hd : 2 ≤ d) (x2 : Int32) (x3 : Int32) (x5 : Int64) (x7 : Int32) (x8 : Int32) (σ : jx_S) (t : (Int32 × jx_S)) (res : Option Value × jx_S) (h : p_cTok_readNumber_9 x2 x3 x5 x7 x8 σ = some t) (hK : kkI t res) : jE d 23 9 [(0, .ref 2), (1, .ref 10), (2, .int x2), (3, .int x3), (4, .ref 1), (5, .long x5), (7, .int x7), (8, .int x8)] [] σ res := by
  refine jx_loop_ok (E := fun s t => ∀ res, kkI t res → jE d 23 9 [(0, .ref 2), (1, .ref 10), (2, .int s.1), (3, .int s.2.1), (4, .ref 1), (5, .long s.2.2.1), (7, .int s.2.2.2.1), (8, .int s.2.2.2.2.1)] [] s.2.2.2.2.2 res) (fun s t hs => ?_) _ _ _ h res hK
  cases t with
  | inl s1 => exact fun b hb res hk => x_cTok_readNumber_9_s d hd (s.1) (s.2.1) (s.2.2.1) (s.2.2.2.1) (s.2.2.2.2.1) (s.2.2.2.2.2) _ res hs (hb res hk)
  | inr b => exact fun res hk => x_cTok_readNumber_9_s d hd (s.1) (s.2.1) (s.2.2.1) (s.2.2.2.1) (s.2.2.2.2.1) (s.2.2.2.2.2) _ res hs hk
def p_cTok_readNumber (x2 : Int32) (x3 : Int32) (σ : jx_S) : Option (Int32 × jx_S) := (p_cTok_readNumber_9 x2 x3 (0 : Int64) x3 x3 σ)
theorem x_cTok_readNumber (d : Nat) (hd : 2 ≤ d) (x2 : Int32) (x3 : Int32) (σ : jx_S) (t : (Int32 × jx_S)) (res : Option Value × jx_S) (h : p_cTok_readNumber x2 x3 σ = some t) (hK : kkI t res) : jE d 23 0 [(0, .ref 2), (1, .ref 10), (2, .int x2), (3, .int x3), (4, .ref 1)] [] σ res := by
  unfold p_cTok_readNumber at h
  refine jE_blk (bs := [(.lconst 0, 0, 0), (.lstore 5, 9, 0), (.iload_n 3, 0, 0), (.istore 7, 9, 0), (.iload_n 3, 0, 0), (.istore 8, 9, 0)]) (i := .iload 8) (a1 := 0) (a2 := 0) (pc1 := 9) (l1 := [(8, .int x3), (7, .int x3), (5, .long (0 : Int64)), (0, .ref 2), (1, .ref 10), (2, .int x2), (3, .int x3), (4, .ref 1)]) (st1 := []) (σ1 := σ) (by decide +kernel) rfl (fun hC => ?_)
  exact jE_loc (l := [(0, .ref 2), (1, .ref 10), (2, .int x2), (3, .int x3), (4, .ref 1), (5, .long (0 : Int64)), (7, .int x3), (8, .int x3)]) (ks := [0, 1, 2, 3, 4, 5, 7, 8]) rfl (by decide) ⟨rfl, rfl, rfl, rfl, rfl, rfl, rfl, rfl, trivial⟩ (x_cTok_readNumber_9 d hd x2 x3 (0 : Int64) x3 x3 σ _ res h hK)
def kk_cTok_wordOrName_2 (d : Nat) (t : ((Int64 × Int32 × jx_S) ⊕ (Int32 × jx_S))) (res : Option Value × jx_S) : Prop := match t with
  | .inl s => jE d 26 2 [(0, .ref 2), (1, .long s.1), (3, .int s.2.1)] [] s.2.2 res
  | .inr t => kkI t res
def p_cTok_wordOrName_2_s (x1 : Int64) (x3 : Int32) (σ : jx_S) : Option ((Int64 × Int32 × jx_S) ⊕ (Int32 × jx_S)) := (if (15 : Int32) < x3 then (Option.map Sum.inr (some (((1 : Int32), σ)))) else (if ¬ (lg_cmp (jL_at 16 (σ.2 21) x3) x1) = 0 then (some (.inl (x1, (x3 + 1), σ))) else (Option.map Sum.inr (some ((x3, σ))))))
theorem x_cTok_wordOrName_2_s (d : Nat) (hd : 1 ≤ d) (x1 : Int64) (x3 : Int32) (σ : jx_S) (t : ((Int64 × Int32 × jx_S) ⊕ (Int32 × jx_S))) (res : Option Value × jx_S) (h : p_cTok_wordOrName_2_s x1 x3 σ = some t) (hK : kk_cTok_wordOrName_2 d t res) : jE d 26 2 [(0, .ref 2), (1, .long x1), (3, .int x3)] [] σ res := by
  unfold p_cTok_wordOrName_2_s at h
  refine jE_blk (bs := [(.iload_n 3, 0, 0), (.bipush (15), 15, 0)]) (i := .if_icmp .gt (24)) (a1 := 0) (a2 := 0) (pc1 := 5) (l1 := [(0, .ref 2), (1, .long x1), (3, .int x3)]) (st1 := [.int (15 : Int32), .int x3]) (σ1 := σ) (by decide +kernel) rfl (fun hC => ?_)
  rcases Classical.em ((15 : Int32) < x3) with hc | hc
  · rw [if_pos hc] at h
    refine jE_icT 29 hC (by decide) hc ?_
    obtain ⟨t9_1, h9_1, h8_1⟩ := Option.map_eq_some_iff.mp h
    clear h
    subst h8_1
    have h := h9_1
    clear h9_1
    refine jE_blk (bs := [(.iconst (1), 1, 0)]) (i := .ireturn) (a1 := 0) (a2 := 0) (pc1 := 30) (l1 := [(0, .ref 2), (1, .long x1), (3, .int x3)]) (st1 := [.int (1 : Int32)]) (σ1 := σ) (by decide +kernel) rfl (fun hC => ?_)
    have h9 := Option.some.inj h
    subst h9
    have e9 : ((some (.int (1 : Int32)), σ) : Option Value × jx_S) = res := hK
    subst e9
    exact jE_ret hC rfl
  · rw [if_neg hc] at h
    refine jE_icF 29 hC (by decide) hc ?_
    refine jE_blk (bs := [(.aload_n 0, 0, 0), (.getfield 30, 2, 3), (.iload_n 3, 0, 0)]) (i := .invokevirtual 116) (a1 := 140) (a2 := 0) (pc1 := 13) (l1 := [(0, .ref 2), (1, .long x1), (3, .int x3)]) (st1 := [.int x3, .ref 20]) (σ1 := σ) (by decide +kernel) rfl (fun hC => ?_)
    refine jE_call (as := [.ref 20, .int x3]) (pc1 := 16) (st1 := []) hC rfl (by decide) (by omega) (xL_at (d - 1) 20 16 x3 σ (by decide) rfl rfl) ?_
    refine jE_blk (bs := [(.lload_n 1, 0, 0), (.lcmp, 0, 0)]) (i := .ifCond .ne (5)) (a1 := 0) (a2 := 0) (pc1 := 18) (l1 := [(0, .ref 2), (1, .long x1), (3, .int x3)]) (st1 := [.int (lg_cmp (jL_at 16 (σ.2 21) x3) x1)]) (σ1 := σ) (by decide +kernel) rfl (fun hC => ?_)
    rcases Classical.em (¬ (lg_cmp (jL_at 16 (σ.2 21) x3) x1) = 0) with hc | hc
    · rw [if_pos hc] at h
      refine jE_ifT 23 hC (by decide) hc ?_
      refine jE_blk (bs := [(.iinc 3 (1), 4, 2), (.goto (-24), 0, 0)]) (i := .iload_n 3) (a1 := 0) (a2 := 0) (pc1 := 2) (l1 := [(3, .int (x3 + 1)), (0, .ref 2), (1, .long x1)]) (st1 := []) (σ1 := σ) (by decide +kernel) rfl (fun hC => ?_)
      have h9 := Option.some.inj h
      subst h9
      exact jE_loc (l := [(0, .ref 2), (1, .long x1), (3, .int (x3 + 1))]) (ks := [0, 1, 3]) rfl (by decide) ⟨rfl, rfl, rfl, trivial⟩ hK
    · rw [if_neg hc] at h
      refine jE_ifF 23 hC (by decide) hc ?_
      obtain ⟨t9_2, h9_2, h8_2⟩ := Option.map_eq_some_iff.mp h
      clear h
      subst h8_2
      have h := h9_2
      clear h9_2
      refine jE_blk (bs := [(.iload_n 3, 0, 0)]) (i := .ireturn) (a1 := 0) (a2 := 0) (pc1 := 22) (l1 := [(0, .ref 2), (1, .long x1), (3, .int x3)]) (st1 := [.int x3]) (σ1 := σ) (by decide +kernel) rfl (fun hC => ?_)
      have h9 := Option.some.inj h
      subst h9
      have e9 : ((some (.int x3), σ) : Option Value × jx_S) = res := hK
      subst e9
      exact jE_ret hC rfl
def p_cTok_wordOrName_2 (x1 : Int64) (x3 : Int32) (σ : jx_S) : Option (Int32 × jx_S) := jx_loop 100000000 (fun s => p_cTok_wordOrName_2_s s.1 s.2.1 (s.2.2)) (x1, x3, σ)
theorem x_cTok_wordOrName_2 (d : Nat) (hd : 1 ≤ d) (x1 : Int64) (x3 : Int32) (σ : jx_S) (t : (Int32 × jx_S)) (res : Option Value × jx_S) (h : p_cTok_wordOrName_2 x1 x3 σ = some t) (hK : kkI t res) : jE d 26 2 [(0, .ref 2), (1, .long x1), (3, .int x3)] [] σ res := by
  refine jx_loop_ok (E := fun s t => ∀ res, kkI t res → jE d 26 2 [(0, .ref 2), (1, .long s.1), (3, .int s.2.1)] [] s.2.2 res) (fun s t hs => ?_) _ _ _ h res hK
  cases t with
  | inl s1 => exact fun b hb res hk => x_cTok_wordOrName_2_s d hd (s.1) (s.2.1) (s.2.2) _ res hs (hb res hk)
  | inr b => exact fun res hk => x_cTok_wordOrName_2_s d hd (s.1) (s.2.1) (s.2.2) _ res hs hk
def p_cTok_wordOrName (x1 : Int64) (σ : jx_S) : Option (Int32 × jx_S) := (p_cTok_wordOrName_2 x1 (3 : Int32) σ)
theorem x_cTok_wordOrName (d : Nat) (hd : 1 ≤ d) (x1 : Int64) (σ : jx_S) (t : (Int32 × jx_S)) (res : Option Value × jx_S) (h : p_cTok_wordOrName x1 σ = some t) (hK : kkI t res) : jE d 26 0 [(0, .ref 2), (1, .long x1)] [] σ res := by
  unfold p_cTok_wordOrName at h
  refine jE_blk (bs := [(.iconst (3), 3, 0), (.istore_n 3, 4, 0)]) (i := .iload_n 3) (a1 := 0) (a2 := 0) (pc1 := 2) (l1 := [(3, .int (3 : Int32)), (0, .ref 2), (1, .long x1)]) (st1 := []) (σ1 := σ) (by decide +kernel) rfl (fun hC => ?_)
  exact jE_loc (l := [(0, .ref 2), (1, .long x1), (3, .int (3 : Int32))]) (ks := [0, 1, 3]) rfl (by decide) ⟨rfl, rfl, rfl, trivial⟩ (x_cTok_wordOrName_2 d hd x1 (3 : Int32) σ _ res h hK)
def kk_cTok_readName_9 (d : Nat) (t : ((Int32 × Int32 × Int64 × Int32 × Int32 × jx_S) ⊕ (Int32 × jx_S))) (res : Option Value × jx_S) : Prop := match t with
  | .inl s => jE d 22 9 [(0, .ref 2), (1, .ref 10), (2, .int s.1), (3, .int s.2.1), (4, .ref 1), (5, .long s.2.2.1), (7, .int s.2.2.2.1), (8, .int s.2.2.2.2.1)] [] s.2.2.2.2.2 res
  | .inr t => kkI t res
def p_cTok_readName_58 (x3 : Int32) (x5 : Int64) (x7 : Int32) (σ : jx_S) : Option (Int32 × jx_S) := (if (x7 - x3) ≤ (12 : Int32) then ((p_cTok_wordOrName x5 σ).bind fun q1 => ((p_cTok_add q1.1 x3 x5 q1.2).bind fun q2 => (some ((x7, q2))))) else ((p_cFau_tell (1 : Int32) x3 σ).bind fun q3 => (some ((x7, q3)))))
theorem x_cTok_readName_58 (d : Nat) (hd : 2 ≤ d) (x3 : Int32) (x5 : Int64) (x7 : Int32) (σ : jx_S) (t : (Int32 × jx_S)) (res : Option Value × jx_S) (h : p_cTok_readName_58 x3 x5 x7 σ = some t) (hK : kkI t res) : jE d 22 58 [(0, .ref 2), (3, .int x3), (4, .ref 1), (5, .long x5), (7, .int x7)] [] σ res := by
  unfold p_cTok_readName_58 at h
  refine jE_blk (bs := [(.iload 7, 0, 0), (.iload_n 3, 0, 0), (.isub, 0, 0), (.bipush (12), 12, 0)]) (i := .if_icmp .le (13)) (a1 := 0) (a2 := 0) (pc1 := 64) (l1 := [(0, .ref 2), (3, .int x3), (4, .ref 1), (5, .long x5), (7, .int x7)]) (st1 := [.int (12 : Int32), .int (x7 - x3)]) (σ1 := σ) (by decide +kernel) rfl (fun hC => ?_)
  rcases Classical.em ((x7 - x3) ≤ (12 : Int32)) with hc | hc
  · rw [if_pos hc] at h
    refine jE_icT 77 hC (by decide) hc ?_
    refine jE_blk (bs := [(.aload_n 0, 0, 0), (.aload_n 0, 0, 0), (.lload 5, 0, 0)]) (i := .invokevirtual 91) (a1 := 26) (a2 := 0) (pc1 := 81) (l1 := [(0, .ref 2), (3, .int x3), (4, .ref 1), (5, .long x5), (7, .int x7)]) (st1 := [.long x5, .ref 2, .ref 2]) (σ1 := σ) (by decide +kernel) rfl (fun hC => ?_)
    obtain ⟨q1, hq, h⟩ := Option.bind_eq_some_iff.mp h
    refine jE_call (as := [.ref 2, .long x5]) (pc1 := 84) (st1 := [.ref 2]) hC rfl (by decide) (by omega) (x_cTok_wordOrName (d - 1) (by omega) x5 σ q1 (some (.int q1.1), q1.2) hq rfl) ?_
    refine jE_blk (bs := [(.iload_n 3, 0, 0), (.lload 5, 0, 0)]) (i := .invokevirtual 95) (a1 := 25) (a2 := 0) (pc1 := 87) (l1 := [(0, .ref 2), (3, .int x3), (4, .ref 1), (5, .long x5), (7, .int x7)]) (st1 := [.long x5, .int x3, .int q1.1, .ref 2]) (σ1 := q1.2) (by decide +kernel) rfl (fun hC => ?_)
    obtain ⟨q2, hq, h⟩ := Option.bind_eq_some_iff.mp h
    refine jE_call (as := [.ref 2, .int q1.1, .int x3, .long x5]) (pc1 := 90) (st1 := []) hC rfl (by decide) (by omega) (x_cTok_add (d - 1) (by omega) q1.1 x3 x5 q1.2 q2 (none, q2) hq rfl) ?_
    refine jE_blk (bs := [(.iload 7, 0, 0)]) (i := .ireturn) (a1 := 0) (a2 := 0) (pc1 := 92) (l1 := [(0, .ref 2), (3, .int x3), (4, .ref 1), (5, .long x5), (7, .int x7)]) (st1 := [.int x7]) (σ1 := q2) (by decide +kernel) rfl (fun hC => ?_)
    have h9 := Option.some.inj h
    subst h9
    have e9 : ((some (.int x7), q2) : Option Value × jx_S) = res := hK
    subst e9
    exact jE_ret hC rfl
  · rw [if_neg hc] at h
    refine jE_icF 77 hC (by decide) hc ?_
    refine jE_blk (bs := [(.aload 4, 0, 0), (.iconst (1), 1, 0), (.iload_n 3, 0, 0)]) (i := .invokevirtual 68) (a1 := 18) (a2 := 0) (pc1 := 71) (l1 := [(0, .ref 2), (3, .int x3), (4, .ref 1), (5, .long x5), (7, .int x7)]) (st1 := [.int x3, .int (1 : Int32), .ref 1]) (σ1 := σ) (by decide +kernel) rfl (fun hC => ?_)
    obtain ⟨q3, hq, h⟩ := Option.bind_eq_some_iff.mp h
    refine jE_call (as := [.ref 1, .int (1 : Int32), .int x3]) (pc1 := 74) (st1 := []) hC rfl (by decide) (by omega) (x_cFau_tell (d - 1) (by omega) (1 : Int32) x3 σ q3 (none, q3) hq rfl) ?_
    refine jE_blk (bs := [(.iload 7, 0, 0)]) (i := .ireturn) (a1 := 0) (a2 := 0) (pc1 := 76) (l1 := [(0, .ref 2), (3, .int x3), (4, .ref 1), (5, .long x5), (7, .int x7)]) (st1 := [.int x7]) (σ1 := q3) (by decide +kernel) rfl (fun hC => ?_)
    have h9 := Option.some.inj h
    subst h9
    have e9 : ((some (.int x7), q3) : Option Value × jx_S) = res := hK
    subst e9
    exact jE_ret hC rfl
def p_cTok_readName_9_s (x2 : Int32) (x3 : Int32) (x5 : Int64) (x7 : Int32) (x8 : Int32) (σ : jx_S) : Option ((Int32 × Int32 × Int64 × Int32 × Int32 × jx_S) ⊕ (Int32 × jx_S)) := (if x2 ≤ x8 then (Option.map Sum.inr (p_cTok_readName_58 x3 x5 x7 σ)) else (if (v_cTok_letterCode (jI_at 4000 (σ.1 11) x8) σ) = 0 then (Option.map Sum.inr (p_cTok_readName_58 x3 x5 x7 σ)) else (some (.inl (x2, x3, ((x5 * (37 : Int64)) + ((v_cTok_letterCode (jI_at 4000 (σ.1 11) x8) σ)).toInt64), (x8 + (1 : Int32)), (x8 + 1), σ)))))
theorem x_cTok_readName_9_s (d : Nat) (hd : 2 ≤ d) (x2 : Int32) (x3 : Int32) (x5 : Int64) (x7 : Int32) (x8 : Int32) (σ : jx_S) (t : ((Int32 × Int32 × Int64 × Int32 × Int32 × jx_S) ⊕ (Int32 × jx_S))) (res : Option Value × jx_S) (h : p_cTok_readName_9_s x2 x3 x5 x7 x8 σ = some t) (hK : kk_cTok_readName_9 d t res) : jE d 22 9 [(0, .ref 2), (1, .ref 10), (2, .int x2), (3, .int x3), (4, .ref 1), (5, .long x5), (7, .int x7), (8, .int x8)] [] σ res := by
  unfold p_cTok_readName_9_s at h
  refine jE_blk (bs := [(.iload 8, 0, 0), (.iload_n 2, 0, 0)]) (i := .if_icmp .ge (46)) (a1 := 0) (a2 := 0) (pc1 := 12) (l1 := [(0, .ref 2), (1, .ref 10), (2, .int x2), (3, .int x3), (4, .ref 1), (5, .long x5), (7, .int x7), (8, .int x8)]) (st1 := [.int x2, .int x8]) (σ1 := σ) (by decide +kernel) rfl (fun hC => ?_)
  rcases Classical.em (x2 ≤ x8) with hc | hc
  · rw [if_pos hc] at h
    refine jE_icT 58 hC (by decide) hc ?_
    obtain ⟨t9_4, h9_4, h8_4⟩ := Option.map_eq_some_iff.mp h
    clear h
    subst h8_4
    have h := h9_4
    clear h9_4
    exact jE_loc (l := [(0, .ref 2), (3, .int x3), (4, .ref 1), (5, .long x5), (7, .int x7)]) (ks := [0, 3, 4, 5, 7]) rfl (by decide) ⟨rfl, rfl, rfl, rfl, rfl, trivial⟩ (x_cTok_readName_58 d hd x3 x5 x7 σ _ res h hK)
  · rw [if_neg hc] at h
    refine jE_icF 58 hC (by decide) hc ?_
    refine jE_blk (bs := [(.aload_n 1, 0, 0), (.iload 8, 0, 0)]) (i := .invokevirtual 65) (a1 := 136) (a2 := 0) (pc1 := 18) (l1 := [(0, .ref 2), (1, .ref 10), (2, .int x2), (3, .int x3), (4, .ref 1), (5, .long x5), (7, .int x7), (8, .int x8)]) (st1 := [.int x8, .ref 10]) (σ1 := σ) (by decide +kernel) rfl (fun hC => ?_)
    refine jE_call (as := [.ref 10, .int x8]) (pc1 := 21) (st1 := []) hC rfl (by decide) (by omega) (xI_at (d - 1) 10 4000 x8 σ (by decide) rfl rfl) ?_
    refine jE_blk (bs := []) (i := .invokestatic 51) (a1 := 28) (a2 := 0) (pc1 := 21) (l1 := [(0, .ref 2), (1, .ref 10), (2, .int x2), (3, .int x3), (4, .ref 1), (5, .long x5), (7, .int x7), (8, .int x8)]) (st1 := [.int (jI_at 4000 (σ.1 11) x8)]) (σ1 := σ) (by decide +kernel) rfl (fun hC => ?_)
    refine jE_call (as := [.int (jI_at 4000 (σ.1 11) x8)]) (pc1 := 24) (st1 := []) hC rfl (by decide) (by omega) (xv_cTok_letterCode (d - 1) (by omega) (jI_at 4000 (σ.1 11) x8) σ) ?_
    refine jE_blk (bs := []) (i := .ifCond .eq (34)) (a1 := 0) (a2 := 0) (pc1 := 24) (l1 := [(0, .ref 2), (1, .ref 10), (2, .int x2), (3, .int x3), (4, .ref 1), (5, .long x5), (7, .int x7), (8, .int x8)]) (st1 := [.int (v_cTok_letterCode (jI_at 4000 (σ.1 11) x8) σ)]) (σ1 := σ) (by decide +kernel) rfl (fun hC => ?_)
    rcases Classical.em ((v_cTok_letterCode (jI_at 4000 (σ.1 11) x8) σ) = 0) with hc | hc
    · rw [if_pos hc] at h
      refine jE_ifT 58 hC (by decide) hc ?_
      obtain ⟨t9_5, h9_5, h8_5⟩ := Option.map_eq_some_iff.mp h
      clear h
      subst h8_5
      have h := h9_5
      clear h9_5
      exact jE_loc (l := [(0, .ref 2), (3, .int x3), (4, .ref 1), (5, .long x5), (7, .int x7)]) (ks := [0, 3, 4, 5, 7]) rfl (by decide) ⟨rfl, rfl, rfl, rfl, rfl, trivial⟩ (x_cTok_readName_58 d hd x3 x5 x7 σ _ res h hK)
    · rw [if_neg hc] at h
      refine jE_ifF 58 hC (by decide) hc ?_
      refine jE_blk (bs := [(.lload 5, 0, 0), (.ldc2_w 49, 37, 0), (.lmul, 0, 0), (.aload_n 1, 0, 0), (.iload 8, 0, 0)]) (i := .invokevirtual 65) (a1 := 136) (a2 := 0) (pc1 := 36) (l1 := [(0, .ref 2), (1, .ref 10), (2, .int x2), (3, .int x3), (4, .ref 1), (5, .long x5), (7, .int x7), (8, .int x8)]) (st1 := [.int x8, .ref 10, .long (x5 * (37 : Int64))]) (σ1 := σ) (by decide +kernel) rfl (fun hC => ?_)
      refine jE_call (as := [.ref 10, .int x8]) (pc1 := 39) (st1 := [.long (x5 * (37 : Int64))]) hC rfl (by decide) (by omega) (xI_at (d - 1) 10 4000 x8 σ (by decide) rfl rfl) ?_
      refine jE_blk (bs := []) (i := .invokestatic 51) (a1 := 28) (a2 := 0) (pc1 := 39) (l1 := [(0, .ref 2), (1, .ref 10), (2, .int x2), (3, .int x3), (4, .ref 1), (5, .long x5), (7, .int x7), (8, .int x8)]) (st1 := [.int (jI_at 4000 (σ.1 11) x8), .long (x5 * (37 : Int64))]) (σ1 := σ) (by decide +kernel) rfl (fun hC => ?_)
      refine jE_call (as := [.int (jI_at 4000 (σ.1 11) x8)]) (pc1 := 42) (st1 := [.long (x5 * (37 : Int64))]) hC rfl (by decide) (by omega) (xv_cTok_letterCode (d - 1) (by omega) (jI_at 4000 (σ.1 11) x8) σ) ?_
      refine jE_blk (bs := [(.i2l, 0, 0), (.ladd, 0, 0), (.lstore 5, 9, 0), (.iload 8, 0, 0), (.iconst (1), 1, 0), (.iadd, 0, 0), (.istore 7, 9, 0), (.iinc 8 (1), 9, 2), (.goto (-46), 0, 0)]) (i := .iload 8) (a1 := 0) (a2 := 0) (pc1 := 9) (l1 := [(8, .int (x8 + 1)), (7, .int (x8 + (1 : Int32))), (5, .long ((x5 * (37 : Int64)) + ((v_cTok_letterCode (jI_at 4000 (σ.1 11) x8) σ)).toInt64)), (0, .ref 2), (1, .ref 10), (2, .int x2), (3, .int x3), (4, .ref 1)]) (st1 := []) (σ1 := σ) (by decide +kernel) rfl (fun hC => ?_)
      have h9 := Option.some.inj h
      subst h9
      exact jE_loc (l := [(0, .ref 2), (1, .ref 10), (2, .int x2), (3, .int x3), (4, .ref 1), (5, .long ((x5 * (37 : Int64)) + ((v_cTok_letterCode (jI_at 4000 (σ.1 11) x8) σ)).toInt64)), (7, .int (x8 + (1 : Int32))), (8, .int (x8 + 1))]) (ks := [0, 1, 2, 3, 4, 5, 7, 8]) rfl (by decide) ⟨rfl, rfl, rfl, rfl, rfl, rfl, rfl, rfl, trivial⟩ hK
def p_cTok_readName_9 (x2 : Int32) (x3 : Int32) (x5 : Int64) (x7 : Int32) (x8 : Int32) (σ : jx_S) : Option (Int32 × jx_S) := jx_loop 100000000 (fun s => p_cTok_readName_9_s s.1 s.2.1 s.2.2.1 s.2.2.2.1 s.2.2.2.2.1 (s.2.2.2.2.2)) (x2, x3, x5, x7, x8, σ)
theorem x_cTok_readName_9 (d : Nat) (hd : 2 ≤ d) (x2 : Int32) (x3 : Int32) (x5 : Int64) (x7 : Int32) (x8 : Int32) (σ : jx_S) (t : (Int32 × jx_S)) (res : Option Value × jx_S) (h : p_cTok_readName_9 x2 x3 x5 x7 x8 σ = some t) (hK : kkI t res) : jE d 22 9 [(0, .ref 2), (1, .ref 10), (2, .int x2), (3, .int x3), (4, .ref 1), (5, .long x5), (7, .int x7), (8, .int x8)] [] σ res := by
  refine jx_loop_ok (E := fun s t => ∀ res, kkI t res → jE d 22 9 [(0, .ref 2), (1, .ref 10), (2, .int s.1), (3, .int s.2.1), (4, .ref 1), (5, .long s.2.2.1), (7, .int s.2.2.2.1), (8, .int s.2.2.2.2.1)] [] s.2.2.2.2.2 res) (fun s t hs => ?_) _ _ _ h res hK
  cases t with
  | inl s1 => exact fun b hb res hk => x_cTok_readName_9_s d hd (s.1) (s.2.1) (s.2.2.1) (s.2.2.2.1) (s.2.2.2.2.1) (s.2.2.2.2.2) _ res hs (hb res hk)
  | inr b => exact fun res hk => x_cTok_readName_9_s d hd (s.1) (s.2.1) (s.2.2.1) (s.2.2.2.1) (s.2.2.2.2.1) (s.2.2.2.2.2) _ res hs hk
def p_cTok_readName (x2 : Int32) (x3 : Int32) (σ : jx_S) : Option (Int32 × jx_S) := (p_cTok_readName_9 x2 x3 (0 : Int64) x3 x3 σ)
theorem x_cTok_readName (d : Nat) (hd : 2 ≤ d) (x2 : Int32) (x3 : Int32) (σ : jx_S) (t : (Int32 × jx_S)) (res : Option Value × jx_S) (h : p_cTok_readName x2 x3 σ = some t) (hK : kkI t res) : jE d 22 0 [(0, .ref 2), (1, .ref 10), (2, .int x2), (3, .int x3), (4, .ref 1)] [] σ res := by
  unfold p_cTok_readName at h
  refine jE_blk (bs := [(.lconst 0, 0, 0), (.lstore 5, 9, 0), (.iload_n 3, 0, 0), (.istore 7, 9, 0), (.iload_n 3, 0, 0), (.istore 8, 9, 0)]) (i := .iload 8) (a1 := 0) (a2 := 0) (pc1 := 9) (l1 := [(8, .int x3), (7, .int x3), (5, .long (0 : Int64)), (0, .ref 2), (1, .ref 10), (2, .int x2), (3, .int x3), (4, .ref 1)]) (st1 := []) (σ1 := σ) (by decide +kernel) rfl (fun hC => ?_)
  exact jE_loc (l := [(0, .ref 2), (1, .ref 10), (2, .int x2), (3, .int x3), (4, .ref 1), (5, .long (0 : Int64)), (7, .int x3), (8, .int x3)]) (ks := [0, 1, 2, 3, 4, 5, 7, 8]) rfl (by decide) ⟨rfl, rfl, rfl, rfl, rfl, rfl, rfl, rfl, trivial⟩ (x_cTok_readName_9 d hd x2 x3 (0 : Int64) x3 x3 σ _ res h hK)
def p_cTok_readToken (x2 : Int32) (x3 : Int32) (σ : jx_S) : Option (Int32 × jx_S) := (if ¬ (v_cTok_letterCode (jI_at 4000 (σ.1 11) x3) σ) = 0 then (if (v_cTok_isDigit (jI_at 4000 (σ.1 11) x3) σ) = 0 then ((p_cTok_readName x2 x3 σ).bind fun q1 => (some ((q1.1, q1.2)))) else ((p_cTok_readNumber x2 x3 σ).bind fun q2 => (some ((q2.1, q2.2))))) else ((p_cTok_readSign x2 x3 σ).bind fun q3 => (some ((q3.1, q3.2)))))
theorem x_cTok_readToken (d : Nat) (hd : 3 ≤ d) (x2 : Int32) (x3 : Int32) (σ : jx_S) (t : (Int32 × jx_S)) (res : Option Value × jx_S) (h : p_cTok_readToken x2 x3 σ = some t) (hK : kkI t res) : jE d 21 0 [(0, .ref 2), (1, .ref 10), (2, .int x2), (3, .int x3), (4, .ref 1)] [] σ res := by
  unfold p_cTok_readToken at h
  refine jE_blk (bs := [(.aload_n 1, 0, 0), (.iload_n 3, 0, 0)]) (i := .invokevirtual 65) (a1 := 136) (a2 := 0) (pc1 := 2) (l1 := [(0, .ref 2), (1, .ref 10), (2, .int x2), (3, .int x3), (4, .ref 1)]) (st1 := [.int x3, .ref 10]) (σ1 := σ) (by decide +kernel) rfl (fun hC => ?_)
  refine jE_call (as := [.ref 10, .int x3]) (pc1 := 5) (st1 := []) hC rfl (by decide) (by omega) (xI_at (d - 1) 10 4000 x3 σ (by decide) rfl rfl) ?_
  refine jE_blk (bs := []) (i := .invokestatic 51) (a1 := 28) (a2 := 0) (pc1 := 5) (l1 := [(0, .ref 2), (1, .ref 10), (2, .int x2), (3, .int x3), (4, .ref 1)]) (st1 := [.int (jI_at 4000 (σ.1 11) x3)]) (σ1 := σ) (by decide +kernel) rfl (fun hC => ?_)
  refine jE_call (as := [.int (jI_at 4000 (σ.1 11) x3)]) (pc1 := 8) (st1 := []) hC rfl (by decide) (by omega) (xv_cTok_letterCode (d - 1) (by omega) (jI_at 4000 (σ.1 11) x3) σ) ?_
  refine jE_blk (bs := []) (i := .ifCond .ne (13)) (a1 := 0) (a2 := 0) (pc1 := 8) (l1 := [(0, .ref 2), (1, .ref 10), (2, .int x2), (3, .int x3), (4, .ref 1)]) (st1 := [.int (v_cTok_letterCode (jI_at 4000 (σ.1 11) x3) σ)]) (σ1 := σ) (by decide +kernel) rfl (fun hC => ?_)
  rcases Classical.em (¬ (v_cTok_letterCode (jI_at 4000 (σ.1 11) x3) σ) = 0) with hc | hc
  · rw [if_pos hc] at h
    refine jE_ifT 21 hC (by decide) hc ?_
    refine jE_blk (bs := [(.aload_n 1, 0, 0), (.iload_n 3, 0, 0)]) (i := .invokevirtual 65) (a1 := 136) (a2 := 0) (pc1 := 23) (l1 := [(0, .ref 2), (1, .ref 10), (2, .int x2), (3, .int x3), (4, .ref 1)]) (st1 := [.int x3, .ref 10]) (σ1 := σ) (by decide +kernel) rfl (fun hC => ?_)
    refine jE_call (as := [.ref 10, .int x3]) (pc1 := 26) (st1 := []) hC rfl (by decide) (by omega) (xI_at (d - 1) 10 4000 x3 σ (by decide) rfl rfl) ?_
    refine jE_blk (bs := []) (i := .invokestatic 81) (a1 := 27) (a2 := 0) (pc1 := 26) (l1 := [(0, .ref 2), (1, .ref 10), (2, .int x2), (3, .int x3), (4, .ref 1)]) (st1 := [.int (jI_at 4000 (σ.1 11) x3)]) (σ1 := σ) (by decide +kernel) rfl (fun hC => ?_)
    refine jE_call (as := [.int (jI_at 4000 (σ.1 11) x3)]) (pc1 := 29) (st1 := []) hC rfl (by decide) (by omega) (xv_cTok_isDigit (d - 1) (by omega) (jI_at 4000 (σ.1 11) x3) σ) ?_
    refine jE_blk (bs := []) (i := .ifCond .eq (15)) (a1 := 0) (a2 := 0) (pc1 := 29) (l1 := [(0, .ref 2), (1, .ref 10), (2, .int x2), (3, .int x3), (4, .ref 1)]) (st1 := [.int (v_cTok_isDigit (jI_at 4000 (σ.1 11) x3) σ)]) (σ1 := σ) (by decide +kernel) rfl (fun hC => ?_)
    rcases Classical.em ((v_cTok_isDigit (jI_at 4000 (σ.1 11) x3) σ) = 0) with hc | hc
    · rw [if_pos hc] at h
      refine jE_ifT 44 hC (by decide) hc ?_
      refine jE_blk (bs := [(.aload_n 0, 0, 0), (.aload_n 1, 0, 0), (.iload_n 2, 0, 0), (.iload_n 3, 0, 0), (.aload 4, 0, 0)]) (i := .invokevirtual 88) (a1 := 22) (a2 := 0) (pc1 := 50) (l1 := [(0, .ref 2), (1, .ref 10), (2, .int x2), (3, .int x3), (4, .ref 1)]) (st1 := [.ref 1, .int x3, .int x2, .ref 10, .ref 2]) (σ1 := σ) (by decide +kernel) rfl (fun hC => ?_)
      obtain ⟨q1, hq, h⟩ := Option.bind_eq_some_iff.mp h
      refine jE_call (as := [.ref 2, .ref 10, .int x2, .int x3, .ref 1]) (pc1 := 53) (st1 := []) hC rfl (by decide) (by omega) (x_cTok_readName (d - 1) (by omega) x2 x3 σ q1 (some (.int q1.1), q1.2) hq rfl) ?_
      refine jE_blk (bs := []) (i := .ireturn) (a1 := 0) (a2 := 0) (pc1 := 53) (l1 := [(0, .ref 2), (1, .ref 10), (2, .int x2), (3, .int x3), (4, .ref 1)]) (st1 := [.int q1.1]) (σ1 := q1.2) (by decide +kernel) rfl (fun hC => ?_)
      have h9 := Option.some.inj h
      subst h9
      have e9 : ((some (.int q1.1), q1.2) : Option Value × jx_S) = res := hK
      subst e9
      exact jE_ret hC rfl
    · rw [if_neg hc] at h
      refine jE_ifF 44 hC (by decide) hc ?_
      refine jE_blk (bs := [(.aload_n 0, 0, 0), (.aload_n 1, 0, 0), (.iload_n 2, 0, 0), (.iload_n 3, 0, 0), (.aload 4, 0, 0)]) (i := .invokevirtual 85) (a1 := 23) (a2 := 0) (pc1 := 38) (l1 := [(0, .ref 2), (1, .ref 10), (2, .int x2), (3, .int x3), (4, .ref 1)]) (st1 := [.ref 1, .int x3, .int x2, .ref 10, .ref 2]) (σ1 := σ) (by decide +kernel) rfl (fun hC => ?_)
      obtain ⟨q2, hq, h⟩ := Option.bind_eq_some_iff.mp h
      refine jE_call (as := [.ref 2, .ref 10, .int x2, .int x3, .ref 1]) (pc1 := 41) (st1 := []) hC rfl (by decide) (by omega) (x_cTok_readNumber (d - 1) (by omega) x2 x3 σ q2 (some (.int q2.1), q2.2) hq rfl) ?_
      refine jE_blk (bs := [(.goto (12), 0, 0)]) (i := .ireturn) (a1 := 0) (a2 := 0) (pc1 := 53) (l1 := [(0, .ref 2), (1, .ref 10), (2, .int x2), (3, .int x3), (4, .ref 1)]) (st1 := [.int q2.1]) (σ1 := q2.2) (by decide +kernel) rfl (fun hC => ?_)
      have h9 := Option.some.inj h
      subst h9
      have e9 : ((some (.int q2.1), q2.2) : Option Value × jx_S) = res := hK
      subst e9
      exact jE_ret hC rfl
  · rw [if_neg hc] at h
    refine jE_ifF 21 hC (by decide) hc ?_
    refine jE_blk (bs := [(.aload_n 0, 0, 0), (.aload_n 1, 0, 0), (.iload_n 2, 0, 0), (.iload_n 3, 0, 0), (.aload 4, 0, 0)]) (i := .invokevirtual 78) (a1 := 24) (a2 := 0) (pc1 := 17) (l1 := [(0, .ref 2), (1, .ref 10), (2, .int x2), (3, .int x3), (4, .ref 1)]) (st1 := [.ref 1, .int x3, .int x2, .ref 10, .ref 2]) (σ1 := σ) (by decide +kernel) rfl (fun hC => ?_)
    obtain ⟨q3, hq, h⟩ := Option.bind_eq_some_iff.mp h
    refine jE_call (as := [.ref 2, .ref 10, .int x2, .int x3, .ref 1]) (pc1 := 20) (st1 := []) hC rfl (by decide) (by omega) (x_cTok_readSign (d - 1) (by omega) x2 x3 σ q3 (some (.int q3.1), q3.2) hq rfl) ?_
    refine jE_blk (bs := []) (i := .ireturn) (a1 := 0) (a2 := 0) (pc1 := 20) (l1 := [(0, .ref 2), (1, .ref 10), (2, .int x2), (3, .int x3), (4, .ref 1)]) (st1 := [.int q3.1]) (σ1 := q3.2) (by decide +kernel) rfl (fun hC => ?_)
    have h9 := Option.some.inj h
    subst h9
    have e9 : ((some (.int q3.1), q3.2) : Option Value × jx_S) = res := hK
    subst e9
    exact jE_ret hC rfl
def kk_cTok_split_11 (d : Nat) (t : ((Int32 × Int32 × Int32 × jx_S) ⊕ jx_S)) (res : Option Value × jx_S) : Prop := match t with
  | .inl s => jE d 20 11 [(0, .ref 2), (1, .ref 10), (2, .int s.1), (3, .ref 1), (4, .int s.2.1), (5, .int s.2.2.1)] [] s.2.2.2 res
  | .inr t => kkV t res
def p_cTok_split_97 (x2 : Int32) (σ : jx_S) : Option jx_S := (some ((jI_put 1201 (jI_put 1201 σ 15 (σ.1 2 4) (0 : Int32)) 17 (σ.1 2 4) x2)))
theorem x_cTok_split_97 (d : Nat) (hd : 4 ≤ d) (x2 : Int32) (σ : jx_S) (t : jx_S) (res : Option Value × jx_S) (h : p_cTok_split_97 x2 σ = some t) (hK : kkV t res) : jE d 20 97 [(0, .ref 2), (2, .int x2)] [] σ res := by
  unfold p_cTok_split_97 at h
  refine jE_blk (bs := [(.aload_n 0, 0, 0), (.getfield 14, 2, 0), (.aload_n 0, 0, 0), (.getfield 55, 2, 4), (.iconst (0), 0, 0)]) (i := .invokevirtual 76) (a1 := 137) (a2 := 0) (pc1 := 106) (l1 := [(0, .ref 2), (2, .int x2)]) (st1 := [.int (0 : Int32), .int (σ.1 2 4), .ref 14]) (σ1 := σ) (by decide +kernel) rfl (fun hC => ?_)
  refine jE_call (as := [.ref 14, .int (σ.1 2 4), .int (0 : Int32)]) (pc1 := 109) (st1 := []) hC rfl (by decide) (by omega) (xI_put (d - 1) 14 1201 (σ.1 2 4) (0 : Int32) σ (by decide) rfl rfl) ?_
  refine jE_blk (bs := [(.aload_n 0, 0, 0), (.getfield 20, 2, 1), (.aload_n 0, 0, 0), (.getfield 55, 2, 4), (.iload_n 2, 0, 0)]) (i := .invokevirtual 76) (a1 := 137) (a2 := 0) (pc1 := 118) (l1 := [(0, .ref 2), (2, .int x2)]) (st1 := [.int x2, .int (σ.1 2 4), .ref 16]) (σ1 := (jI_put 1201 σ 15 (σ.1 2 4) (0 : Int32))) (by decide +kernel) rfl (fun hC => ?_)
  refine jE_call (as := [.ref 16, .int (σ.1 2 4), .int x2]) (pc1 := 121) (st1 := []) hC rfl (by decide) (by omega) (xI_put (d - 1) 16 1201 (σ.1 2 4) x2 (jI_put 1201 σ 15 (σ.1 2 4) (0 : Int32)) (by decide) rfl rfl) ?_
  refine jE_blk (bs := []) (i := .return_) (a1 := 0) (a2 := 0) (pc1 := 121) (l1 := [(0, .ref 2), (2, .int x2)]) (st1 := []) (σ1 := (jI_put 1201 (jI_put 1201 σ 15 (σ.1 2 4) (0 : Int32)) 17 (σ.1 2 4) x2)) (by decide +kernel) rfl (fun hC => ?_)
  have h9 := Option.some.inj h
  subst h9
  have e9 : ((none, (jI_put 1201 (jI_put 1201 σ 15 (σ.1 2 4) (0 : Int32)) 17 (σ.1 2 4) x2)) : Option Value × jx_S) = res := hK
  subst e9
  exact jE_ret hC rfl
def p_cTok_split_91 (x2 : Int32) (x4 : Int32) (x5 : Int32) (σ : jx_S) : Option ((Int32 × Int32 × Int32 × jx_S) ⊕ jx_S) := (some (.inl (x2, x4, (x5 + 1), σ)))
theorem x_cTok_split_91 (d : Nat) (hd : 4 ≤ d) (x2 : Int32) (x4 : Int32) (x5 : Int32) (σ : jx_S) (t : ((Int32 × Int32 × Int32 × jx_S) ⊕ jx_S)) (res : Option Value × jx_S) (h : p_cTok_split_91 x2 x4 x5 σ = some t) (hK : kk_cTok_split_11 d t res) : jE d 20 91 [(0, .ref 2), (1, .ref 10), (2, .int x2), (3, .ref 1), (4, .int x4), (5, .int x5)] [] σ res := by
  unfold p_cTok_split_91 at h
  refine jE_blk (bs := [(.iinc 5 (1), 6, 2), (.goto (-83), 0, 0)]) (i := .iload 5) (a1 := 0) (a2 := 0) (pc1 := 11) (l1 := [(5, .int (x5 + 1)), (0, .ref 2), (1, .ref 10), (2, .int x2), (3, .ref 1), (4, .int x4)]) (st1 := []) (σ1 := σ) (by decide +kernel) rfl (fun hC => ?_)
  have h9 := Option.some.inj h
  subst h9
  exact jE_loc (l := [(0, .ref 2), (1, .ref 10), (2, .int x2), (3, .ref 1), (4, .int x4), (5, .int (x5 + 1))]) (ks := [0, 1, 2, 3, 4, 5]) rfl (by decide) ⟨rfl, rfl, rfl, rfl, rfl, rfl, trivial⟩ hK
def p_cTok_split_54 (x2 : Int32) (x4 : Int32) (x5 : Int32) (σ : jx_S) : Option ((Int32 × Int32 × Int32 × jx_S) ⊕ jx_S) := (p_cTok_split_91 x2 (x4 + 1) x5 σ)
theorem x_cTok_split_54 (d : Nat) (hd : 4 ≤ d) (x2 : Int32) (x4 : Int32) (x5 : Int32) (σ : jx_S) (t : ((Int32 × Int32 × Int32 × jx_S) ⊕ jx_S)) (res : Option Value × jx_S) (h : p_cTok_split_54 x2 x4 x5 σ = some t) (hK : kk_cTok_split_11 d t res) : jE d 20 54 [(0, .ref 2), (1, .ref 10), (2, .int x2), (3, .ref 1), (4, .int x4), (5, .int x5)] [] σ res := by
  unfold p_cTok_split_54 at h
  refine jE_blk (bs := [(.iinc 4 (1), 6, 2), (.goto (34), 0, 0)]) (i := .iinc 5 (1)) (a1 := 6) (a2 := 2) (pc1 := 91) (l1 := [(4, .int (x4 + 1)), (0, .ref 2), (1, .ref 10), (2, .int x2), (3, .ref 1), (5, .int x5)]) (st1 := []) (σ1 := σ) (by decide +kernel) rfl (fun hC => ?_)
  exact jE_loc (l := [(0, .ref 2), (1, .ref 10), (2, .int x2), (3, .ref 1), (4, .int (x4 + 1)), (5, .int x5)]) (ks := [0, 1, 2, 3, 4, 5]) rfl (by decide) ⟨rfl, rfl, rfl, rfl, rfl, rfl, trivial⟩ (x_cTok_split_91 d hd x2 (x4 + 1) x5 σ _ res h hK)
def p_cTok_split_11_s (x2 : Int32) (x4 : Int32) (x5 : Int32) (σ : jx_S) : Option ((Int32 × Int32 × Int32 × jx_S) ⊕ jx_S) := (if (4000 : Int32) ≤ x5 then (Option.map Sum.inr (p_cTok_split_97 x2 σ)) else (if x2 ≤ x4 then (Option.map Sum.inr (p_cTok_split_97 x2 σ)) else (if ¬ (v_cFau_isTold σ) = 0 then (Option.map Sum.inr (p_cTok_split_97 x2 σ)) else (if (jI_at 4000 (σ.1 11) x4) = (32 : Int32) then (p_cTok_split_54 x2 x4 x5 σ) else (if ¬ (jI_at 4000 (σ.1 11) x4) = (10 : Int32) then (if ¬ (σ.1 2 4) = (1200 : Int32) then ((p_cTok_readToken x2 x4 σ).bind fun q4 => (p_cTok_split_91 x2 q4.1 x5 q4.2)) else ((p_cFau_tell (1 : Int32) x4 σ).bind fun q5 => (p_cTok_split_91 x2 x4 x5 q5))) else (p_cTok_split_54 x2 x4 x5 σ))))))
theorem x_cTok_split_11_s (d : Nat) (hd : 4 ≤ d) (x2 : Int32) (x4 : Int32) (x5 : Int32) (σ : jx_S) (t : ((Int32 × Int32 × Int32 × jx_S) ⊕ jx_S)) (res : Option Value × jx_S) (h : p_cTok_split_11_s x2 x4 x5 σ = some t) (hK : kk_cTok_split_11 d t res) : jE d 20 11 [(0, .ref 2), (1, .ref 10), (2, .int x2), (3, .ref 1), (4, .int x4), (5, .int x5)] [] σ res := by
  unfold p_cTok_split_11_s at h
  refine jE_blk (bs := [(.iload 5, 0, 0), (.sipush (4000), 4000, 0)]) (i := .if_icmp .ge (81)) (a1 := 0) (a2 := 0) (pc1 := 16) (l1 := [(0, .ref 2), (1, .ref 10), (2, .int x2), (3, .ref 1), (4, .int x4), (5, .int x5)]) (st1 := [.int (4000 : Int32), .int x5]) (σ1 := σ) (by decide +kernel) rfl (fun hC => ?_)
  rcases Classical.em ((4000 : Int32) ≤ x5) with hc | hc
  · rw [if_pos hc] at h
    refine jE_icT 97 hC (by decide) hc ?_
    obtain ⟨t9_1, h9_1, h8_1⟩ := Option.map_eq_some_iff.mp h
    clear h
    subst h8_1
    have h := h9_1
    clear h9_1
    exact jE_loc (l := [(0, .ref 2), (2, .int x2)]) (ks := [0, 2]) rfl (by decide) ⟨rfl, rfl, trivial⟩ (x_cTok_split_97 d hd x2 σ _ res h hK)
  · rw [if_neg hc] at h
    refine jE_icF 97 hC (by decide) hc ?_
    refine jE_blk (bs := [(.iload 4, 0, 0), (.iload_n 2, 0, 0)]) (i := .if_icmp .ge (75)) (a1 := 0) (a2 := 0) (pc1 := 22) (l1 := [(0, .ref 2), (1, .ref 10), (2, .int x2), (3, .ref 1), (4, .int x4), (5, .int x5)]) (st1 := [.int x2, .int x4]) (σ1 := σ) (by decide +kernel) rfl (fun hC => ?_)
    rcases Classical.em (x2 ≤ x4) with hc | hc
    · rw [if_pos hc] at h
      refine jE_icT 97 hC (by decide) hc ?_
      obtain ⟨t9_2, h9_2, h8_2⟩ := Option.map_eq_some_iff.mp h
      clear h
      subst h8_2
      have h := h9_2
      clear h9_2
      exact jE_loc (l := [(0, .ref 2), (2, .int x2)]) (ks := [0, 2]) rfl (by decide) ⟨rfl, rfl, trivial⟩ (x_cTok_split_97 d hd x2 σ _ res h hK)
    · rw [if_neg hc] at h
      refine jE_icF 97 hC (by decide) hc ?_
      refine jE_blk (bs := [(.aload_n 3, 0, 0)]) (i := .invokevirtual 59) (a1 := 17) (a2 := 0) (pc1 := 26) (l1 := [(0, .ref 2), (1, .ref 10), (2, .int x2), (3, .ref 1), (4, .int x4), (5, .int x5)]) (st1 := [.ref 1]) (σ1 := σ) (by decide +kernel) rfl (fun hC => ?_)
      refine jE_call (as := [.ref 1]) (pc1 := 29) (st1 := []) hC rfl (by decide) (by omega) (xv_cFau_isTold (d - 1) (by omega) σ) ?_
      refine jE_blk (bs := []) (i := .ifCond .ne (68)) (a1 := 0) (a2 := 0) (pc1 := 29) (l1 := [(0, .ref 2), (1, .ref 10), (2, .int x2), (3, .ref 1), (4, .int x4), (5, .int x5)]) (st1 := [.int (v_cFau_isTold σ)]) (σ1 := σ) (by decide +kernel) rfl (fun hC => ?_)
      rcases Classical.em (¬ (v_cFau_isTold σ) = 0) with hc | hc
      · rw [if_pos hc] at h
        refine jE_ifT 97 hC (by decide) hc ?_
        obtain ⟨t9_3, h9_3, h8_3⟩ := Option.map_eq_some_iff.mp h
        clear h
        subst h8_3
        have h := h9_3
        clear h9_3
        exact jE_loc (l := [(0, .ref 2), (2, .int x2)]) (ks := [0, 2]) rfl (by decide) ⟨rfl, rfl, trivial⟩ (x_cTok_split_97 d hd x2 σ _ res h hK)
      · rw [if_neg hc] at h
        refine jE_ifF 97 hC (by decide) hc ?_
        refine jE_blk (bs := [(.aload_n 1, 0, 0), (.iload 4, 0, 0)]) (i := .invokevirtual 65) (a1 := 136) (a2 := 0) (pc1 := 35) (l1 := [(0, .ref 2), (1, .ref 10), (2, .int x2), (3, .ref 1), (4, .int x4), (5, .int x5)]) (st1 := [.int x4, .ref 10]) (σ1 := σ) (by decide +kernel) rfl (fun hC => ?_)
        refine jE_call (as := [.ref 10, .int x4]) (pc1 := 38) (st1 := []) hC rfl (by decide) (by omega) (xI_at (d - 1) 10 4000 x4 σ (by decide) rfl rfl) ?_
        refine jE_blk (bs := [(.bipush (32), 32, 0)]) (i := .if_icmp .eq (14)) (a1 := 0) (a2 := 0) (pc1 := 40) (l1 := [(0, .ref 2), (1, .ref 10), (2, .int x2), (3, .ref 1), (4, .int x4), (5, .int x5)]) (st1 := [.int (32 : Int32), .int (jI_at 4000 (σ.1 11) x4)]) (σ1 := σ) (by decide +kernel) rfl (fun hC => ?_)
        rcases Classical.em ((jI_at 4000 (σ.1 11) x4) = (32 : Int32)) with hc | hc
        · rw [if_pos hc] at h
          refine jE_icT 54 hC (by decide) hc ?_
          exact jE_loc (l := [(0, .ref 2), (1, .ref 10), (2, .int x2), (3, .ref 1), (4, .int x4), (5, .int x5)]) (ks := [0, 1, 2, 3, 4, 5]) rfl (by decide) ⟨rfl, rfl, rfl, rfl, rfl, rfl, trivial⟩ (x_cTok_split_54 d hd x2 x4 x5 σ _ res h hK)
        · rw [if_neg hc] at h
          refine jE_icF 54 hC (by decide) hc ?_
          refine jE_blk (bs := [(.aload_n 1, 0, 0), (.iload 4, 0, 0)]) (i := .invokevirtual 65) (a1 := 136) (a2 := 0) (pc1 := 46) (l1 := [(0, .ref 2), (1, .ref 10), (2, .int x2), (3, .ref 1), (4, .int x4), (5, .int x5)]) (st1 := [.int x4, .ref 10]) (σ1 := σ) (by decide +kernel) rfl (fun hC => ?_)
          refine jE_call (as := [.ref 10, .int x4]) (pc1 := 49) (st1 := []) hC rfl (by decide) (by omega) (xI_at (d - 1) 10 4000 x4 σ (by decide) rfl rfl) ?_
          refine jE_blk (bs := [(.bipush (10), 10, 0)]) (i := .if_icmp .ne (9)) (a1 := 0) (a2 := 0) (pc1 := 51) (l1 := [(0, .ref 2), (1, .ref 10), (2, .int x2), (3, .ref 1), (4, .int x4), (5, .int x5)]) (st1 := [.int (10 : Int32), .int (jI_at 4000 (σ.1 11) x4)]) (σ1 := σ) (by decide +kernel) rfl (fun hC => ?_)
          rcases Classical.em (¬ (jI_at 4000 (σ.1 11) x4) = (10 : Int32)) with hc | hc
          · rw [if_pos hc] at h
            refine jE_icT 60 hC (by decide) hc ?_
            refine jE_blk (bs := [(.aload_n 0, 0, 0), (.getfield 55, 2, 4), (.sipush (1200), 1200, 0)]) (i := .if_icmp .ne (13)) (a1 := 0) (a2 := 0) (pc1 := 67) (l1 := [(0, .ref 2), (1, .ref 10), (2, .int x2), (3, .ref 1), (4, .int x4), (5, .int x5)]) (st1 := [.int (1200 : Int32), .int (σ.1 2 4)]) (σ1 := σ) (by decide +kernel) rfl (fun hC => ?_)
            rcases Classical.em (¬ (σ.1 2 4) = (1200 : Int32)) with hc | hc
            · rw [if_pos hc] at h
              refine jE_icT 80 hC (by decide) hc ?_
              refine jE_blk (bs := [(.aload_n 0, 0, 0), (.aload_n 1, 0, 0), (.iload_n 2, 0, 0), (.iload 4, 0, 0), (.aload_n 3, 0, 0)]) (i := .invokevirtual 72) (a1 := 21) (a2 := 0) (pc1 := 86) (l1 := [(0, .ref 2), (1, .ref 10), (2, .int x2), (3, .ref 1), (4, .int x4), (5, .int x5)]) (st1 := [.ref 1, .int x4, .int x2, .ref 10, .ref 2]) (σ1 := σ) (by decide +kernel) rfl (fun hC => ?_)
              obtain ⟨q4, hq, h⟩ := Option.bind_eq_some_iff.mp h
              refine jE_call (as := [.ref 2, .ref 10, .int x2, .int x4, .ref 1]) (pc1 := 89) (st1 := []) hC rfl (by decide) (by omega) (x_cTok_readToken (d - 1) (by omega) x2 x4 σ q4 (some (.int q4.1), q4.2) hq rfl) ?_
              refine jE_blk (bs := [(.istore 4, 6, 0)]) (i := .iinc 5 (1)) (a1 := 6) (a2 := 2) (pc1 := 91) (l1 := [(4, .int q4.1), (0, .ref 2), (1, .ref 10), (2, .int x2), (3, .ref 1), (5, .int x5)]) (st1 := []) (σ1 := q4.2) (by decide +kernel) rfl (fun hC => ?_)
              exact jE_loc (l := [(0, .ref 2), (1, .ref 10), (2, .int x2), (3, .ref 1), (4, .int q4.1), (5, .int x5)]) (ks := [0, 1, 2, 3, 4, 5]) rfl (by decide) ⟨rfl, rfl, rfl, rfl, rfl, rfl, trivial⟩ (x_cTok_split_91 d hd x2 q4.1 x5 q4.2 _ res h hK)
            · rw [if_neg hc] at h
              refine jE_icF 80 hC (by decide) hc ?_
              refine jE_blk (bs := [(.aload_n 3, 0, 0), (.iconst (1), 1, 0), (.iload 4, 0, 0)]) (i := .invokevirtual 68) (a1 := 18) (a2 := 0) (pc1 := 74) (l1 := [(0, .ref 2), (1, .ref 10), (2, .int x2), (3, .ref 1), (4, .int x4), (5, .int x5)]) (st1 := [.int x4, .int (1 : Int32), .ref 1]) (σ1 := σ) (by decide +kernel) rfl (fun hC => ?_)
              obtain ⟨q5, hq, h⟩ := Option.bind_eq_some_iff.mp h
              refine jE_call (as := [.ref 1, .int (1 : Int32), .int x4]) (pc1 := 77) (st1 := []) hC rfl (by decide) (by omega) (x_cFau_tell (d - 1) (by omega) (1 : Int32) x4 σ q5 (none, q5) hq rfl) ?_
              refine jE_blk (bs := [(.goto (14), 0, 0)]) (i := .iinc 5 (1)) (a1 := 6) (a2 := 2) (pc1 := 91) (l1 := [(0, .ref 2), (1, .ref 10), (2, .int x2), (3, .ref 1), (4, .int x4), (5, .int x5)]) (st1 := []) (σ1 := q5) (by decide +kernel) rfl (fun hC => ?_)
              exact jE_loc (l := [(0, .ref 2), (1, .ref 10), (2, .int x2), (3, .ref 1), (4, .int x4), (5, .int x5)]) (ks := [0, 1, 2, 3, 4, 5]) rfl (by decide) ⟨rfl, rfl, rfl, rfl, rfl, rfl, trivial⟩ (x_cTok_split_91 d hd x2 x4 x5 q5 _ res h hK)
          · rw [if_neg hc] at h
            refine jE_icF 60 hC (by decide) hc ?_
            exact jE_loc (l := [(0, .ref 2), (1, .ref 10), (2, .int x2), (3, .ref 1), (4, .int x4), (5, .int x5)]) (ks := [0, 1, 2, 3, 4, 5]) rfl (by decide) ⟨rfl, rfl, rfl, rfl, rfl, rfl, trivial⟩ (x_cTok_split_54 d hd x2 x4 x5 σ _ res h hK)
def p_cTok_split_11 (x2 : Int32) (x4 : Int32) (x5 : Int32) (σ : jx_S) : Option jx_S := jx_loop 100000000 (fun s => p_cTok_split_11_s s.1 s.2.1 s.2.2.1 (s.2.2.2)) (x2, x4, x5, σ)
theorem x_cTok_split_11 (d : Nat) (hd : 4 ≤ d) (x2 : Int32) (x4 : Int32) (x5 : Int32) (σ : jx_S) (t : jx_S) (res : Option Value × jx_S) (h : p_cTok_split_11 x2 x4 x5 σ = some t) (hK : kkV t res) : jE d 20 11 [(0, .ref 2), (1, .ref 10), (2, .int x2), (3, .ref 1), (4, .int x4), (5, .int x5)] [] σ res := by
  refine jx_loop_ok (E := fun s t => ∀ res, kkV t res → jE d 20 11 [(0, .ref 2), (1, .ref 10), (2, .int s.1), (3, .ref 1), (4, .int s.2.1), (5, .int s.2.2.1)] [] s.2.2.2 res) (fun s t hs => ?_) _ _ _ h res hK
  cases t with
  | inl s1 => exact fun b hb res hk => x_cTok_split_11_s d hd (s.1) (s.2.1) (s.2.2.1) (s.2.2.2) _ res hs (hb res hk)
  | inr b => exact fun res hk => x_cTok_split_11_s d hd (s.1) (s.2.1) (s.2.2.1) (s.2.2.2) _ res hs hk
def p_cTok_split (x2 : Int32) (σ : jx_S) : Option jx_S := (p_cTok_split_11 x2 (0 : Int32) (0 : Int32) (jx_i σ 2 4 (0 : Int32)))
theorem x_cTok_split (d : Nat) (hd : 4 ≤ d) (x2 : Int32) (σ : jx_S) (t : jx_S) (res : Option Value × jx_S) (h : p_cTok_split x2 σ = some t) (hK : kkV t res) : jE d 20 0 [(0, .ref 2), (1, .ref 10), (2, .int x2), (3, .ref 1)] [] σ res := by
  unfold p_cTok_split at h
  refine jE_blk (bs := [(.aload_n 0, 0, 0), (.iconst (0), 0, 0), (.putfield 55, 2, 4), (.iconst (0), 0, 0), (.istore 4, 6, 0), (.iconst (0), 0, 0), (.istore 5, 6, 0)]) (i := .iload 5) (a1 := 0) (a2 := 0) (pc1 := 11) (l1 := [(5, .int (0 : Int32)), (4, .int (0 : Int32)), (0, .ref 2), (1, .ref 10), (2, .int x2), (3, .ref 1)]) (st1 := []) (σ1 := (jx_i σ 2 4 (0 : Int32))) (by decide +kernel) rfl (fun hC => ?_)
  exact jE_loc (l := [(0, .ref 2), (1, .ref 10), (2, .int x2), (3, .ref 1), (4, .int (0 : Int32)), (5, .int (0 : Int32))]) (ks := [0, 1, 2, 3, 4, 5]) rfl (by decide) ⟨rfl, rfl, rfl, rfl, rfl, rfl, trivial⟩ (x_cTok_split_11 d hd x2 (0 : Int32) (0 : Int32) (jx_i σ 2 4 (0 : Int32)) _ res h hK)
def p_cRea_tell (x1 : Int32) (σ : jx_S) : Option jx_S := ((p_cFau_tell x1 (jI_at 1201 (σ.1 17) (σ.1 5 6)) σ).bind fun q1 => (some (q1)))
theorem x_cRea_tell (d : Nat) (hd : 1 ≤ d) (x1 : Int32) (σ : jx_S) (t : jx_S) (res : Option Value × jx_S) (h : p_cRea_tell x1 σ = some t) (hK : kkV t res) : jE d 67 0 [(0, .ref 5), (1, .int x1)] [] σ res := by
  unfold p_cRea_tell at h
  refine jE_blk (bs := [(.aload_n 0, 0, 0), (.getfield 32, 5, 3), (.iload_n 1, 0, 0), (.aload_n 0, 0, 0), (.getfield 20, 5, 0), (.getfield 194, 2, 1), (.aload_n 0, 0, 0), (.getfield 36, 5, 6)]) (i := .invokevirtual 109) (a1 := 136) (a2 := 0) (pc1 := 16) (l1 := [(0, .ref 5), (1, .int x1)]) (st1 := [.int (σ.1 5 6), .ref 16, .int x1, .ref 1]) (σ1 := σ) (by decide +kernel) rfl (fun hC => ?_)
  refine jE_call (as := [.ref 16, .int (σ.1 5 6)]) (pc1 := 19) (st1 := [.int x1, .ref 1]) hC rfl (by decide) (by omega) (xI_at (d - 1) 16 1201 (σ.1 5 6) σ (by decide) rfl rfl) ?_
  refine jE_blk (bs := []) (i := .invokevirtual 197) (a1 := 18) (a2 := 0) (pc1 := 19) (l1 := [(0, .ref 5), (1, .int x1)]) (st1 := [.int (jI_at 1201 (σ.1 17) (σ.1 5 6)), .int x1, .ref 1]) (σ1 := σ) (by decide +kernel) rfl (fun hC => ?_)
  obtain ⟨q1, hq, h⟩ := Option.bind_eq_some_iff.mp h
  refine jE_call (as := [.ref 1, .int x1, .int (jI_at 1201 (σ.1 17) (σ.1 5 6))]) (pc1 := 22) (st1 := []) hC rfl (by decide) (by omega) (x_cFau_tell (d - 1) (by omega) x1 (jI_at 1201 (σ.1 17) (σ.1 5 6)) σ q1 (none, q1) hq rfl) ?_
  refine jE_blk (bs := []) (i := .return_) (a1 := 0) (a2 := 0) (pc1 := 22) (l1 := [(0, .ref 5), (1, .int x1)]) (st1 := []) (σ1 := q1) (by decide +kernel) rfl (fun hC => ?_)
  have h9 := Option.some.inj h
  subst h9
  have e9 : ((none, q1) : Option Value × jx_S) = res := hK
  subst e9
  exact jE_ret hC rfl
def p_cRea_pass (x1 : Int32) (σ : jx_S) : Option jx_S := (if (v_cRea_kind σ) = x1 then (if x1 = 0 then (some (σ)) else (some ((jx_i σ 5 6 ((σ.1 5 6) + (1 : Int32)))))) else ((p_cRea_tell (2 : Int32) σ).bind fun q1 => (some (q1))))
theorem x_cRea_pass (d : Nat) (hd : 2 ≤ d) (x1 : Int32) (σ : jx_S) (t : jx_S) (res : Option Value × jx_S) (h : p_cRea_pass x1 σ = some t) (hK : kkV t res) : jE d 66 0 [(0, .ref 5), (1, .int x1)] [] σ res := by
  unfold p_cRea_pass at h
  refine jE_blk (bs := [(.aload_n 0, 0, 0)]) (i := .invokevirtual 48) (a1 := 64) (a2 := 0) (pc1 := 1) (l1 := [(0, .ref 5), (1, .int x1)]) (st1 := [.ref 5]) (σ1 := σ) (by decide +kernel) rfl (fun hC => ?_)
  refine jE_call (as := [.ref 5]) (pc1 := 4) (st1 := []) hC rfl (by decide) (by omega) (xv_cRea_kind (d - 1) (by omega) σ) ?_
  refine jE_blk (bs := [(.iload_n 1, 0, 0)]) (i := .if_icmp .eq (11)) (a1 := 0) (a2 := 0) (pc1 := 5) (l1 := [(0, .ref 5), (1, .int x1)]) (st1 := [.int x1, .int (v_cRea_kind σ)]) (σ1 := σ) (by decide +kernel) rfl (fun hC => ?_)
  rcases Classical.em ((v_cRea_kind σ) = x1) with hc | hc
  · rw [if_pos hc] at h
    refine jE_icT 16 hC (by decide) hc ?_
    refine jE_blk (bs := [(.iload_n 1, 0, 0)]) (i := .ifCond .eq (13)) (a1 := 0) (a2 := 0) (pc1 := 17) (l1 := [(0, .ref 5), (1, .int x1)]) (st1 := [.int x1]) (σ1 := σ) (by decide +kernel) rfl (fun hC => ?_)
    rcases Classical.em (x1 = 0) with hc | hc
    · rw [if_pos hc] at h
      refine jE_ifT 30 hC (by decide) hc ?_
      refine jE_blk (bs := []) (i := .return_) (a1 := 0) (a2 := 0) (pc1 := 30) (l1 := [(0, .ref 5), (1, .int x1)]) (st1 := []) (σ1 := σ) (by decide +kernel) rfl (fun hC => ?_)
      have h9 := Option.some.inj h
      subst h9
      have e9 : ((none, σ) : Option Value × jx_S) = res := hK
      subst e9
      exact jE_ret hC rfl
    · rw [if_neg hc] at h
      refine jE_ifF 30 hC (by decide) hc ?_
      refine jE_blk (bs := [(.aload_n 0, 0, 0), (.dup, 0, 0), (.getfield 36, 5, 6), (.iconst (1), 1, 0), (.iadd, 0, 0), (.putfield 36, 5, 6)]) (i := .return_) (a1 := 0) (a2 := 0) (pc1 := 30) (l1 := [(0, .ref 5), (1, .int x1)]) (st1 := []) (σ1 := (jx_i σ 5 6 ((σ.1 5 6) + (1 : Int32)))) (by decide +kernel) rfl (fun hC => ?_)
      have h9 := Option.some.inj h
      subst h9
      have e9 : ((none, (jx_i σ 5 6 ((σ.1 5 6) + (1 : Int32)))) : Option Value × jx_S) = res := hK
      subst e9
      exact jE_ret hC rfl
  · rw [if_neg hc] at h
    refine jE_icF 16 hC (by decide) hc ?_
    refine jE_blk (bs := [(.aload_n 0, 0, 0), (.iconst (2), 2, 0)]) (i := .invokevirtual 55) (a1 := 67) (a2 := 0) (pc1 := 10) (l1 := [(0, .ref 5), (1, .int x1)]) (st1 := [.int (2 : Int32), .ref 5]) (σ1 := σ) (by decide +kernel) rfl (fun hC => ?_)
    obtain ⟨q1, hq, h⟩ := Option.bind_eq_some_iff.mp h
    refine jE_call (as := [.ref 5, .int (2 : Int32)]) (pc1 := 13) (st1 := []) hC rfl (by decide) (by omega) (x_cRea_tell (d - 1) (by omega) (2 : Int32) σ q1 (none, q1) hq rfl) ?_
    refine jE_blk (bs := [(.goto (17), 0, 0)]) (i := .return_) (a1 := 0) (a2 := 0) (pc1 := 30) (l1 := [(0, .ref 5), (1, .int x1)]) (st1 := []) (σ1 := q1) (by decide +kernel) rfl (fun hC => ?_)
    have h9 := Option.some.inj h
    subst h9
    have e9 : ((none, q1) : Option Value × jx_S) = res := hK
    subst e9
    exact jE_ret hC rfl
def p_cFun_open (x1 : Int32) (x2 : Int32) (σ : jx_S) : Option jx_S := (some ((jx_i (jI_put 40 (jI_put 40 (jI_put 40 (jI_put 40 (jI_put 40 (jI_put 40 (jI_put 40 σ 41 (σ.1 4 10) x1) 43 (σ.1 4 10) (0 : Int32)) 45 (σ.1 4 10) (0 : Int32)) 47 (σ.1 4 10) (0 : Int32)) 49 (σ.1 4 10) x2) 51 (σ.1 4 10) (0 : Int32)) 53 (σ.1 4 10) (1 : Int32)) 4 10 ((σ.1 4 10) + (1 : Int32)))))
theorem x_cFun_open (d : Nat) (hd : 1 ≤ d) (x1 : Int32) (x2 : Int32) (σ : jx_S) (t : jx_S) (res : Option Value × jx_S) (h : p_cFun_open x1 x2 σ = some t) (hK : kkV t res) : jE d 35 0 [(0, .ref 4), (1, .int x1), (2, .int x2)] [] σ res := by
  unfold p_cFun_open at h
  refine jE_blk (bs := [(.aload_n 0, 0, 0), (.getfield 14, 4, 0), (.aload_n 0, 0, 0), (.getfield 47, 4, 10), (.iload_n 1, 0, 0)]) (i := .invokevirtual 51) (a1 := 137) (a2 := 0) (pc1 := 9) (l1 := [(0, .ref 4), (1, .int x1), (2, .int x2)]) (st1 := [.int x1, .int (σ.1 4 10), .ref 40]) (σ1 := σ) (by decide +kernel) rfl (fun hC => ?_)
  refine jE_call (as := [.ref 40, .int (σ.1 4 10), .int x1]) (pc1 := 12) (st1 := []) hC rfl (by decide) (by omega) (xI_put (d - 1) 40 40 (σ.1 4 10) x1 σ (by decide) rfl rfl) ?_
  refine jE_blk (bs := [(.aload_n 0, 0, 0), (.getfield 20, 4, 1), (.aload_n 0, 0, 0), (.getfield 47, 4, 10), (.iconst (0), 0, 0)]) (i := .invokevirtual 51) (a1 := 137) (a2 := 0) (pc1 := 21) (l1 := [(0, .ref 4), (1, .int x1), (2, .int x2)]) (st1 := [.int (0 : Int32), .int (σ.1 4 10), .ref 42]) (σ1 := (jI_put 40 σ 41 (σ.1 4 10) x1)) (by decide +kernel) rfl (fun hC => ?_)
  refine jE_call (as := [.ref 42, .int (σ.1 4 10), .int (0 : Int32)]) (pc1 := 24) (st1 := []) hC rfl (by decide) (by omega) (xI_put (d - 1) 42 40 (σ.1 4 10) (0 : Int32) (jI_put 40 σ 41 (σ.1 4 10) x1) (by decide) rfl rfl) ?_
  refine jE_blk (bs := [(.aload_n 0, 0, 0), (.getfield 23, 4, 2), (.aload_n 0, 0, 0), (.getfield 47, 4, 10), (.iconst (0), 0, 0)]) (i := .invokevirtual 51) (a1 := 137) (a2 := 0) (pc1 := 33) (l1 := [(0, .ref 4), (1, .int x1), (2, .int x2)]) (st1 := [.int (0 : Int32), .int (σ.1 4 10), .ref 44]) (σ1 := (jI_put 40 (jI_put 40 σ 41 (σ.1 4 10) x1) 43 (σ.1 4 10) (0 : Int32))) (by decide +kernel) rfl (fun hC => ?_)
  refine jE_call (as := [.ref 44, .int (σ.1 4 10), .int (0 : Int32)]) (pc1 := 36) (st1 := []) hC rfl (by decide) (by omega) (xI_put (d - 1) 44 40 (σ.1 4 10) (0 : Int32) (jI_put 40 (jI_put 40 σ 41 (σ.1 4 10) x1) 43 (σ.1 4 10) (0 : Int32)) (by decide) rfl rfl) ?_
  refine jE_blk (bs := [(.aload_n 0, 0, 0), (.getfield 26, 4, 3), (.aload_n 0, 0, 0), (.getfield 47, 4, 10), (.iconst (0), 0, 0)]) (i := .invokevirtual 51) (a1 := 137) (a2 := 0) (pc1 := 45) (l1 := [(0, .ref 4), (1, .int x1), (2, .int x2)]) (st1 := [.int (0 : Int32), .int (σ.1 4 10), .ref 46]) (σ1 := (jI_put 40 (jI_put 40 (jI_put 40 σ 41 (σ.1 4 10) x1) 43 (σ.1 4 10) (0 : Int32)) 45 (σ.1 4 10) (0 : Int32))) (by decide +kernel) rfl (fun hC => ?_)
  refine jE_call (as := [.ref 46, .int (σ.1 4 10), .int (0 : Int32)]) (pc1 := 48) (st1 := []) hC rfl (by decide) (by omega) (xI_put (d - 1) 46 40 (σ.1 4 10) (0 : Int32) (jI_put 40 (jI_put 40 (jI_put 40 σ 41 (σ.1 4 10) x1) 43 (σ.1 4 10) (0 : Int32)) 45 (σ.1 4 10) (0 : Int32)) (by decide) rfl rfl) ?_
  refine jE_blk (bs := [(.aload_n 0, 0, 0), (.getfield 29, 4, 4), (.aload_n 0, 0, 0), (.getfield 47, 4, 10), (.iload_n 2, 0, 0)]) (i := .invokevirtual 51) (a1 := 137) (a2 := 0) (pc1 := 57) (l1 := [(0, .ref 4), (1, .int x1), (2, .int x2)]) (st1 := [.int x2, .int (σ.1 4 10), .ref 48]) (σ1 := (jI_put 40 (jI_put 40 (jI_put 40 (jI_put 40 σ 41 (σ.1 4 10) x1) 43 (σ.1 4 10) (0 : Int32)) 45 (σ.1 4 10) (0 : Int32)) 47 (σ.1 4 10) (0 : Int32))) (by decide +kernel) rfl (fun hC => ?_)
  refine jE_call (as := [.ref 48, .int (σ.1 4 10), .int x2]) (pc1 := 60) (st1 := []) hC rfl (by decide) (by omega) (xI_put (d - 1) 48 40 (σ.1 4 10) x2 (jI_put 40 (jI_put 40 (jI_put 40 (jI_put 40 σ 41 (σ.1 4 10) x1) 43 (σ.1 4 10) (0 : Int32)) 45 (σ.1 4 10) (0 : Int32)) 47 (σ.1 4 10) (0 : Int32)) (by decide) rfl rfl) ?_
  refine jE_blk (bs := [(.aload_n 0, 0, 0), (.getfield 32, 4, 5), (.aload_n 0, 0, 0), (.getfield 47, 4, 10), (.iconst (0), 0, 0)]) (i := .invokevirtual 51) (a1 := 137) (a2 := 0) (pc1 := 69) (l1 := [(0, .ref 4), (1, .int x1), (2, .int x2)]) (st1 := [.int (0 : Int32), .int (σ.1 4 10), .ref 50]) (σ1 := (jI_put 40 (jI_put 40 (jI_put 40 (jI_put 40 (jI_put 40 σ 41 (σ.1 4 10) x1) 43 (σ.1 4 10) (0 : Int32)) 45 (σ.1 4 10) (0 : Int32)) 47 (σ.1 4 10) (0 : Int32)) 49 (σ.1 4 10) x2)) (by decide +kernel) rfl (fun hC => ?_)
  refine jE_call (as := [.ref 50, .int (σ.1 4 10), .int (0 : Int32)]) (pc1 := 72) (st1 := []) hC rfl (by decide) (by omega) (xI_put (d - 1) 50 40 (σ.1 4 10) (0 : Int32) (jI_put 40 (jI_put 40 (jI_put 40 (jI_put 40 (jI_put 40 σ 41 (σ.1 4 10) x1) 43 (σ.1 4 10) (0 : Int32)) 45 (σ.1 4 10) (0 : Int32)) 47 (σ.1 4 10) (0 : Int32)) 49 (σ.1 4 10) x2) (by decide) rfl rfl) ?_
  refine jE_blk (bs := [(.aload_n 0, 0, 0), (.getfield 35, 4, 6), (.aload_n 0, 0, 0), (.getfield 47, 4, 10), (.iconst (1), 1, 0)]) (i := .invokevirtual 51) (a1 := 137) (a2 := 0) (pc1 := 81) (l1 := [(0, .ref 4), (1, .int x1), (2, .int x2)]) (st1 := [.int (1 : Int32), .int (σ.1 4 10), .ref 52]) (σ1 := (jI_put 40 (jI_put 40 (jI_put 40 (jI_put 40 (jI_put 40 (jI_put 40 σ 41 (σ.1 4 10) x1) 43 (σ.1 4 10) (0 : Int32)) 45 (σ.1 4 10) (0 : Int32)) 47 (σ.1 4 10) (0 : Int32)) 49 (σ.1 4 10) x2) 51 (σ.1 4 10) (0 : Int32))) (by decide +kernel) rfl (fun hC => ?_)
  refine jE_call (as := [.ref 52, .int (σ.1 4 10), .int (1 : Int32)]) (pc1 := 84) (st1 := []) hC rfl (by decide) (by omega) (xI_put (d - 1) 52 40 (σ.1 4 10) (1 : Int32) (jI_put 40 (jI_put 40 (jI_put 40 (jI_put 40 (jI_put 40 (jI_put 40 σ 41 (σ.1 4 10) x1) 43 (σ.1 4 10) (0 : Int32)) 45 (σ.1 4 10) (0 : Int32)) 47 (σ.1 4 10) (0 : Int32)) 49 (σ.1 4 10) x2) 51 (σ.1 4 10) (0 : Int32)) (by decide) rfl rfl) ?_
  refine jE_blk (bs := [(.aload_n 0, 0, 0), (.dup, 0, 0), (.getfield 47, 4, 10), (.iconst (1), 1, 0), (.iadd, 0, 0), (.putfield 47, 4, 10)]) (i := .return_) (a1 := 0) (a2 := 0) (pc1 := 94) (l1 := [(0, .ref 4), (1, .int x1), (2, .int x2)]) (st1 := []) (σ1 := (jx_i (jI_put 40 (jI_put 40 (jI_put 40 (jI_put 40 (jI_put 40 (jI_put 40 (jI_put 40 σ 41 (σ.1 4 10) x1) 43 (σ.1 4 10) (0 : Int32)) 45 (σ.1 4 10) (0 : Int32)) 47 (σ.1 4 10) (0 : Int32)) 49 (σ.1 4 10) x2) 51 (σ.1 4 10) (0 : Int32)) 53 (σ.1 4 10) (1 : Int32)) 4 10 ((σ.1 4 10) + (1 : Int32)))) (by decide +kernel) rfl (fun hC => ?_)
  have h9 := Option.some.inj h
  subst h9
  have e9 : ((none, (jx_i (jI_put 40 (jI_put 40 (jI_put 40 (jI_put 40 (jI_put 40 (jI_put 40 (jI_put 40 σ 41 (σ.1 4 10) x1) 43 (σ.1 4 10) (0 : Int32)) 45 (σ.1 4 10) (0 : Int32)) 47 (σ.1 4 10) (0 : Int32)) 49 (σ.1 4 10) x2) 51 (σ.1 4 10) (0 : Int32)) 53 (σ.1 4 10) (1 : Int32)) 4 10 ((σ.1 4 10) + (1 : Int32)))) : Option Value × jx_S) = res := hK
  subst e9
  exact jE_ret hC rfl
def p_cFun_setType (x1 : Int32) (x2 : Int32) (x3 : Int32) (σ : jx_S) : Option jx_S := (some ((jI_put 1200 σ 57 ((x1 * (30 : Int32)) + x2) x3)))
theorem x_cFun_setType (d : Nat) (hd : 1 ≤ d) (x1 : Int32) (x2 : Int32) (x3 : Int32) (σ : jx_S) (t : jx_S) (res : Option Value × jx_S) (h : p_cFun_setType x1 x2 x3 σ = some t) (hK : kkV t res) : jE d 37 0 [(0, .ref 4), (1, .int x1), (2, .int x2), (3, .int x3)] [] σ res := by
  unfold p_cFun_setType at h
  refine jE_blk (bs := [(.aload_n 0, 0, 0), (.getfield 41, 4, 8), (.iload_n 1, 0, 0), (.bipush (30), 30, 0), (.imul, 0, 0), (.iload_n 2, 0, 0), (.iadd, 0, 0), (.iload_n 3, 0, 0)]) (i := .invokevirtual 51) (a1 := 137) (a2 := 0) (pc1 := 11) (l1 := [(0, .ref 4), (1, .int x1), (2, .int x2), (3, .int x3)]) (st1 := [.int x3, .int ((x1 * (30 : Int32)) + x2), .ref 56]) (σ1 := σ) (by decide +kernel) rfl (fun hC => ?_)
  refine jE_call (as := [.ref 56, .int ((x1 * (30 : Int32)) + x2), .int x3]) (pc1 := 14) (st1 := []) hC rfl (by decide) (by omega) (xI_put (d - 1) 56 1200 ((x1 * (30 : Int32)) + x2) x3 σ (by decide) rfl rfl) ?_
  refine jE_blk (bs := []) (i := .return_) (a1 := 0) (a2 := 0) (pc1 := 14) (l1 := [(0, .ref 4), (1, .int x1), (2, .int x2), (3, .int x3)]) (st1 := []) (σ1 := (jI_put 1200 σ 57 ((x1 * (30 : Int32)) + x2) x3)) (by decide +kernel) rfl (fun hC => ?_)
  have h9 := Option.some.inj h
  subst h9
  have e9 : ((none, (jI_put 1200 σ 57 ((x1 * (30 : Int32)) + x2) x3)) : Option Value × jx_S) = res := hK
  subst e9
  exact jE_ret hC rfl
def p_cFun_addLocal (x1 : Int32) (x2 : Int32) (x3 : Int32) (σ : jx_S) : Option (Int32 × jx_S) := ((p_cFun_setType x1 (jI_at 40 (σ.1 47) x1) x3 (jI_put 40 (jI_put 1200 (jI_put 1200 σ 55 ((x1 * (30 : Int32)) + (jI_at 40 (σ.1 47) x1)) x2) 59 ((x1 * (30 : Int32)) + (jI_at 40 (σ.1 47) x1)) (0 : Int32)) 47 x1 ((jI_at 40 (σ.1 47) x1) + (1 : Int32)))).bind fun q1 => (some (((jI_at 40 (σ.1 47) x1), q1))))
theorem x_cFun_addLocal (d : Nat) (hd : 2 ≤ d) (x1 : Int32) (x2 : Int32) (x3 : Int32) (σ : jx_S) (t : (Int32 × jx_S)) (res : Option Value × jx_S) (h : p_cFun_addLocal x1 x2 x3 σ = some t) (hK : kkI t res) : jE d 36 0 [(0, .ref 4), (1, .int x1), (2, .int x2), (3, .int x3)] [] σ res := by
  unfold p_cFun_addLocal at h
  refine jE_blk (bs := [(.aload_n 0, 0, 0), (.getfield 26, 4, 3), (.iload_n 1, 0, 0)]) (i := .invokevirtual 55) (a1 := 136) (a2 := 0) (pc1 := 5) (l1 := [(0, .ref 4), (1, .int x1), (2, .int x2), (3, .int x3)]) (st1 := [.int x1, .ref 46]) (σ1 := σ) (by decide +kernel) rfl (fun hC => ?_)
  refine jE_call (as := [.ref 46, .int x1]) (pc1 := 8) (st1 := []) hC rfl (by decide) (by omega) (xI_at (d - 1) 46 40 x1 σ (by decide) rfl rfl) ?_
  refine jE_blk (bs := [(.istore 4, 5, 0), (.aload_n 0, 0, 0), (.getfield 38, 4, 7), (.iload_n 1, 0, 0), (.bipush (30), 30, 0), (.imul, 0, 0), (.iload 4, 0, 0), (.iadd, 0, 0), (.iload_n 2, 0, 0)]) (i := .invokevirtual 51) (a1 := 137) (a2 := 0) (pc1 := 22) (l1 := [(4, .int (jI_at 40 (σ.1 47) x1)), (0, .ref 4), (1, .int x1), (2, .int x2), (3, .int x3)]) (st1 := [.int x2, .int ((x1 * (30 : Int32)) + (jI_at 40 (σ.1 47) x1)), .ref 54]) (σ1 := σ) (by decide +kernel) rfl (fun hC => ?_)
  refine jE_call (as := [.ref 54, .int ((x1 * (30 : Int32)) + (jI_at 40 (σ.1 47) x1)), .int x2]) (pc1 := 25) (st1 := []) hC rfl (by decide) (by omega) (xI_put (d - 1) 54 1200 ((x1 * (30 : Int32)) + (jI_at 40 (σ.1 47) x1)) x2 σ (by decide) rfl rfl) ?_
  refine jE_blk (bs := [(.aload_n 0, 0, 0), (.getfield 44, 4, 9), (.iload_n 1, 0, 0), (.bipush (30), 30, 0), (.imul, 0, 0), (.iload 4, 0, 0), (.iadd, 0, 0), (.iconst (0), 0, 0)]) (i := .invokevirtual 51) (a1 := 137) (a2 := 0) (pc1 := 37) (l1 := [(4, .int (jI_at 40 (σ.1 47) x1)), (0, .ref 4), (1, .int x1), (2, .int x2), (3, .int x3)]) (st1 := [.int (0 : Int32), .int ((x1 * (30 : Int32)) + (jI_at 40 (σ.1 47) x1)), .ref 58]) (σ1 := (jI_put 1200 σ 55 ((x1 * (30 : Int32)) + (jI_at 40 (σ.1 47) x1)) x2)) (by decide +kernel) rfl (fun hC => ?_)
  refine jE_call (as := [.ref 58, .int ((x1 * (30 : Int32)) + (jI_at 40 (σ.1 47) x1)), .int (0 : Int32)]) (pc1 := 40) (st1 := []) hC rfl (by decide) (by omega) (xI_put (d - 1) 58 1200 ((x1 * (30 : Int32)) + (jI_at 40 (σ.1 47) x1)) (0 : Int32) (jI_put 1200 σ 55 ((x1 * (30 : Int32)) + (jI_at 40 (σ.1 47) x1)) x2) (by decide) rfl rfl) ?_
  refine jE_blk (bs := [(.aload_n 0, 0, 0), (.getfield 26, 4, 3), (.iload_n 1, 0, 0), (.iload 4, 0, 0), (.iconst (1), 1, 0), (.iadd, 0, 0)]) (i := .invokevirtual 51) (a1 := 137) (a2 := 0) (pc1 := 49) (l1 := [(4, .int (jI_at 40 (σ.1 47) x1)), (0, .ref 4), (1, .int x1), (2, .int x2), (3, .int x3)]) (st1 := [.int ((jI_at 40 (σ.1 47) x1) + (1 : Int32)), .int x1, .ref 46]) (σ1 := (jI_put 1200 (jI_put 1200 σ 55 ((x1 * (30 : Int32)) + (jI_at 40 (σ.1 47) x1)) x2) 59 ((x1 * (30 : Int32)) + (jI_at 40 (σ.1 47) x1)) (0 : Int32))) (by decide +kernel) rfl (fun hC => ?_)
  refine jE_call (as := [.ref 46, .int x1, .int ((jI_at 40 (σ.1 47) x1) + (1 : Int32))]) (pc1 := 52) (st1 := []) hC rfl (by decide) (by omega) (xI_put (d - 1) 46 40 x1 ((jI_at 40 (σ.1 47) x1) + (1 : Int32)) (jI_put 1200 (jI_put 1200 σ 55 ((x1 * (30 : Int32)) + (jI_at 40 (σ.1 47) x1)) x2) 59 ((x1 * (30 : Int32)) + (jI_at 40 (σ.1 47) x1)) (0 : Int32)) (by decide) rfl rfl) ?_
  refine jE_blk (bs := [(.aload_n 0, 0, 0), (.iload_n 1, 0, 0), (.iload 4, 0, 0), (.iload_n 3, 0, 0)]) (i := .invokevirtual 59) (a1 := 37) (a2 := 0) (pc1 := 57) (l1 := [(4, .int (jI_at 40 (σ.1 47) x1)), (0, .ref 4), (1, .int x1), (2, .int x2), (3, .int x3)]) (st1 := [.int x3, .int (jI_at 40 (σ.1 47) x1), .int x1, .ref 4]) (σ1 := (jI_put 40 (jI_put 1200 (jI_put 1200 σ 55 ((x1 * (30 : Int32)) + (jI_at 40 (σ.1 47) x1)) x2) 59 ((x1 * (30 : Int32)) + (jI_at 40 (σ.1 47) x1)) (0 : Int32)) 47 x1 ((jI_at 40 (σ.1 47) x1) + (1 : Int32)))) (by decide +kernel) rfl (fun hC => ?_)
  obtain ⟨q1, hq, h⟩ := Option.bind_eq_some_iff.mp h
  refine jE_call (as := [.ref 4, .int x1, .int (jI_at 40 (σ.1 47) x1), .int x3]) (pc1 := 60) (st1 := []) hC rfl (by decide) (by omega) (x_cFun_setType (d - 1) (by omega) x1 (jI_at 40 (σ.1 47) x1) x3 (jI_put 40 (jI_put 1200 (jI_put 1200 σ 55 ((x1 * (30 : Int32)) + (jI_at 40 (σ.1 47) x1)) x2) 59 ((x1 * (30 : Int32)) + (jI_at 40 (σ.1 47) x1)) (0 : Int32)) 47 x1 ((jI_at 40 (σ.1 47) x1) + (1 : Int32))) q1 (none, q1) hq rfl) ?_
  refine jE_blk (bs := [(.iload 4, 0, 0)]) (i := .ireturn) (a1 := 0) (a2 := 0) (pc1 := 62) (l1 := [(4, .int (jI_at 40 (σ.1 47) x1)), (0, .ref 4), (1, .int x1), (2, .int x2), (3, .int x3)]) (st1 := [.int (jI_at 40 (σ.1 47) x1)]) (σ1 := q1) (by decide +kernel) rfl (fun hC => ?_)
  have h9 := Option.some.inj h
  subst h9
  have e9 : ((some (.int (jI_at 40 (σ.1 47) x1)), q1) : Option Value × jx_S) = res := hK
  subst e9
  exact jE_ret hC rfl
def p_cRea_readLocal_32 (x1 : Int32) (σ : jx_S) : Option (Int32 × jx_S) := ((p_cRea_pass (1 : Int32) σ).bind fun q1 => (if (v_cFau_isTold q1) = 0 then ((p_cFun_addLocal (q1.1 5 7) (σ.1 5 6) x1 q1).bind fun q2 => (some ((q2.1, q2.2)))) else (some (((0 : Int32), q1)))))
theorem x_cRea_readLocal_32 (d : Nat) (hd : 3 ≤ d) (x1 : Int32) (σ : jx_S) (t : (Int32 × jx_S)) (res : Option Value × jx_S) (h : p_cRea_readLocal_32 x1 σ = some t) (hK : kkI t res) : jE d 48 32 [(0, .ref 5), (1, .int x1)] [] σ res := by
  unfold p_cRea_readLocal_32 at h
  refine jE_blk (bs := [(.aload_n 0, 0, 0), (.getfield 36, 5, 6), (.istore_n 2, 3, 0), (.aload_n 0, 0, 0), (.iconst (1), 1, 0)]) (i := .invokevirtual 68) (a1 := 66) (a2 := 0) (pc1 := 39) (l1 := [(2, .int (σ.1 5 6)), (0, .ref 5), (1, .int x1)]) (st1 := [.int (1 : Int32), .ref 5]) (σ1 := σ) (by decide +kernel) rfl (fun hC => ?_)
  obtain ⟨q1, hq, h⟩ := Option.bind_eq_some_iff.mp h
  refine jE_call (as := [.ref 5, .int (1 : Int32)]) (pc1 := 42) (st1 := []) hC rfl (by decide) (by omega) (x_cRea_pass (d - 1) (by omega) (1 : Int32) σ q1 (none, q1) hq rfl) ?_
  refine jE_blk (bs := [(.aload_n 0, 0, 0), (.getfield 32, 5, 3)]) (i := .invokevirtual 111) (a1 := 17) (a2 := 0) (pc1 := 46) (l1 := [(2, .int (σ.1 5 6)), (0, .ref 5), (1, .int x1)]) (st1 := [.ref 1]) (σ1 := q1) (by decide +kernel) rfl (fun hC => ?_)
  refine jE_call (as := [.ref 1]) (pc1 := 49) (st1 := []) hC rfl (by decide) (by omega) (xv_cFau_isTold (d - 1) (by omega) q1) ?_
  refine jE_blk (bs := []) (i := .ifCond .eq (7)) (a1 := 0) (a2 := 0) (pc1 := 49) (l1 := [(2, .int (σ.1 5 6)), (0, .ref 5), (1, .int x1)]) (st1 := [.int (v_cFau_isTold q1)]) (σ1 := q1) (by decide +kernel) rfl (fun hC => ?_)
  rcases Classical.em ((v_cFau_isTold q1) = 0) with hc | hc
  · rw [if_pos hc] at h
    refine jE_ifT 56 hC (by decide) hc ?_
    refine jE_blk (bs := [(.aload_n 0, 0, 0), (.getfield 28, 5, 2), (.aload_n 0, 0, 0), (.getfield 58, 5, 7), (.iload_n 2, 0, 0), (.iload_n 1, 0, 0)]) (i := .invokevirtual 117) (a1 := 36) (a2 := 0) (pc1 := 66) (l1 := [(2, .int (σ.1 5 6)), (0, .ref 5), (1, .int x1)]) (st1 := [.int x1, .int (σ.1 5 6), .int (q1.1 5 7), .ref 4]) (σ1 := q1) (by decide +kernel) rfl (fun hC => ?_)
    obtain ⟨q2, hq, h⟩ := Option.bind_eq_some_iff.mp h
    refine jE_call (as := [.ref 4, .int (q1.1 5 7), .int (σ.1 5 6), .int x1]) (pc1 := 69) (st1 := []) hC rfl (by decide) (by omega) (x_cFun_addLocal (d - 1) (by omega) (q1.1 5 7) (σ.1 5 6) x1 q1 q2 (some (.int q2.1), q2.2) hq rfl) ?_
    refine jE_blk (bs := []) (i := .ireturn) (a1 := 0) (a2 := 0) (pc1 := 69) (l1 := [(2, .int (σ.1 5 6)), (0, .ref 5), (1, .int x1)]) (st1 := [.int q2.1]) (σ1 := q2.2) (by decide +kernel) rfl (fun hC => ?_)
    have h9 := Option.some.inj h
    subst h9
    have e9 : ((some (.int q2.1), q2.2) : Option Value × jx_S) = res := hK
    subst e9
    exact jE_ret hC rfl
  · rw [if_neg hc] at h
    refine jE_ifF 56 hC (by decide) hc ?_
    refine jE_blk (bs := [(.iconst (0), 0, 0), (.goto (16), 0, 0)]) (i := .ireturn) (a1 := 0) (a2 := 0) (pc1 := 69) (l1 := [(2, .int (σ.1 5 6)), (0, .ref 5), (1, .int x1)]) (st1 := [.int (0 : Int32)]) (σ1 := q1) (by decide +kernel) rfl (fun hC => ?_)
    have h9 := Option.some.inj h
    subst h9
    have e9 : ((some (.int (0 : Int32)), q1) : Option Value × jx_S) = res := hK
    subst e9
    exact jE_ret hC rfl
def p_cRea_readLocal (x1 : Int32) (σ : jx_S) : Option (Int32 × jx_S) := (if ¬ (v_cRea_kind σ) = (1 : Int32) then (p_cRea_readLocal_32 x1 σ) else (if ¬ (jI_at 40 (σ.1 47) (σ.1 5 7)) = (30 : Int32) then (p_cRea_readLocal_32 x1 σ) else ((p_cRea_tell (4 : Int32) σ).bind fun q3 => (p_cRea_readLocal_32 x1 q3))))
theorem x_cRea_readLocal (d : Nat) (hd : 3 ≤ d) (x1 : Int32) (σ : jx_S) (t : (Int32 × jx_S)) (res : Option Value × jx_S) (h : p_cRea_readLocal x1 σ = some t) (hK : kkI t res) : jE d 48 0 [(0, .ref 5), (1, .int x1)] [] σ res := by
  unfold p_cRea_readLocal at h
  refine jE_blk (bs := [(.aload_n 0, 0, 0)]) (i := .invokevirtual 48) (a1 := 64) (a2 := 0) (pc1 := 1) (l1 := [(0, .ref 5), (1, .int x1)]) (st1 := [.ref 5]) (σ1 := σ) (by decide +kernel) rfl (fun hC => ?_)
  refine jE_call (as := [.ref 5]) (pc1 := 4) (st1 := []) hC rfl (by decide) (by omega) (xv_cRea_kind (d - 1) (by omega) σ) ?_
  refine jE_blk (bs := [(.iconst (1), 1, 0)]) (i := .if_icmp .ne (27)) (a1 := 0) (a2 := 0) (pc1 := 5) (l1 := [(0, .ref 5), (1, .int x1)]) (st1 := [.int (1 : Int32), .int (v_cRea_kind σ)]) (σ1 := σ) (by decide +kernel) rfl (fun hC => ?_)
  rcases Classical.em (¬ (v_cRea_kind σ) = (1 : Int32)) with hc | hc
  · rw [if_pos hc] at h
    refine jE_icT 32 hC (by decide) hc ?_
    exact jE_loc (l := [(0, .ref 5), (1, .int x1)]) (ks := [0, 1]) rfl (by decide) ⟨rfl, rfl, trivial⟩ (x_cRea_readLocal_32 d hd x1 σ _ res h hK)
  · rw [if_neg hc] at h
    refine jE_icF 32 hC (by decide) hc ?_
    refine jE_blk (bs := [(.aload_n 0, 0, 0), (.getfield 28, 5, 2), (.getfield 106, 4, 3), (.aload_n 0, 0, 0), (.getfield 58, 5, 7)]) (i := .invokevirtual 109) (a1 := 136) (a2 := 0) (pc1 := 19) (l1 := [(0, .ref 5), (1, .int x1)]) (st1 := [.int (σ.1 5 7), .ref 46]) (σ1 := σ) (by decide +kernel) rfl (fun hC => ?_)
    refine jE_call (as := [.ref 46, .int (σ.1 5 7)]) (pc1 := 22) (st1 := []) hC rfl (by decide) (by omega) (xI_at (d - 1) 46 40 (σ.1 5 7) σ (by decide) rfl rfl) ?_
    refine jE_blk (bs := [(.bipush (30), 30, 0)]) (i := .if_icmp .ne (8)) (a1 := 0) (a2 := 0) (pc1 := 24) (l1 := [(0, .ref 5), (1, .int x1)]) (st1 := [.int (30 : Int32), .int (jI_at 40 (σ.1 47) (σ.1 5 7))]) (σ1 := σ) (by decide +kernel) rfl (fun hC => ?_)
    rcases Classical.em (¬ (jI_at 40 (σ.1 47) (σ.1 5 7)) = (30 : Int32)) with hc | hc
    · rw [if_pos hc] at h
      refine jE_icT 32 hC (by decide) hc ?_
      exact jE_loc (l := [(0, .ref 5), (1, .int x1)]) (ks := [0, 1]) rfl (by decide) ⟨rfl, rfl, trivial⟩ (x_cRea_readLocal_32 d hd x1 σ _ res h hK)
    · rw [if_neg hc] at h
      refine jE_icF 32 hC (by decide) hc ?_
      refine jE_blk (bs := [(.aload_n 0, 0, 0), (.iconst (4), 4, 0)]) (i := .invokevirtual 55) (a1 := 67) (a2 := 0) (pc1 := 29) (l1 := [(0, .ref 5), (1, .int x1)]) (st1 := [.int (4 : Int32), .ref 5]) (σ1 := σ) (by decide +kernel) rfl (fun hC => ?_)
      obtain ⟨q3, hq, h⟩ := Option.bind_eq_some_iff.mp h
      refine jE_call (as := [.ref 5, .int (4 : Int32)]) (pc1 := 32) (st1 := []) hC rfl (by decide) (by omega) (x_cRea_tell (d - 1) (by omega) (4 : Int32) σ q3 (none, q3) hq rfl) ?_
      exact jE_loc (l := [(0, .ref 5), (1, .int x1)]) (ks := [0, 1]) rfl (by decide) ⟨rfl, rfl, trivial⟩ (x_cRea_readLocal_32 d hd x1 q3 _ res h hK)
def p_cRea_readBase_33 (x1 : Int32) (σ : jx_S) : Option (Int32 × jx_S) := (if ¬ x1 = (4 : Int32) then (some (((0 : Int32), σ))) else (some (((1 : Int32), σ))))
theorem x_cRea_readBase_33 (d : Nat) (hd : 2 ≤ d) (x1 : Int32) (σ : jx_S) (t : (Int32 × jx_S)) (res : Option Value × jx_S) (h : p_cRea_readBase_33 x1 σ = some t) (hK : kkI t res) : jE d 47 33 [(1, .int x1)] [] σ res := by
  unfold p_cRea_readBase_33 at h
  refine jE_blk (bs := [(.iload_n 1, 0, 0), (.iconst (4), 4, 0)]) (i := .if_icmp .ne (7)) (a1 := 0) (a2 := 0) (pc1 := 35) (l1 := [(1, .int x1)]) (st1 := [.int (4 : Int32), .int x1]) (σ1 := σ) (by decide +kernel) rfl (fun hC => ?_)
  rcases Classical.em (¬ x1 = (4 : Int32)) with hc | hc
  · rw [if_pos hc] at h
    refine jE_icT 42 hC (by decide) hc ?_
    refine jE_blk (bs := [(.iconst (0), 0, 0)]) (i := .ireturn) (a1 := 0) (a2 := 0) (pc1 := 43) (l1 := [(1, .int x1)]) (st1 := [.int (0 : Int32)]) (σ1 := σ) (by decide +kernel) rfl (fun hC => ?_)
    have h9 := Option.some.inj h
    subst h9
    have e9 : ((some (.int (0 : Int32)), σ) : Option Value × jx_S) = res := hK
    subst e9
    exact jE_ret hC rfl
  · rw [if_neg hc] at h
    refine jE_icF 42 hC (by decide) hc ?_
    refine jE_blk (bs := [(.iconst (1), 1, 0), (.goto (4), 0, 0)]) (i := .ireturn) (a1 := 0) (a2 := 0) (pc1 := 43) (l1 := [(1, .int x1)]) (st1 := [.int (1 : Int32)]) (σ1 := σ) (by decide +kernel) rfl (fun hC => ?_)
    have h9 := Option.some.inj h
    subst h9
    have e9 : ((some (.int (1 : Int32)), σ) : Option Value × jx_S) = res := hK
    subst e9
    exact jE_ret hC rfl
def p_cRea_readBase_15 (x1 : Int32) (σ : jx_S) : Option (Int32 × jx_S) := (p_cRea_readBase_33 x1 (jx_i σ 5 6 ((σ.1 5 6) + (1 : Int32))))
theorem x_cRea_readBase_15 (d : Nat) (hd : 2 ≤ d) (x1 : Int32) (σ : jx_S) (t : (Int32 × jx_S)) (res : Option Value × jx_S) (h : p_cRea_readBase_15 x1 σ = some t) (hK : kkI t res) : jE d 47 15 [(0, .ref 5), (1, .int x1)] [] σ res := by
  unfold p_cRea_readBase_15 at h
  refine jE_blk (bs := [(.aload_n 0, 0, 0), (.dup, 0, 0), (.getfield 36, 5, 6), (.iconst (1), 1, 0), (.iadd, 0, 0), (.putfield 36, 5, 6), (.goto (8), 0, 0)]) (i := .iload_n 1) (a1 := 0) (a2 := 0) (pc1 := 33) (l1 := [(0, .ref 5), (1, .int x1)]) (st1 := []) (σ1 := (jx_i σ 5 6 ((σ.1 5 6) + (1 : Int32)))) (by decide +kernel) rfl (fun hC => ?_)
  exact jE_loc (l := [(1, .int x1)]) (ks := [1]) rfl (by decide) ⟨rfl, trivial⟩ (x_cRea_readBase_33 d hd x1 (jx_i σ 5 6 ((σ.1 5 6) + (1 : Int32))) _ res h hK)
def p_cRea_readBase (σ : jx_S) : Option (Int32 × jx_S) := (if (v_cRea_kind σ) = (3 : Int32) then (p_cRea_readBase_15 (v_cRea_kind σ) σ) else (if ¬ (v_cRea_kind σ) = (4 : Int32) then ((p_cRea_tell (2 : Int32) σ).bind fun q1 => (p_cRea_readBase_33 (v_cRea_kind σ) q1)) else (p_cRea_readBase_15 (v_cRea_kind σ) σ)))
theorem x_cRea_readBase (d : Nat) (hd : 2 ≤ d) (σ : jx_S) (t : (Int32 × jx_S)) (res : Option Value × jx_S) (h : p_cRea_readBase σ = some t) (hK : kkI t res) : jE d 47 0 [(0, .ref 5)] [] σ res := by
  unfold p_cRea_readBase at h
  refine jE_blk (bs := [(.aload_n 0, 0, 0)]) (i := .invokevirtual 48) (a1 := 64) (a2 := 0) (pc1 := 1) (l1 := [(0, .ref 5)]) (st1 := [.ref 5]) (σ1 := σ) (by decide +kernel) rfl (fun hC => ?_)
  refine jE_call (as := [.ref 5]) (pc1 := 4) (st1 := []) hC rfl (by decide) (by omega) (xv_cRea_kind (d - 1) (by omega) σ) ?_
  refine jE_blk (bs := [(.istore_n 1, 2, 0), (.iload_n 1, 0, 0), (.iconst (3), 3, 0)]) (i := .if_icmp .eq (8)) (a1 := 0) (a2 := 0) (pc1 := 7) (l1 := [(1, .int (v_cRea_kind σ)), (0, .ref 5)]) (st1 := [.int (3 : Int32), .int (v_cRea_kind σ)]) (σ1 := σ) (by decide +kernel) rfl (fun hC => ?_)
  rcases Classical.em ((v_cRea_kind σ) = (3 : Int32)) with hc | hc
  · rw [if_pos hc] at h
    refine jE_icT 15 hC (by decide) hc ?_
    exact jE_loc (l := [(0, .ref 5), (1, .int (v_cRea_kind σ))]) (ks := [0, 1]) rfl (by decide) ⟨rfl, rfl, trivial⟩ (x_cRea_readBase_15 d hd (v_cRea_kind σ) σ _ res h hK)
  · rw [if_neg hc] at h
    refine jE_icF 15 hC (by decide) hc ?_
    refine jE_blk (bs := [(.iload_n 1, 0, 0), (.iconst (4), 4, 0)]) (i := .if_icmp .ne (16)) (a1 := 0) (a2 := 0) (pc1 := 12) (l1 := [(1, .int (v_cRea_kind σ)), (0, .ref 5)]) (st1 := [.int (4 : Int32), .int (v_cRea_kind σ)]) (σ1 := σ) (by decide +kernel) rfl (fun hC => ?_)
    rcases Classical.em (¬ (v_cRea_kind σ) = (4 : Int32)) with hc | hc
    · rw [if_pos hc] at h
      refine jE_icT 28 hC (by decide) hc ?_
      refine jE_blk (bs := [(.aload_n 0, 0, 0), (.iconst (2), 2, 0)]) (i := .invokevirtual 55) (a1 := 67) (a2 := 0) (pc1 := 30) (l1 := [(1, .int (v_cRea_kind σ)), (0, .ref 5)]) (st1 := [.int (2 : Int32), .ref 5]) (σ1 := σ) (by decide +kernel) rfl (fun hC => ?_)
      obtain ⟨q1, hq, h⟩ := Option.bind_eq_some_iff.mp h
      refine jE_call (as := [.ref 5, .int (2 : Int32)]) (pc1 := 33) (st1 := []) hC rfl (by decide) (by omega) (x_cRea_tell (d - 1) (by omega) (2 : Int32) σ q1 (none, q1) hq rfl) ?_
      exact jE_loc (l := [(1, .int (v_cRea_kind σ))]) (ks := [1]) rfl (by decide) ⟨rfl, trivial⟩ (x_cRea_readBase_33 d hd (v_cRea_kind σ) q1 _ res h hK)
    · rw [if_neg hc] at h
      refine jE_icF 28 hC (by decide) hc ?_
      exact jE_loc (l := [(0, .ref 5), (1, .int (v_cRea_kind σ))]) (ks := [0, 1]) rfl (by decide) ⟨rfl, rfl, trivial⟩ (x_cRea_readBase_15 d hd (v_cRea_kind σ) σ _ res h hK)
def p_cRea_readType (σ : jx_S) : Option (Int32 × jx_S) := ((p_cRea_readBase σ).bind fun q1 => (if (v_cRea_kind q1.2) = (21 : Int32) then ((p_cRea_pass (21 : Int32) q1.2).bind fun q2 => ((p_cRea_readBase q2).bind fun q3 => (if (v_cRea_kind q3.2) = (21 : Int32) then ((p_cRea_pass (21 : Int32) q3.2).bind fun q4 => ((p_cRea_readBase q4).bind fun q5 => (some ((((((6 : Int32) + ((4 : Int32) * q1.1)) + ((2 : Int32) * q3.1)) + q5.1), q5.2))))) else (some (((((2 : Int32) + ((2 : Int32) * q1.1)) + q3.1), q3.2)))))) else (some ((q1.1, q1.2)))))
theorem x_cRea_readType (d : Nat) (hd : 3 ≤ d) (σ : jx_S) (t : (Int32 × jx_S)) (res : Option Value × jx_S) (h : p_cRea_readType σ = some t) (hK : kkI t res) : jE d 46 0 [(0, .ref 5)] [] σ res := by
  unfold p_cRea_readType at h
  refine jE_blk (bs := [(.aload_n 0, 0, 0)]) (i := .invokevirtual 77) (a1 := 47) (a2 := 0) (pc1 := 1) (l1 := [(0, .ref 5)]) (st1 := [.ref 5]) (σ1 := σ) (by decide +kernel) rfl (fun hC => ?_)
  obtain ⟨q1, hq, h⟩ := Option.bind_eq_some_iff.mp h
  refine jE_call (as := [.ref 5]) (pc1 := 4) (st1 := []) hC rfl (by decide) (by omega) (x_cRea_readBase (d - 1) (by omega) σ q1 (some (.int q1.1), q1.2) hq rfl) ?_
  refine jE_blk (bs := [(.istore_n 1, 3, 0), (.aload_n 0, 0, 0)]) (i := .invokevirtual 48) (a1 := 64) (a2 := 0) (pc1 := 6) (l1 := [(1, .int q1.1), (0, .ref 5)]) (st1 := [.ref 5]) (σ1 := q1.2) (by decide +kernel) rfl (fun hC => ?_)
  refine jE_call (as := [.ref 5]) (pc1 := 9) (st1 := []) hC rfl (by decide) (by omega) (xv_cRea_kind (d - 1) (by omega) q1.2) ?_
  refine jE_blk (bs := [(.bipush (21), 21, 0)]) (i := .if_icmp .eq (5)) (a1 := 0) (a2 := 0) (pc1 := 11) (l1 := [(1, .int q1.1), (0, .ref 5)]) (st1 := [.int (21 : Int32), .int (v_cRea_kind q1.2)]) (σ1 := q1.2) (by decide +kernel) rfl (fun hC => ?_)
  rcases Classical.em ((v_cRea_kind q1.2) = (21 : Int32)) with hc | hc
  · rw [if_pos hc] at h
    refine jE_icT 16 hC (by decide) hc ?_
    refine jE_blk (bs := [(.aload_n 0, 0, 0), (.bipush (21), 21, 0)]) (i := .invokevirtual 68) (a1 := 66) (a2 := 0) (pc1 := 19) (l1 := [(1, .int q1.1), (0, .ref 5)]) (st1 := [.int (21 : Int32), .ref 5]) (σ1 := q1.2) (by decide +kernel) rfl (fun hC => ?_)
    obtain ⟨q2, hq, h⟩ := Option.bind_eq_some_iff.mp h
    refine jE_call (as := [.ref 5, .int (21 : Int32)]) (pc1 := 22) (st1 := []) hC rfl (by decide) (by omega) (x_cRea_pass (d - 1) (by omega) (21 : Int32) q1.2 q2 (none, q2) hq rfl) ?_
    refine jE_blk (bs := [(.aload_n 0, 0, 0)]) (i := .invokevirtual 77) (a1 := 47) (a2 := 0) (pc1 := 23) (l1 := [(1, .int q1.1), (0, .ref 5)]) (st1 := [.ref 5]) (σ1 := q2) (by decide +kernel) rfl (fun hC => ?_)
    obtain ⟨q3, hq, h⟩ := Option.bind_eq_some_iff.mp h
    refine jE_call (as := [.ref 5]) (pc1 := 26) (st1 := []) hC rfl (by decide) (by omega) (x_cRea_readBase (d - 1) (by omega) q2 q3 (some (.int q3.1), q3.2) hq rfl) ?_
    refine jE_blk (bs := [(.istore_n 2, 3, 0), (.aload_n 0, 0, 0)]) (i := .invokevirtual 48) (a1 := 64) (a2 := 0) (pc1 := 28) (l1 := [(2, .int q3.1), (1, .int q1.1), (0, .ref 5)]) (st1 := [.ref 5]) (σ1 := q3.2) (by decide +kernel) rfl (fun hC => ?_)
    refine jE_call (as := [.ref 5]) (pc1 := 31) (st1 := []) hC rfl (by decide) (by omega) (xv_cRea_kind (d - 1) (by omega) q3.2) ?_
    refine jE_blk (bs := [(.bipush (21), 21, 0)]) (i := .if_icmp .eq (11)) (a1 := 0) (a2 := 0) (pc1 := 33) (l1 := [(2, .int q3.1), (1, .int q1.1), (0, .ref 5)]) (st1 := [.int (21 : Int32), .int (v_cRea_kind q3.2)]) (σ1 := q3.2) (by decide +kernel) rfl (fun hC => ?_)
    rcases Classical.em ((v_cRea_kind q3.2) = (21 : Int32)) with hc | hc
    · rw [if_pos hc] at h
      refine jE_icT 44 hC (by decide) hc ?_
      refine jE_blk (bs := [(.aload_n 0, 0, 0), (.bipush (21), 21, 0)]) (i := .invokevirtual 68) (a1 := 66) (a2 := 0) (pc1 := 47) (l1 := [(2, .int q3.1), (1, .int q1.1), (0, .ref 5)]) (st1 := [.int (21 : Int32), .ref 5]) (σ1 := q3.2) (by decide +kernel) rfl (fun hC => ?_)
      obtain ⟨q4, hq, h⟩ := Option.bind_eq_some_iff.mp h
      refine jE_call (as := [.ref 5, .int (21 : Int32)]) (pc1 := 50) (st1 := []) hC rfl (by decide) (by omega) (x_cRea_pass (d - 1) (by omega) (21 : Int32) q3.2 q4 (none, q4) hq rfl) ?_
      refine jE_blk (bs := [(.bipush (6), 6, 0), (.iconst (4), 4, 0), (.iload_n 1, 0, 0), (.imul, 0, 0), (.iadd, 0, 0), (.iconst (2), 2, 0), (.iload_n 2, 0, 0), (.imul, 0, 0), (.iadd, 0, 0), (.aload_n 0, 0, 0)]) (i := .invokevirtual 77) (a1 := 47) (a2 := 0) (pc1 := 61) (l1 := [(2, .int q3.1), (1, .int q1.1), (0, .ref 5)]) (st1 := [.ref 5, .int (((6 : Int32) + ((4 : Int32) * q1.1)) + ((2 : Int32) * q3.1))]) (σ1 := q4) (by decide +kernel) rfl (fun hC => ?_)
      obtain ⟨q5, hq, h⟩ := Option.bind_eq_some_iff.mp h
      refine jE_call (as := [.ref 5]) (pc1 := 64) (st1 := [.int (((6 : Int32) + ((4 : Int32) * q1.1)) + ((2 : Int32) * q3.1))]) hC rfl (by decide) (by omega) (x_cRea_readBase (d - 1) (by omega) q4 q5 (some (.int q5.1), q5.2) hq rfl) ?_
      refine jE_blk (bs := [(.iadd, 0, 0)]) (i := .ireturn) (a1 := 0) (a2 := 0) (pc1 := 65) (l1 := [(2, .int q3.1), (1, .int q1.1), (0, .ref 5)]) (st1 := [.int ((((6 : Int32) + ((4 : Int32) * q1.1)) + ((2 : Int32) * q3.1)) + q5.1)]) (σ1 := q5.2) (by decide +kernel) rfl (fun hC => ?_)
      have h9 := Option.some.inj h
      subst h9
      have e9 : ((some (.int ((((6 : Int32) + ((4 : Int32) * q1.1)) + ((2 : Int32) * q3.1)) + q5.1)), q5.2) : Option Value × jx_S) = res := hK
      subst e9
      exact jE_ret hC rfl
    · rw [if_neg hc] at h
      refine jE_icF 44 hC (by decide) hc ?_
      refine jE_blk (bs := [(.iconst (2), 2, 0), (.iconst (2), 2, 0), (.iload_n 1, 0, 0), (.imul, 0, 0), (.iadd, 0, 0), (.iload_n 2, 0, 0), (.iadd, 0, 0)]) (i := .ireturn) (a1 := 0) (a2 := 0) (pc1 := 43) (l1 := [(2, .int q3.1), (1, .int q1.1), (0, .ref 5)]) (st1 := [.int (((2 : Int32) + ((2 : Int32) * q1.1)) + q3.1)]) (σ1 := q3.2) (by decide +kernel) rfl (fun hC => ?_)
      have h9 := Option.some.inj h
      subst h9
      have e9 : ((some (.int (((2 : Int32) + ((2 : Int32) * q1.1)) + q3.1)), q3.2) : Option Value × jx_S) = res := hK
      subst e9
      exact jE_ret hC rfl
  · rw [if_neg hc] at h
    refine jE_icF 16 hC (by decide) hc ?_
    refine jE_blk (bs := [(.iload_n 1, 0, 0)]) (i := .ireturn) (a1 := 0) (a2 := 0) (pc1 := 15) (l1 := [(1, .int q1.1), (0, .ref 5)]) (st1 := [.int q1.1]) (σ1 := q1.2) (by decide +kernel) rfl (fun hC => ?_)
    have h9 := Option.some.inj h
    subst h9
    have e9 : ((some (.int q1.1), q1.2) : Option Value × jx_S) = res := hK
    subst e9
    exact jE_ret hC rfl
def p_cRea_show (x1 : Int32) (σ : jx_S) : Option jx_S := (some ((jx_i (jI_put 30 σ 61 (σ.1 5 5) x1) 5 5 ((σ.1 5 5) + (1 : Int32)))))
theorem x_cRea_show (d : Nat) (hd : 1 ≤ d) (x1 : Int32) (σ : jx_S) (t : jx_S) (res : Option Value × jx_S) (h : p_cRea_show x1 σ = some t) (hK : kkV t res) : jE d 62 0 [(0, .ref 5), (1, .int x1)] [] σ res := by
  unfold p_cRea_show at h
  refine jE_blk (bs := [(.aload_n 0, 0, 0), (.getfield 14, 5, 4), (.aload_n 0, 0, 0), (.getfield 61, 5, 5), (.iload_n 1, 0, 0)]) (i := .invokevirtual 80) (a1 := 137) (a2 := 0) (pc1 := 9) (l1 := [(0, .ref 5), (1, .int x1)]) (st1 := [.int x1, .int (σ.1 5 5), .ref 60]) (σ1 := σ) (by decide +kernel) rfl (fun hC => ?_)
  refine jE_call (as := [.ref 60, .int (σ.1 5 5), .int x1]) (pc1 := 12) (st1 := []) hC rfl (by decide) (by omega) (xI_put (d - 1) 60 30 (σ.1 5 5) x1 σ (by decide) rfl rfl) ?_
  refine jE_blk (bs := [(.aload_n 0, 0, 0), (.dup, 0, 0), (.getfield 61, 5, 5), (.iconst (1), 1, 0), (.iadd, 0, 0), (.putfield 61, 5, 5)]) (i := .return_) (a1 := 0) (a2 := 0) (pc1 := 22) (l1 := [(0, .ref 5), (1, .int x1)]) (st1 := []) (σ1 := (jx_i (jI_put 30 σ 61 (σ.1 5 5) x1) 5 5 ((σ.1 5 5) + (1 : Int32)))) (by decide +kernel) rfl (fun hC => ?_)
  have h9 := Option.some.inj h
  subst h9
  have e9 : ((none, (jx_i (jI_put 30 σ 61 (σ.1 5 5) x1) 5 5 ((σ.1 5 5) + (1 : Int32)))) : Option Value × jx_S) = res := hK
  subst e9
  exact jE_ret hC rfl
