def kk_r_feed_44 (d : Nat) (t : ((Int32 × Int64 × Int32 × jx_S) ⊕ (Int32 × jx_S))) (res : Option Value × jx_S) : Prop := match t with
  | .inl s => jE d 144 44 [(0, .ref 106), (1, .int s.1), (2, .long s.2.1), (4, .int s.2.2.1)] [] s.2.2.2 res
  | .inr t => kkI t res
def p_r_feed_44_s (x1 : Int32) (x2 : Int64) (x4 : Int32) (σ : jx_S) : Option ((Int32 × Int64 × Int32 × jx_S) ⊕ (Int32 × jx_S)) := (if x1 ≤ x4 then (Option.map Sum.inr ((p_r_forget (jx_i σ 106 1 ((σ.1 106 1) + x1))).bind fun q1 => (some (((q1.1 106 1), q1))))) else (if ((σ.1 106 1) + x4) < 0 ∨ 4000 ≤ (((σ.1 106 1) + x4)).toNatClampNeg then none else (some (.inl (x1, x2, (x4 + 1), (jx_i σ 107 (((σ.1 106 1) + x4)).toNatClampNeg (((x2 >>> ((((8 : Int32) * x4)).toInt64 &&& 63)) &&& (255 : Int64))).toInt32))))))
theorem x_r_feed_44_s (d : Nat) (hd : 2 ≤ d) (x1 : Int32) (x2 : Int64) (x4 : Int32) (σ : jx_S) (t : ((Int32 × Int64 × Int32 × jx_S) ⊕ (Int32 × jx_S))) (res : Option Value × jx_S) (h : p_r_feed_44_s x1 x2 x4 σ = some t) (hK : kk_r_feed_44 d t res) : jE d 144 44 [(0, .ref 106), (1, .int x1), (2, .long x2), (4, .int x4)] [] σ res := by
  unfold p_r_feed_44_s at h
  refine jE_blk (bs := [(.iload 4, 0, 0), (.iload_n 1, 0, 0)]) (i := .if_icmp .ge (33)) (a1 := 0) (a2 := 0) (pc1 := 47) (l1 := [(0, .ref 106), (1, .int x1), (2, .long x2), (4, .int x4)]) (st1 := [.int x1, .int x4]) (σ1 := σ) (by decide +kernel) rfl (fun hC => ?_)
  rcases Classical.em (x1 ≤ x4) with hc | hc
  · rw [if_pos hc] at h
    refine jE_icT 80 hC (by decide) hc ?_
    obtain ⟨t9_2, h9_2, h8_2⟩ := Option.map_eq_some_iff.mp h
    clear h
    subst h8_2
    have h := h9_2
    clear h9_2
    refine jE_blk (bs := [(.aload_n 0, 0, 0), (.dup, 0, 0), (.getfield 231, 12, 1), (.iload_n 1, 0, 0), (.iadd, 0, 0), (.putfield 231, 12, 1), (.aload_n 0, 0, 0)]) (i := .invokevirtual 236) (a1 := 143) (a2 := 0) (pc1 := 91) (l1 := [(0, .ref 106), (1, .int x1), (2, .long x2), (4, .int x4)]) (st1 := [.ref 106]) (σ1 := (jx_i σ 106 1 ((σ.1 106 1) + x1))) (by decide +kernel) rfl (fun hC => ?_)
    obtain ⟨q1, hq, h⟩ := Option.bind_eq_some_iff.mp h
    refine jE_call (as := [.ref 106]) (pc1 := 94) (st1 := []) hC rfl (by decide) (by omega) (x_r_forget (d - 1) (by omega) (jx_i σ 106 1 ((σ.1 106 1) + x1)) q1 (none, q1) hq rfl) ?_
    refine jE_blk (bs := [(.aload_n 0, 0, 0), (.getfield 231, 12, 1)]) (i := .ireturn) (a1 := 0) (a2 := 0) (pc1 := 98) (l1 := [(0, .ref 106), (1, .int x1), (2, .long x2), (4, .int x4)]) (st1 := [.int (q1.1 106 1)]) (σ1 := q1) (by decide +kernel) rfl (fun hC => ?_)
    have h9 := Option.some.inj h
    subst h9
    have e9 : ((some (.int (q1.1 106 1)), q1) : Option Value × jx_S) = res := hK
    subst e9
    exact jE_ret hC rfl
  · rw [if_neg hc] at h
    refine jE_icF 80 hC (by decide) hc ?_
    refine jE_blk (bs := [(.aload_n 0, 0, 0), (.getfield 7, 12, 0), (.aload_n 0, 0, 0), (.getfield 231, 12, 1), (.iload 4, 0, 0), (.iadd, 0, 0), (.lload_n 2, 0, 0), (.bipush (8), 8, 0), (.iload 4, 0, 0), (.imul, 0, 0), (.lshr, 0, 0), (.ldc2_w 234, 255, 0), (.land, 0, 0), (.l2i, 0, 0)]) (i := .iastore) (a1 := 0) (a2 := 0) (pc1 := 73) (l1 := [(0, .ref 106), (1, .int x1), (2, .long x2), (4, .int x4)]) (st1 := [.int (((x2 >>> ((((8 : Int32) * x4)).toInt64 &&& 63)) &&& (255 : Int64))).toInt32, .int ((σ.1 106 1) + x4), .ref 107]) (σ1 := σ) (by decide +kernel) rfl (fun hC => ?_)
    obtain ⟨hi, h⟩ := jx_ite0_inv h
    refine jE_iast (n := 4000) hC (by decide) rfl hi ?_
    refine jE_blk (bs := [(.iinc 4 (1), 5, 2), (.goto (-33), 0, 0)]) (i := .iload 4) (a1 := 0) (a2 := 0) (pc1 := 44) (l1 := [(4, .int (x4 + 1)), (0, .ref 106), (1, .int x1), (2, .long x2)]) (st1 := []) (σ1 := (jx_i σ 107 (((σ.1 106 1) + x4)).toNatClampNeg (((x2 >>> ((((8 : Int32) * x4)).toInt64 &&& 63)) &&& (255 : Int64))).toInt32)) (by decide +kernel) rfl (fun hC => ?_)
    have h9 := Option.some.inj h
    subst h9
    exact jE_loc (l := [(0, .ref 106), (1, .int x1), (2, .long x2), (4, .int (x4 + 1))]) (ks := [0, 1, 2, 4]) rfl (by decide) ⟨rfl, rfl, rfl, rfl, trivial⟩ hK
def p_r_feed_44 (x1 : Int32) (x2 : Int64) (x4 : Int32) (σ : jx_S) : Option (Int32 × jx_S) := jx_loop 100000000 (fun s => p_r_feed_44_s s.1 s.2.1 s.2.2.1 (s.2.2.2)) (x1, x2, x4, σ)
theorem x_r_feed_44 (d : Nat) (hd : 2 ≤ d) (x1 : Int32) (x2 : Int64) (x4 : Int32) (σ : jx_S) (t : (Int32 × jx_S)) (res : Option Value × jx_S) (h : p_r_feed_44 x1 x2 x4 σ = some t) (hK : kkI t res) : jE d 144 44 [(0, .ref 106), (1, .int x1), (2, .long x2), (4, .int x4)] [] σ res := by
  refine jx_loop_ok (E := fun s t => ∀ res, kkI t res → jE d 144 44 [(0, .ref 106), (1, .int s.1), (2, .long s.2.1), (4, .int s.2.2.1)] [] s.2.2.2 res) (fun s t hs => ?_) _ _ _ h res hK
  cases t with
  | inl s1 => exact fun b hb res hk => x_r_feed_44_s d hd (s.1) (s.2.1) (s.2.2.1) (s.2.2.2) _ res hs (hb res hk)
  | inr b => exact fun res hk => x_r_feed_44_s d hd (s.1) (s.2.1) (s.2.2.1) (s.2.2.2) _ res hs hk
def p_r_feed_29 (x1 : Int32) (x2 : Int64) (y0 : Int32) (σ : jx_S) : Option (Int32 × jx_S) := (if y0 ≤ 0 then (p_r_feed_44 x1 x2 (0 : Int32) (jx_i σ 106 2 y0)) else (some (((0 : Int32), (jx_i σ 106 2 y0)))))
theorem x_r_feed_29 (d : Nat) (hd : 2 ≤ d) (x1 : Int32) (x2 : Int64) (y0 : Int32) (σ : jx_S) (t : (Int32 × jx_S)) (res : Option Value × jx_S) (h : p_r_feed_29 x1 x2 y0 σ = some t) (hK : kkI t res) : jE d 144 29 [(0, .ref 106), (1, .int x1), (2, .long x2)] [.int y0, .ref 106] σ res := by
  unfold p_r_feed_29 at h
  refine jE_blk (bs := [(.putfield 209, 12, 2), (.aload_n 0, 0, 0), (.getfield 209, 12, 2)]) (i := .ifCond .le (5)) (a1 := 0) (a2 := 0) (pc1 := 36) (l1 := [(0, .ref 106), (1, .int x1), (2, .long x2)]) (st1 := [.int y0]) (σ1 := (jx_i σ 106 2 y0)) (by decide +kernel) rfl (fun hC => ?_)
  rcases Classical.em (y0 ≤ 0) with hc | hc
  · rw [if_pos hc] at h
    refine jE_ifT 41 hC (by decide) hc ?_
    refine jE_blk (bs := [(.iconst (0), 0, 0), (.istore 4, 5, 0)]) (i := .iload 4) (a1 := 0) (a2 := 0) (pc1 := 44) (l1 := [(4, .int (0 : Int32)), (0, .ref 106), (1, .int x1), (2, .long x2)]) (st1 := []) (σ1 := (jx_i σ 106 2 y0)) (by decide +kernel) rfl (fun hC => ?_)
    exact jE_loc (l := [(0, .ref 106), (1, .int x1), (2, .long x2), (4, .int (0 : Int32))]) (ks := [0, 1, 2, 4]) rfl (by decide) ⟨rfl, rfl, rfl, rfl, trivial⟩ (x_r_feed_44 d hd x1 x2 (0 : Int32) (jx_i σ 106 2 y0) _ res h hK)
  · rw [if_neg hc] at h
    refine jE_ifF 41 hC (by decide) hc ?_
    refine jE_blk (bs := [(.iconst (0), 0, 0)]) (i := .ireturn) (a1 := 0) (a2 := 0) (pc1 := 40) (l1 := [(0, .ref 106), (1, .int x1), (2, .long x2)]) (st1 := [.int (0 : Int32)]) (σ1 := (jx_i σ 106 2 y0)) (by decide +kernel) rfl (fun hC => ?_)
    have h9 := Option.some.inj h
    subst h9
    have e9 : ((some (.int (0 : Int32)), (jx_i σ 106 2 y0)) : Option Value × jx_S) = res := hK
    subst e9
    exact jE_ret hC rfl
def p_r_feed_24 (x1 : Int32) (x2 : Int64) (σ : jx_S) : Option (Int32 × jx_S) := (p_r_feed_29 x1 x2 (1 : Int32) σ)
theorem x_r_feed_24 (d : Nat) (hd : 2 ≤ d) (x1 : Int32) (x2 : Int64) (σ : jx_S) (t : (Int32 × jx_S)) (res : Option Value × jx_S) (h : p_r_feed_24 x1 x2 σ = some t) (hK : kkI t res) : jE d 144 24 [(0, .ref 106), (1, .int x1), (2, .long x2)] [.ref 106] σ res := by
  unfold p_r_feed_24 at h
  refine jE_blk (bs := [(.iconst (1), 1, 0), (.goto (4), 0, 0)]) (i := .putfield 209) (a1 := 12) (a2 := 2) (pc1 := 29) (l1 := [(0, .ref 106), (1, .int x1), (2, .long x2)]) (st1 := [.int (1 : Int32), .ref 106]) (σ1 := σ) (by decide +kernel) rfl (fun hC => ?_)
  exact jE_loc (l := [(0, .ref 106), (1, .int x1), (2, .long x2)]) (ks := [0, 1, 2]) rfl (by decide) ⟨rfl, rfl, rfl, trivial⟩ (x_r_feed_29 d hd x1 x2 (1 : Int32) σ _ res h hK)
def p_r_feed (x1 : Int32) (x2 : Int64) (σ : jx_S) : Option (Int32 × jx_S) := (if x1 < (1 : Int32) then (p_r_feed_24 x1 x2 σ) else (if (8 : Int32) < x1 then (p_r_feed_24 x1 x2 σ) else (if ((σ.1 106 1) + x1) ≤ (4000 : Int32) then (p_r_feed_29 x1 x2 (0 : Int32) σ) else (p_r_feed_24 x1 x2 σ))))
theorem x_r_feed (d : Nat) (hd : 2 ≤ d) (x1 : Int32) (x2 : Int64) (σ : jx_S) (t : (Int32 × jx_S)) (res : Option Value × jx_S) (h : p_r_feed x1 x2 σ = some t) (hK : kkI t res) : jE d 144 0 [(0, .ref 106), (1, .int x1), (2, .long x2)] [] σ res := by
  unfold p_r_feed at h
  refine jE_blk (bs := [(.aload_n 0, 0, 0), (.iload_n 1, 0, 0), (.iconst (1), 1, 0)]) (i := .if_icmp .lt (21)) (a1 := 0) (a2 := 0) (pc1 := 3) (l1 := [(0, .ref 106), (1, .int x1), (2, .long x2)]) (st1 := [.int (1 : Int32), .int x1, .ref 106]) (σ1 := σ) (by decide +kernel) rfl (fun hC => ?_)
  rcases Classical.em (x1 < (1 : Int32)) with hc | hc
  · rw [if_pos hc] at h
    refine jE_icT 24 hC (by decide) hc ?_
    exact jE_loc (l := [(0, .ref 106), (1, .int x1), (2, .long x2)]) (ks := [0, 1, 2]) rfl (by decide) ⟨rfl, rfl, rfl, trivial⟩ (x_r_feed_24 d hd x1 x2 σ _ res h hK)
  · rw [if_neg hc] at h
    refine jE_icF 24 hC (by decide) hc ?_
    refine jE_blk (bs := [(.iload_n 1, 0, 0), (.bipush (8), 8, 0)]) (i := .if_icmp .gt (15)) (a1 := 0) (a2 := 0) (pc1 := 9) (l1 := [(0, .ref 106), (1, .int x1), (2, .long x2)]) (st1 := [.int (8 : Int32), .int x1, .ref 106]) (σ1 := σ) (by decide +kernel) rfl (fun hC => ?_)
    rcases Classical.em ((8 : Int32) < x1) with hc | hc
    · rw [if_pos hc] at h
      refine jE_icT 24 hC (by decide) hc ?_
      exact jE_loc (l := [(0, .ref 106), (1, .int x1), (2, .long x2)]) (ks := [0, 1, 2]) rfl (by decide) ⟨rfl, rfl, rfl, trivial⟩ (x_r_feed_24 d hd x1 x2 σ _ res h hK)
    · rw [if_neg hc] at h
      refine jE_icF 24 hC (by decide) hc ?_
      refine jE_blk (bs := [(.aload_n 0, 0, 0), (.getfield 231, 12, 1), (.iload_n 1, 0, 0), (.iadd, 0, 0), (.sipush (4000), 4000, 0)]) (i := .if_icmp .le (7)) (a1 := 0) (a2 := 0) (pc1 := 21) (l1 := [(0, .ref 106), (1, .int x1), (2, .long x2)]) (st1 := [.int (4000 : Int32), .int ((σ.1 106 1) + x1), .ref 106]) (σ1 := σ) (by decide +kernel) rfl (fun hC => ?_)
      rcases Classical.em (((σ.1 106 1) + x1) ≤ (4000 : Int32)) with hc | hc
      · rw [if_pos hc] at h
        refine jE_icT 28 hC (by decide) hc ?_
        refine jE_blk (bs := [(.iconst (0), 0, 0)]) (i := .putfield 209) (a1 := 12) (a2 := 2) (pc1 := 29) (l1 := [(0, .ref 106), (1, .int x1), (2, .long x2)]) (st1 := [.int (0 : Int32), .ref 106]) (σ1 := σ) (by decide +kernel) rfl (fun hC => ?_)
        exact jE_loc (l := [(0, .ref 106), (1, .int x1), (2, .long x2)]) (ks := [0, 1, 2]) rfl (by decide) ⟨rfl, rfl, rfl, trivial⟩ (x_r_feed_29 d hd x1 x2 (0 : Int32) σ _ res h hK)
      · rw [if_neg hc] at h
        refine jE_icF 28 hC (by decide) hc ?_
        exact jE_loc (l := [(0, .ref 106), (1, .int x1), (2, .long x2)]) (ks := [0, 1, 2]) rfl (by decide) ⟨rfl, rfl, rfl, trivial⟩ (x_r_feed_24 d hd x1 x2 σ _ res h hK)
def p_r_wipe (σ : jx_S) : Option (Int32 × jx_S) := ((p_r_forget (jx_i (jx_i σ 106 2 (0 : Int32)) 106 1 (0 : Int32))).bind fun q1 => (some (((σ.1 106 1), q1))))
theorem x_r_wipe (d : Nat) (hd : 2 ≤ d) (σ : jx_S) (t : (Int32 × jx_S)) (res : Option Value × jx_S) (h : p_r_wipe σ = some t) (hK : kkI t res) : jE d 145 0 [(0, .ref 106)] [] σ res := by
  unfold p_r_wipe at h
  refine jE_blk (bs := [(.aload_n 0, 0, 0), (.iconst (0), 0, 0), (.putfield 209, 12, 2), (.aload_n 0, 0, 0), (.getfield 231, 12, 1), (.istore_n 1, 2, 0), (.aload_n 0, 0, 0), (.iconst (0), 0, 0), (.putfield 231, 12, 1), (.aload_n 0, 0, 0)]) (i := .invokevirtual 236) (a1 := 143) (a2 := 0) (pc1 := 16) (l1 := [(1, .int (σ.1 106 1)), (0, .ref 106)]) (st1 := [.ref 106]) (σ1 := (jx_i (jx_i σ 106 2 (0 : Int32)) 106 1 (0 : Int32))) (by decide +kernel) rfl (fun hC => ?_)
  obtain ⟨q1, hq, h⟩ := Option.bind_eq_some_iff.mp h
  refine jE_call (as := [.ref 106]) (pc1 := 19) (st1 := []) hC rfl (by decide) (by omega) (x_r_forget (d - 1) (by omega) (jx_i (jx_i σ 106 2 (0 : Int32)) 106 1 (0 : Int32)) q1 (none, q1) hq rfl) ?_
  refine jE_blk (bs := [(.iload_n 1, 0, 0)]) (i := .ireturn) (a1 := 0) (a2 := 0) (pc1 := 20) (l1 := [(1, .int (σ.1 106 1)), (0, .ref 106)]) (st1 := [.int (σ.1 106 1)]) (σ1 := q1) (by decide +kernel) rfl (fun hC => ?_)
  have h9 := Option.some.inj h
  subst h9
  have e9 : ((some (.int (σ.1 106 1)), q1) : Option Value × jx_S) = res := hK
  subst e9
  exact jE_ret hC rfl
def p_r_fails (x1 : Int32) (x2 : Int32) (σ : jx_S) : Option (Int32 × jx_S) := (if ¬ (σ.1 106 4) = 0 then (some (((0 : Int32), σ))) else (some (((0 : Int32), (jx_i (jx_i σ 106 4 x1) 106 5 x2)))))
theorem x_r_fails (d : Nat) (hd : 0 ≤ d) (x1 : Int32) (x2 : Int32) (σ : jx_S) (t : (Int32 × jx_S)) (res : Option Value × jx_S) (h : p_r_fails x1 x2 σ = some t) (hK : kkI t res) : jE d 146 0 [(0, .ref 106), (1, .int x1), (2, .int x2)] [] σ res := by
  unfold p_r_fails at h
  refine jE_blk (bs := [(.aload_n 0, 0, 0), (.getfield 216, 12, 4)]) (i := .ifCond .ne (13)) (a1 := 0) (a2 := 0) (pc1 := 4) (l1 := [(0, .ref 106), (1, .int x1), (2, .int x2)]) (st1 := [.int (σ.1 106 4)]) (σ1 := σ) (by decide +kernel) rfl (fun hC => ?_)
  rcases Classical.em (¬ (σ.1 106 4) = 0) with hc | hc
  · rw [if_pos hc] at h
    refine jE_ifT 17 hC (by decide) hc ?_
    refine jE_blk (bs := [(.iconst (0), 0, 0)]) (i := .ireturn) (a1 := 1) (a2 := 0) (pc1 := 18) (l1 := [(0, .ref 106), (1, .int x1), (2, .int x2)]) (st1 := [.int (0 : Int32)]) (σ1 := σ) (by decide +kernel) rfl (fun hC => ?_)
    have h9 := Option.some.inj h
    subst h9
    have e9 : ((some (.int (0 : Int32)), σ) : Option Value × jx_S) = res := hK
    subst e9
    exact jE_ret hC rfl
  · rw [if_neg hc] at h
    refine jE_ifF 17 hC (by decide) hc ?_
    refine jE_blk (bs := [(.aload_n 0, 0, 0), (.iload_n 1, 0, 0), (.putfield 216, 12, 4), (.aload_n 0, 0, 0), (.iload_n 2, 0, 0), (.putfield 13, 12, 5), (.iconst (0), 0, 0)]) (i := .ireturn) (a1 := 1) (a2 := 0) (pc1 := 18) (l1 := [(0, .ref 106), (1, .int x1), (2, .int x2)]) (st1 := [.int (0 : Int32)]) (σ1 := (jx_i (jx_i σ 106 4 x1) 106 5 x2)) (by decide +kernel) rfl (fun hC => ?_)
    have h9 := Option.some.inj h
    subst h9
    have e9 : ((some (.int (0 : Int32)), (jx_i (jx_i σ 106 4 x1) 106 5 x2)) : Option Value × jx_S) = res := hK
    subst e9
    exact jE_ret hC rfl
def p_r_octet (x1 : Int32) (σ : jx_S) : Option (Int32 × jx_S) := (if (σ.1 106 1) ≤ x1 then (some (((-1 : Int32), σ))) else (if x1 < 0 ∨ 4000 ≤ (x1).toNatClampNeg then none else (some ((((σ.1 107) (x1).toNatClampNeg), σ)))))
theorem x_r_octet (d : Nat) (hd : 0 ≤ d) (x1 : Int32) (σ : jx_S) (t : (Int32 × jx_S)) (res : Option Value × jx_S) (h : p_r_octet x1 σ = some t) (hK : kkI t res) : jE d 149 0 [(0, .ref 106), (1, .int x1)] [] σ res := by
  unfold p_r_octet at h
  refine jE_blk (bs := [(.iload_n 1, 0, 0), (.aload_n 0, 0, 0), (.getfield 231, 12, 1)]) (i := .if_icmp .ge (12)) (a1 := 0) (a2 := 0) (pc1 := 5) (l1 := [(0, .ref 106), (1, .int x1)]) (st1 := [.int (σ.1 106 1), .int x1]) (σ1 := σ) (by decide +kernel) rfl (fun hC => ?_)
  rcases Classical.em ((σ.1 106 1) ≤ x1) with hc | hc
  · rw [if_pos hc] at h
    refine jE_icT 17 hC (by decide) hc ?_
    refine jE_blk (bs := [(.iconst (-1), 1, 1)]) (i := .ireturn) (a1 := 0) (a2 := 0) (pc1 := 18) (l1 := [(0, .ref 106), (1, .int x1)]) (st1 := [.int (-1 : Int32)]) (σ1 := σ) (by decide +kernel) rfl (fun hC => ?_)
    have h9 := Option.some.inj h
    subst h9
    have e9 : ((some (.int (-1 : Int32)), σ) : Option Value × jx_S) = res := hK
    subst e9
    exact jE_ret hC rfl
  · rw [if_neg hc] at h
    refine jE_icF 17 hC (by decide) hc ?_
    refine jE_blk (bs := [(.aload_n 0, 0, 0), (.getfield 7, 12, 0), (.iload_n 1, 0, 0)]) (i := .iaload) (a1 := 0) (a2 := 0) (pc1 := 13) (l1 := [(0, .ref 106), (1, .int x1)]) (st1 := [.int x1, .ref 107]) (σ1 := σ) (by decide +kernel) rfl (fun hC => ?_)
    obtain ⟨hi, h⟩ := jx_ite0_inv h
    refine jE_iald (n := 4000) hC (by decide) rfl hi ?_
    refine jE_blk (bs := [(.goto (4), 0, 0)]) (i := .ireturn) (a1 := 0) (a2 := 0) (pc1 := 18) (l1 := [(0, .ref 106), (1, .int x1)]) (st1 := [.int ((σ.1 107) (x1).toNatClampNeg)]) (σ1 := σ) (by decide +kernel) rfl (fun hC => ?_)
    have h9 := Option.some.inj h
    subst h9
    have e9 : ((some (.int ((σ.1 107) (x1).toNatClampNeg)), σ) : Option Value × jx_S) = res := hK
    subst e9
    exact jE_ret hC rfl
def kk_r_spells_38 (d : Nat) (t : ((Int32 × Int32 × Int64 × Int32 × Int32 × jx_S) ⊕ (Int32 × jx_S))) (res : Option Value × jx_S) : Prop := match t with
  | .inl s => jE d 150 38 [(0, .ref 106), (1, .int s.1), (2, .int s.2.1), (3, .long s.2.2.1), (5, .int s.2.2.2.1), (6, .int s.2.2.2.2.1)] [] s.2.2.2.2.2 res
  | .inr t => kkI t res
def p_r_spells_77 (x1 : Int32) (x2 : Int32) (x3 : Int64) (x6 : Int32) (y0 : Int32) (σ : jx_S) : Option ((Int32 × Int32 × Int64 × Int32 × Int32 × jx_S) ⊕ (Int32 × jx_S)) := (some (.inl (x1, x2, x3, y0, (x6 + 1), σ)))
theorem x_r_spells_77 (d : Nat) (hd : 1 ≤ d) (x1 : Int32) (x2 : Int32) (x3 : Int64) (x6 : Int32) (y0 : Int32) (σ : jx_S) (t : ((Int32 × Int32 × Int64 × Int32 × Int32 × jx_S) ⊕ (Int32 × jx_S))) (res : Option Value × jx_S) (h : p_r_spells_77 x1 x2 x3 x6 y0 σ = some t) (hK : kk_r_spells_38 d t res) : jE d 150 77 [(0, .ref 106), (1, .int x1), (2, .int x2), (3, .long x3), (6, .int x6)] [.int y0] σ res := by
  unfold p_r_spells_77 at h
  refine jE_blk (bs := [(.istore 5, 7, 0), (.iinc 6 (1), 7, 2), (.goto (-44), 0, 0)]) (i := .iload 6) (a1 := 0) (a2 := 0) (pc1 := 38) (l1 := [(6, .int (x6 + 1)), (5, .int y0), (0, .ref 106), (1, .int x1), (2, .int x2), (3, .long x3)]) (st1 := []) (σ1 := σ) (by decide +kernel) rfl (fun hC => ?_)
  have h9 := Option.some.inj h
  subst h9
  exact jE_loc (l := [(0, .ref 106), (1, .int x1), (2, .int x2), (3, .long x3), (5, .int y0), (6, .int (x6 + 1))]) (ks := [0, 1, 2, 3, 5, 6]) rfl (by decide) ⟨rfl, rfl, rfl, rfl, rfl, rfl, trivial⟩ hK
def p_r_spells_38_s (x1 : Int32) (x2 : Int32) (x3 : Int64) (x5 : Int32) (x6 : Int32) (σ : jx_S) : Option ((Int32 × Int32 × Int64 × Int32 × Int32 × jx_S) ⊕ (Int32 × jx_S)) := (if x2 ≤ x6 then (Option.map Sum.inr (if x5 = 0 ∨ x5 = 1 then (some ((x5, σ))) else none)) else (if x5 = 0 then (Option.map Sum.inr (if x5 = 0 ∨ x5 = 1 then (some ((x5, σ))) else none)) else ((p_r_octet (x1 + x6) σ).bind fun q3 => (if ¬ q3.1 = (((x3 >>> ((((8 : Int32) * x6)).toInt64 &&& 63)) &&& (255 : Int64))).toInt32 then (p_r_spells_77 x1 x2 x3 x6 (0 : Int32) q3.2) else (p_r_spells_77 x1 x2 x3 x6 (1 : Int32) q3.2)))))
theorem x_r_spells_38_s (d : Nat) (hd : 1 ≤ d) (x1 : Int32) (x2 : Int32) (x3 : Int64) (x5 : Int32) (x6 : Int32) (σ : jx_S) (t : ((Int32 × Int32 × Int64 × Int32 × Int32 × jx_S) ⊕ (Int32 × jx_S))) (res : Option Value × jx_S) (h : p_r_spells_38_s x1 x2 x3 x5 x6 σ = some t) (hK : kk_r_spells_38 d t res) : jE d 150 38 [(0, .ref 106), (1, .int x1), (2, .int x2), (3, .long x3), (5, .int x5), (6, .int x6)] [] σ res := by
  unfold p_r_spells_38_s at h
  refine jE_blk (bs := [(.iload 6, 0, 0), (.iload_n 2, 0, 0)]) (i := .if_icmp .ge (44)) (a1 := 0) (a2 := 0) (pc1 := 41) (l1 := [(0, .ref 106), (1, .int x1), (2, .int x2), (3, .long x3), (5, .int x5), (6, .int x6)]) (st1 := [.int x2, .int x6]) (σ1 := σ) (by decide +kernel) rfl (fun hC => ?_)
  rcases Classical.em (x2 ≤ x6) with hc | hc
  · rw [if_pos hc] at h
    refine jE_icT 85 hC (by decide) hc ?_
    obtain ⟨t9_1, h9_1, h8_1⟩ := Option.map_eq_some_iff.mp h
    clear h
    subst h8_1
    have h := h9_1
    clear h9_1
    refine jE_blk (bs := [(.iload 5, 0, 0)]) (i := .ireturn) (a1 := 1) (a2 := 0) (pc1 := 87) (l1 := [(0, .ref 106), (1, .int x1), (2, .int x2), (3, .long x3), (5, .int x5), (6, .int x6)]) (st1 := [.int x5]) (σ1 := σ) (by decide +kernel) rfl (fun hC => ?_)
    obtain ⟨hb, h⟩ := jx_ite_inv h
    have h9 := Option.some.inj h
    subst h9
    have e9 : ((some (.int x5), σ) : Option Value × jx_S) = res := hK
    subst e9
    exact jE_bret hC hb
  · rw [if_neg hc] at h
    refine jE_icF 85 hC (by decide) hc ?_
    refine jE_blk (bs := [(.iload 5, 0, 0)]) (i := .ifCond .eq (39)) (a1 := 0) (a2 := 0) (pc1 := 46) (l1 := [(0, .ref 106), (1, .int x1), (2, .int x2), (3, .long x3), (5, .int x5), (6, .int x6)]) (st1 := [.int x5]) (σ1 := σ) (by decide +kernel) rfl (fun hC => ?_)
    rcases Classical.em (x5 = 0) with hc | hc
    · rw [if_pos hc] at h
      refine jE_ifT 85 hC (by decide) hc ?_
      obtain ⟨t9_2, h9_2, h8_2⟩ := Option.map_eq_some_iff.mp h
      clear h
      subst h8_2
      have h := h9_2
      clear h9_2
      refine jE_blk (bs := [(.iload 5, 0, 0)]) (i := .ireturn) (a1 := 1) (a2 := 0) (pc1 := 87) (l1 := [(0, .ref 106), (1, .int x1), (2, .int x2), (3, .long x3), (5, .int x5), (6, .int x6)]) (st1 := [.int x5]) (σ1 := σ) (by decide +kernel) rfl (fun hC => ?_)
      obtain ⟨hb, h⟩ := jx_ite_inv h
      have h9 := Option.some.inj h
      subst h9
      have e9 : ((some (.int x5), σ) : Option Value × jx_S) = res := hK
      subst e9
      exact jE_bret hC hb
    · rw [if_neg hc] at h
      refine jE_ifF 85 hC (by decide) hc ?_
      refine jE_blk (bs := [(.aload_n 0, 0, 0), (.iload_n 1, 0, 0), (.iload 6, 0, 0), (.iadd, 0, 0)]) (i := .invokevirtual 239) (a1 := 149) (a2 := 0) (pc1 := 54) (l1 := [(0, .ref 106), (1, .int x1), (2, .int x2), (3, .long x3), (5, .int x5), (6, .int x6)]) (st1 := [.int (x1 + x6), .ref 106]) (σ1 := σ) (by decide +kernel) rfl (fun hC => ?_)
      obtain ⟨q3, hq, h⟩ := Option.bind_eq_some_iff.mp h
      refine jE_call (as := [.ref 106, .int (x1 + x6)]) (pc1 := 57) (st1 := []) hC rfl (by decide) (by omega) (x_r_octet (d - 1) (by omega) (x1 + x6) σ q3 (some (.int q3.1), q3.2) hq rfl) ?_
      refine jE_blk (bs := [(.lload_n 3, 0, 0), (.bipush (8), 8, 0), (.iload 6, 0, 0), (.imul, 0, 0), (.lshr, 0, 0), (.ldc2_w 234, 255, 0), (.land, 0, 0), (.l2i, 0, 0)]) (i := .if_icmp .ne (7)) (a1 := 0) (a2 := 0) (pc1 := 69) (l1 := [(0, .ref 106), (1, .int x1), (2, .int x2), (3, .long x3), (5, .int x5), (6, .int x6)]) (st1 := [.int (((x3 >>> ((((8 : Int32) * x6)).toInt64 &&& 63)) &&& (255 : Int64))).toInt32, .int q3.1]) (σ1 := q3.2) (by decide +kernel) rfl (fun hC => ?_)
      rcases Classical.em (¬ q3.1 = (((x3 >>> ((((8 : Int32) * x6)).toInt64 &&& 63)) &&& (255 : Int64))).toInt32) with hc | hc
      · rw [if_pos hc] at h
        refine jE_icT 76 hC (by decide) hc ?_
        refine jE_blk (bs := [(.iconst (0), 0, 0)]) (i := .istore 5) (a1 := 7) (a2 := 0) (pc1 := 77) (l1 := [(0, .ref 106), (1, .int x1), (2, .int x2), (3, .long x3), (5, .int x5), (6, .int x6)]) (st1 := [.int (0 : Int32)]) (σ1 := q3.2) (by decide +kernel) rfl (fun hC => ?_)
        exact jE_loc (l := [(0, .ref 106), (1, .int x1), (2, .int x2), (3, .long x3), (6, .int x6)]) (ks := [0, 1, 2, 3, 6]) rfl (by decide) ⟨rfl, rfl, rfl, rfl, rfl, trivial⟩ (x_r_spells_77 d hd x1 x2 x3 x6 (0 : Int32) q3.2 _ res h hK)
      · rw [if_neg hc] at h
        refine jE_icF 76 hC (by decide) hc ?_
        refine jE_blk (bs := [(.iconst (1), 1, 0), (.goto (4), 0, 0)]) (i := .istore 5) (a1 := 7) (a2 := 0) (pc1 := 77) (l1 := [(0, .ref 106), (1, .int x1), (2, .int x2), (3, .long x3), (5, .int x5), (6, .int x6)]) (st1 := [.int (1 : Int32)]) (σ1 := q3.2) (by decide +kernel) rfl (fun hC => ?_)
        exact jE_loc (l := [(0, .ref 106), (1, .int x1), (2, .int x2), (3, .long x3), (6, .int x6)]) (ks := [0, 1, 2, 3, 6]) rfl (by decide) ⟨rfl, rfl, rfl, rfl, rfl, trivial⟩ (x_r_spells_77 d hd x1 x2 x3 x6 (1 : Int32) q3.2 _ res h hK)
def p_r_spells_38 (x1 : Int32) (x2 : Int32) (x3 : Int64) (x5 : Int32) (x6 : Int32) (σ : jx_S) : Option (Int32 × jx_S) := jx_loop 100000000 (fun s => p_r_spells_38_s s.1 s.2.1 s.2.2.1 s.2.2.2.1 s.2.2.2.2.1 (s.2.2.2.2.2)) (x1, x2, x3, x5, x6, σ)
theorem x_r_spells_38 (d : Nat) (hd : 1 ≤ d) (x1 : Int32) (x2 : Int32) (x3 : Int64) (x5 : Int32) (x6 : Int32) (σ : jx_S) (t : (Int32 × jx_S)) (res : Option Value × jx_S) (h : p_r_spells_38 x1 x2 x3 x5 x6 σ = some t) (hK : kkI t res) : jE d 150 38 [(0, .ref 106), (1, .int x1), (2, .int x2), (3, .long x3), (5, .int x5), (6, .int x6)] [] σ res := by
  refine jx_loop_ok (E := fun s t => ∀ res, kkI t res → jE d 150 38 [(0, .ref 106), (1, .int s.1), (2, .int s.2.1), (3, .long s.2.2.1), (5, .int s.2.2.2.1), (6, .int s.2.2.2.2.1)] [] s.2.2.2.2.2 res) (fun s t hs => ?_) _ _ _ h res hK
  cases t with
  | inl s1 => exact fun b hb res hk => x_r_spells_38_s d hd (s.1) (s.2.1) (s.2.2.1) (s.2.2.2.1) (s.2.2.2.2.1) (s.2.2.2.2.2) _ res hs (hb res hk)
  | inr b => exact fun res hk => x_r_spells_38_s d hd (s.1) (s.2.1) (s.2.2.1) (s.2.2.2.1) (s.2.2.2.2.1) (s.2.2.2.2.2) _ res hs hk
def p_r_spells_33 (x1 : Int32) (x2 : Int32) (x3 : Int64) (y0 : Int32) (σ : jx_S) : Option (Int32 × jx_S) := (p_r_spells_38 x1 x2 x3 y0 (0 : Int32) σ)
theorem x_r_spells_33 (d : Nat) (hd : 1 ≤ d) (x1 : Int32) (x2 : Int32) (x3 : Int64) (y0 : Int32) (σ : jx_S) (t : (Int32 × jx_S)) (res : Option Value × jx_S) (h : p_r_spells_33 x1 x2 x3 y0 σ = some t) (hK : kkI t res) : jE d 150 33 [(0, .ref 106), (1, .int x1), (2, .int x2), (3, .long x3)] [.int y0] σ res := by
  unfold p_r_spells_33 at h
  refine jE_blk (bs := [(.istore 5, 7, 0), (.iconst (0), 0, 0), (.istore 6, 7, 0)]) (i := .iload 6) (a1 := 0) (a2 := 0) (pc1 := 38) (l1 := [(6, .int (0 : Int32)), (5, .int y0), (0, .ref 106), (1, .int x1), (2, .int x2), (3, .long x3)]) (st1 := []) (σ1 := σ) (by decide +kernel) rfl (fun hC => ?_)
  exact jE_loc (l := [(0, .ref 106), (1, .int x1), (2, .int x2), (3, .long x3), (5, .int y0), (6, .int (0 : Int32))]) (ks := [0, 1, 2, 3, 5, 6]) rfl (by decide) ⟨rfl, rfl, rfl, rfl, rfl, rfl, trivial⟩ (x_r_spells_38 d hd x1 x2 x3 y0 (0 : Int32) σ _ res h hK)
def p_r_spells_32 (x1 : Int32) (x2 : Int32) (x3 : Int64) (σ : jx_S) : Option (Int32 × jx_S) := (p_r_spells_33 x1 x2 x3 (0 : Int32) σ)
theorem x_r_spells_32 (d : Nat) (hd : 1 ≤ d) (x1 : Int32) (x2 : Int32) (x3 : Int64) (σ : jx_S) (t : (Int32 × jx_S)) (res : Option Value × jx_S) (h : p_r_spells_32 x1 x2 x3 σ = some t) (hK : kkI t res) : jE d 150 32 [(0, .ref 106), (1, .int x1), (2, .int x2), (3, .long x3)] [] σ res := by
  unfold p_r_spells_32 at h
  refine jE_blk (bs := [(.iconst (0), 0, 0)]) (i := .istore 5) (a1 := 7) (a2 := 0) (pc1 := 33) (l1 := [(0, .ref 106), (1, .int x1), (2, .int x2), (3, .long x3)]) (st1 := [.int (0 : Int32)]) (σ1 := σ) (by decide +kernel) rfl (fun hC => ?_)
  exact jE_loc (l := [(0, .ref 106), (1, .int x1), (2, .int x2), (3, .long x3)]) (ks := [0, 1, 2, 3]) rfl (by decide) ⟨rfl, rfl, rfl, rfl, trivial⟩ (x_r_spells_33 d hd x1 x2 x3 (0 : Int32) σ _ res h hK)
def p_r_spells (x1 : Int32) (x2 : Int32) (x3 : Int64) (σ : jx_S) : Option (Int32 × jx_S) := (if ¬ (lg_cmp (x3 >>> ((((8 : Int32) * x2)).toInt64 &&& 63)) (0 : Int64)) = 0 then (p_r_spells_32 x1 x2 x3 σ) else (if (lg_cmp ((x3 >>> ((((8 : Int32) * (x2 - (1 : Int32)))).toInt64 &&& 63)) &&& (255 : Int64)) (0 : Int64)) = 0 then (p_r_spells_32 x1 x2 x3 σ) else (p_r_spells_33 x1 x2 x3 (1 : Int32) σ)))
theorem x_r_spells (d : Nat) (hd : 1 ≤ d) (x1 : Int32) (x2 : Int32) (x3 : Int64) (σ : jx_S) (t : (Int32 × jx_S)) (res : Option Value × jx_S) (h : p_r_spells x1 x2 x3 σ = some t) (hK : kkI t res) : jE d 150 0 [(0, .ref 106), (1, .int x1), (2, .int x2), (3, .long x3)] [] σ res := by
  unfold p_r_spells at h
  refine jE_blk (bs := [(.lload_n 3, 0, 0), (.bipush (8), 8, 0), (.iload_n 2, 0, 0), (.imul, 0, 0), (.lshr, 0, 0), (.lconst 0, 0, 0), (.lcmp, 0, 0)]) (i := .ifCond .ne (24)) (a1 := 0) (a2 := 0) (pc1 := 8) (l1 := [(0, .ref 106), (1, .int x1), (2, .int x2), (3, .long x3)]) (st1 := [.int (lg_cmp (x3 >>> ((((8 : Int32) * x2)).toInt64 &&& 63)) (0 : Int64))]) (σ1 := σ) (by decide +kernel) rfl (fun hC => ?_)
  rcases Classical.em (¬ (lg_cmp (x3 >>> ((((8 : Int32) * x2)).toInt64 &&& 63)) (0 : Int64)) = 0) with hc | hc
  · rw [if_pos hc] at h
    refine jE_ifT 32 hC (by decide) hc ?_
    exact jE_loc (l := [(0, .ref 106), (1, .int x1), (2, .int x2), (3, .long x3)]) (ks := [0, 1, 2, 3]) rfl (by decide) ⟨rfl, rfl, rfl, rfl, trivial⟩ (x_r_spells_32 d hd x1 x2 x3 σ _ res h hK)
  · rw [if_neg hc] at h
    refine jE_ifF 32 hC (by decide) hc ?_
    refine jE_blk (bs := [(.lload_n 3, 0, 0), (.bipush (8), 8, 0), (.iload_n 2, 0, 0), (.iconst (1), 1, 0), (.isub, 0, 0), (.imul, 0, 0), (.lshr, 0, 0), (.ldc2_w 234, 255, 0), (.land, 0, 0), (.lconst 0, 0, 0), (.lcmp, 0, 0)]) (i := .ifCond .eq (7)) (a1 := 0) (a2 := 0) (pc1 := 25) (l1 := [(0, .ref 106), (1, .int x1), (2, .int x2), (3, .long x3)]) (st1 := [.int (lg_cmp ((x3 >>> ((((8 : Int32) * (x2 - (1 : Int32)))).toInt64 &&& 63)) &&& (255 : Int64)) (0 : Int64))]) (σ1 := σ) (by decide +kernel) rfl (fun hC => ?_)
    rcases Classical.em ((lg_cmp ((x3 >>> ((((8 : Int32) * (x2 - (1 : Int32)))).toInt64 &&& 63)) &&& (255 : Int64)) (0 : Int64)) = 0) with hc | hc
    · rw [if_pos hc] at h
      refine jE_ifT 32 hC (by decide) hc ?_
      exact jE_loc (l := [(0, .ref 106), (1, .int x1), (2, .int x2), (3, .long x3)]) (ks := [0, 1, 2, 3]) rfl (by decide) ⟨rfl, rfl, rfl, rfl, trivial⟩ (x_r_spells_32 d hd x1 x2 x3 σ _ res h hK)
    · rw [if_neg hc] at h
      refine jE_ifF 32 hC (by decide) hc ?_
      refine jE_blk (bs := [(.iconst (1), 1, 0), (.goto (4), 0, 0)]) (i := .istore 5) (a1 := 7) (a2 := 0) (pc1 := 33) (l1 := [(0, .ref 106), (1, .int x1), (2, .int x2), (3, .long x3)]) (st1 := [.int (1 : Int32)]) (σ1 := σ) (by decide +kernel) rfl (fun hC => ?_)
      exact jE_loc (l := [(0, .ref 106), (1, .int x1), (2, .int x2), (3, .long x3)]) (ks := [0, 1, 2, 3]) rfl (by decide) ⟨rfl, rfl, rfl, rfl, trivial⟩ (x_r_spells_33 d hd x1 x2 x3 (1 : Int32) σ _ res h hK)
def p_r_wordAt (x1 : Int32) (x2 : Int32) (σ : jx_S) : Option (Int32 × jx_S) := (if x2 < (2 : Int32) then (some (((1 : Int32), σ))) else (if x2 ≤ (5 : Int32) then ((p_r_spells x1 x2 (7630441 : Int64) σ).bind fun q1 => (if q1.1 = 0 then ((p_r_spells x1 x2 (1953720684 : Int64) q1.2).bind fun q2 => (if q2.1 = 0 then ((p_r_spells x1 x2 (7628140 : Int64) q2.2).bind fun q3 => (if q3.1 = 0 then ((p_r_spells x1 x2 (28265 : Int64) q3.2).bind fun q4 => (if q4.1 = 0 then ((p_r_spells x1 x2 (26217 : Int64) q4.2).bind fun q5 => (if q5.1 = 0 then ((p_r_spells x1 x2 (1852139636 : Int64) q5.2).bind fun q6 => (if q6.1 = 0 then ((p_r_spells x1 x2 (1702063205 : Int64) q6.2).bind fun q7 => (if q7.1 = 0 then ((p_r_spells x1 x2 (1702060387 : Int64) q7.2).bind fun q8 => (if q8.1 = 0 then ((p_r_spells x1 x2 (26223 : Int64) q8.2).bind fun q9 => (if q9.1 = 0 then ((p_r_spells x1 x2 (521644567909 : Int64) q9.2).bind fun q10 => (if q10.1 = 0 then ((p_r_spells x1 x2 (7104878 : Int64) q10.2).bind fun q11 => (if q11.1 = 0 then ((p_r_spells x1 x2 (1936617315 : Int64) q11.2).bind fun q12 => (if q12.1 = 0 then ((p_r_spells x1 x2 (491496043109 : Int64) q12.2).bind fun q13 => (if q13.1 = 0 then (some (((1 : Int32), q13.2))) else (some (((15 : Int32), q13.2))))) else (some (((14 : Int32), q12.2))))) else (some (((13 : Int32), q11.2))))) else (some (((12 : Int32), q10.2))))) else (some (((11 : Int32), q9.2))))) else (some (((10 : Int32), q8.2))))) else (some (((9 : Int32), q7.2))))) else (some (((8 : Int32), q6.2))))) else (some (((7 : Int32), q5.2))))) else (some (((6 : Int32), q4.2))))) else (some (((5 : Int32), q3.2))))) else (some (((4 : Int32), q2.2))))) else (some (((3 : Int32), q1.2))))) else (some (((1 : Int32), σ)))))
theorem x_r_wordAt (d : Nat) (hd : 2 ≤ d) (x1 : Int32) (x2 : Int32) (σ : jx_S) (t : (Int32 × jx_S)) (res : Option Value × jx_S) (h : p_r_wordAt x1 x2 σ = some t) (hK : kkI t res) : jE d 151 0 [(0, .ref 106), (1, .int x1), (2, .int x2)] [] σ res := by
  unfold p_r_wordAt at h
  refine jE_blk (bs := [(.iload_n 2, 0, 0), (.iconst (2), 2, 0)]) (i := .if_icmp .lt (8)) (a1 := 0) (a2 := 0) (pc1 := 2) (l1 := [(0, .ref 106), (1, .int x1), (2, .int x2)]) (st1 := [.int (2 : Int32), .int x2]) (σ1 := σ) (by decide +kernel) rfl (fun hC => ?_)
  rcases Classical.em (x2 < (2 : Int32)) with hc | hc
  · rw [if_pos hc] at h
    refine jE_icT 10 hC (by decide) hc ?_
    refine jE_blk (bs := [(.iconst (1), 1, 0)]) (i := .ireturn) (a1 := 0) (a2 := 0) (pc1 := 11) (l1 := [(0, .ref 106), (1, .int x1), (2, .int x2)]) (st1 := [.int (1 : Int32)]) (σ1 := σ) (by decide +kernel) rfl (fun hC => ?_)
    have h9 := Option.some.inj h
    subst h9
    have e9 : ((some (.int (1 : Int32)), σ) : Option Value × jx_S) = res := hK
    subst e9
    exact jE_ret hC rfl
  · rw [if_neg hc] at h
    refine jE_icF 10 hC (by decide) hc ?_
    refine jE_blk (bs := [(.iload_n 2, 0, 0), (.iconst (5), 5, 0)]) (i := .if_icmp .le (5)) (a1 := 0) (a2 := 0) (pc1 := 7) (l1 := [(0, .ref 106), (1, .int x1), (2, .int x2)]) (st1 := [.int (5 : Int32), .int x2]) (σ1 := σ) (by decide +kernel) rfl (fun hC => ?_)
    rcases Classical.em (x2 ≤ (5 : Int32)) with hc | hc
    · rw [if_pos hc] at h
      refine jE_icT 12 hC (by decide) hc ?_
      refine jE_blk (bs := [(.aload_n 0, 0, 0), (.iload_n 1, 0, 0), (.iload_n 2, 0, 0), (.ldc2_w 243, 7630441, 0)]) (i := .invokevirtual 245) (a1 := 150) (a2 := 0) (pc1 := 18) (l1 := [(0, .ref 106), (1, .int x1), (2, .int x2)]) (st1 := [.long (7630441 : Int64), .int x2, .int x1, .ref 106]) (σ1 := σ) (by decide +kernel) rfl (fun hC => ?_)
      obtain ⟨q1, hq, h⟩ := Option.bind_eq_some_iff.mp h
      refine jE_call (as := [.ref 106, .int x1, .int x2, .long (7630441 : Int64)]) (pc1 := 21) (st1 := []) hC rfl (by decide) (by omega) (x_r_spells (d - 1) (by omega) x1 x2 (7630441 : Int64) σ q1 (some (.int q1.1), q1.2) hq rfl) ?_
      refine jE_blk (bs := []) (i := .ifCond .eq (7)) (a1 := 0) (a2 := 0) (pc1 := 21) (l1 := [(0, .ref 106), (1, .int x1), (2, .int x2)]) (st1 := [.int q1.1]) (σ1 := q1.2) (by decide +kernel) rfl (fun hC => ?_)
      rcases Classical.em (q1.1 = 0) with hc | hc
      · rw [if_pos hc] at h
        refine jE_ifT 28 hC (by decide) hc ?_
        refine jE_blk (bs := [(.aload_n 0, 0, 0), (.iload_n 1, 0, 0), (.iload_n 2, 0, 0), (.ldc2_w 249, 1953720684, 0)]) (i := .invokevirtual 245) (a1 := 150) (a2 := 0) (pc1 := 34) (l1 := [(0, .ref 106), (1, .int x1), (2, .int x2)]) (st1 := [.long (1953720684 : Int64), .int x2, .int x1, .ref 106]) (σ1 := q1.2) (by decide +kernel) rfl (fun hC => ?_)
        obtain ⟨q2, hq, h⟩ := Option.bind_eq_some_iff.mp h
        refine jE_call (as := [.ref 106, .int x1, .int x2, .long (1953720684 : Int64)]) (pc1 := 37) (st1 := []) hC rfl (by decide) (by omega) (x_r_spells (d - 1) (by omega) x1 x2 (1953720684 : Int64) q1.2 q2 (some (.int q2.1), q2.2) hq rfl) ?_
        refine jE_blk (bs := []) (i := .ifCond .eq (7)) (a1 := 0) (a2 := 0) (pc1 := 37) (l1 := [(0, .ref 106), (1, .int x1), (2, .int x2)]) (st1 := [.int q2.1]) (σ1 := q2.2) (by decide +kernel) rfl (fun hC => ?_)
        rcases Classical.em (q2.1 = 0) with hc | hc
        · rw [if_pos hc] at h
          refine jE_ifT 44 hC (by decide) hc ?_
          refine jE_blk (bs := [(.aload_n 0, 0, 0), (.iload_n 1, 0, 0), (.iload_n 2, 0, 0), (.ldc2_w 251, 7628140, 0)]) (i := .invokevirtual 245) (a1 := 150) (a2 := 0) (pc1 := 50) (l1 := [(0, .ref 106), (1, .int x1), (2, .int x2)]) (st1 := [.long (7628140 : Int64), .int x2, .int x1, .ref 106]) (σ1 := q2.2) (by decide +kernel) rfl (fun hC => ?_)
          obtain ⟨q3, hq, h⟩ := Option.bind_eq_some_iff.mp h
          refine jE_call (as := [.ref 106, .int x1, .int x2, .long (7628140 : Int64)]) (pc1 := 53) (st1 := []) hC rfl (by decide) (by omega) (x_r_spells (d - 1) (by omega) x1 x2 (7628140 : Int64) q2.2 q3 (some (.int q3.1), q3.2) hq rfl) ?_
          refine jE_blk (bs := []) (i := .ifCond .eq (7)) (a1 := 0) (a2 := 0) (pc1 := 53) (l1 := [(0, .ref 106), (1, .int x1), (2, .int x2)]) (st1 := [.int q3.1]) (σ1 := q3.2) (by decide +kernel) rfl (fun hC => ?_)
          rcases Classical.em (q3.1 = 0) with hc | hc
          · rw [if_pos hc] at h
            refine jE_ifT 60 hC (by decide) hc ?_
            refine jE_blk (bs := [(.aload_n 0, 0, 0), (.iload_n 1, 0, 0), (.iload_n 2, 0, 0), (.ldc2_w 253, 28265, 0)]) (i := .invokevirtual 245) (a1 := 150) (a2 := 0) (pc1 := 66) (l1 := [(0, .ref 106), (1, .int x1), (2, .int x2)]) (st1 := [.long (28265 : Int64), .int x2, .int x1, .ref 106]) (σ1 := q3.2) (by decide +kernel) rfl (fun hC => ?_)
            obtain ⟨q4, hq, h⟩ := Option.bind_eq_some_iff.mp h
            refine jE_call (as := [.ref 106, .int x1, .int x2, .long (28265 : Int64)]) (pc1 := 69) (st1 := []) hC rfl (by decide) (by omega) (x_r_spells (d - 1) (by omega) x1 x2 (28265 : Int64) q3.2 q4 (some (.int q4.1), q4.2) hq rfl) ?_
            refine jE_blk (bs := []) (i := .ifCond .eq (8)) (a1 := 0) (a2 := 0) (pc1 := 69) (l1 := [(0, .ref 106), (1, .int x1), (2, .int x2)]) (st1 := [.int q4.1]) (σ1 := q4.2) (by decide +kernel) rfl (fun hC => ?_)
            rcases Classical.em (q4.1 = 0) with hc | hc
            · rw [if_pos hc] at h
              refine jE_ifT 77 hC (by decide) hc ?_
              refine jE_blk (bs := [(.aload_n 0, 0, 0), (.iload_n 1, 0, 0), (.iload_n 2, 0, 0), (.ldc2_w 255, 26217, 0)]) (i := .invokevirtual 245) (a1 := 150) (a2 := 0) (pc1 := 83) (l1 := [(0, .ref 106), (1, .int x1), (2, .int x2)]) (st1 := [.long (26217 : Int64), .int x2, .int x1, .ref 106]) (σ1 := q4.2) (by decide +kernel) rfl (fun hC => ?_)
              obtain ⟨q5, hq, h⟩ := Option.bind_eq_some_iff.mp h
              refine jE_call (as := [.ref 106, .int x1, .int x2, .long (26217 : Int64)]) (pc1 := 86) (st1 := []) hC rfl (by decide) (by omega) (x_r_spells (d - 1) (by omega) x1 x2 (26217 : Int64) q4.2 q5 (some (.int q5.1), q5.2) hq rfl) ?_
              refine jE_blk (bs := []) (i := .ifCond .eq (8)) (a1 := 0) (a2 := 0) (pc1 := 86) (l1 := [(0, .ref 106), (1, .int x1), (2, .int x2)]) (st1 := [.int q5.1]) (σ1 := q5.2) (by decide +kernel) rfl (fun hC => ?_)
              rcases Classical.em (q5.1 = 0) with hc | hc
              · rw [if_pos hc] at h
                refine jE_ifT 94 hC (by decide) hc ?_
                refine jE_blk (bs := [(.aload_n 0, 0, 0), (.iload_n 1, 0, 0), (.iload_n 2, 0, 0), (.ldc2_w 257, 1852139636, 0)]) (i := .invokevirtual 245) (a1 := 150) (a2 := 0) (pc1 := 100) (l1 := [(0, .ref 106), (1, .int x1), (2, .int x2)]) (st1 := [.long (1852139636 : Int64), .int x2, .int x1, .ref 106]) (σ1 := q5.2) (by decide +kernel) rfl (fun hC => ?_)
                obtain ⟨q6, hq, h⟩ := Option.bind_eq_some_iff.mp h
                refine jE_call (as := [.ref 106, .int x1, .int x2, .long (1852139636 : Int64)]) (pc1 := 103) (st1 := []) hC rfl (by decide) (by omega) (x_r_spells (d - 1) (by omega) x1 x2 (1852139636 : Int64) q5.2 q6 (some (.int q6.1), q6.2) hq rfl) ?_
                refine jE_blk (bs := []) (i := .ifCond .eq (8)) (a1 := 0) (a2 := 0) (pc1 := 103) (l1 := [(0, .ref 106), (1, .int x1), (2, .int x2)]) (st1 := [.int q6.1]) (σ1 := q6.2) (by decide +kernel) rfl (fun hC => ?_)
                rcases Classical.em (q6.1 = 0) with hc | hc
                · rw [if_pos hc] at h
                  refine jE_ifT 111 hC (by decide) hc ?_
                  refine jE_blk (bs := [(.aload_n 0, 0, 0), (.iload_n 1, 0, 0), (.iload_n 2, 0, 0), (.ldc2_w 259, 1702063205, 0)]) (i := .invokevirtual 245) (a1 := 150) (a2 := 0) (pc1 := 117) (l1 := [(0, .ref 106), (1, .int x1), (2, .int x2)]) (st1 := [.long (1702063205 : Int64), .int x2, .int x1, .ref 106]) (σ1 := q6.2) (by decide +kernel) rfl (fun hC => ?_)
                  obtain ⟨q7, hq, h⟩ := Option.bind_eq_some_iff.mp h
                  refine jE_call (as := [.ref 106, .int x1, .int x2, .long (1702063205 : Int64)]) (pc1 := 120) (st1 := []) hC rfl (by decide) (by omega) (x_r_spells (d - 1) (by omega) x1 x2 (1702063205 : Int64) q6.2 q7 (some (.int q7.1), q7.2) hq rfl) ?_
                  refine jE_blk (bs := []) (i := .ifCond .eq (8)) (a1 := 0) (a2 := 0) (pc1 := 120) (l1 := [(0, .ref 106), (1, .int x1), (2, .int x2)]) (st1 := [.int q7.1]) (σ1 := q7.2) (by decide +kernel) rfl (fun hC => ?_)
                  rcases Classical.em (q7.1 = 0) with hc | hc
                  · rw [if_pos hc] at h
                    refine jE_ifT 128 hC (by decide) hc ?_
                    refine jE_blk (bs := [(.aload_n 0, 0, 0), (.iload_n 1, 0, 0), (.iload_n 2, 0, 0), (.ldc2_w 261, 1702060387, 0)]) (i := .invokevirtual 245) (a1 := 150) (a2 := 0) (pc1 := 134) (l1 := [(0, .ref 106), (1, .int x1), (2, .int x2)]) (st1 := [.long (1702060387 : Int64), .int x2, .int x1, .ref 106]) (σ1 := q7.2) (by decide +kernel) rfl (fun hC => ?_)
                    obtain ⟨q8, hq, h⟩ := Option.bind_eq_some_iff.mp h
                    refine jE_call (as := [.ref 106, .int x1, .int x2, .long (1702060387 : Int64)]) (pc1 := 137) (st1 := []) hC rfl (by decide) (by omega) (x_r_spells (d - 1) (by omega) x1 x2 (1702060387 : Int64) q7.2 q8 (some (.int q8.1), q8.2) hq rfl) ?_
                    refine jE_blk (bs := []) (i := .ifCond .eq (8)) (a1 := 0) (a2 := 0) (pc1 := 137) (l1 := [(0, .ref 106), (1, .int x1), (2, .int x2)]) (st1 := [.int q8.1]) (σ1 := q8.2) (by decide +kernel) rfl (fun hC => ?_)
                    rcases Classical.em (q8.1 = 0) with hc | hc
                    · rw [if_pos hc] at h
                      refine jE_ifT 145 hC (by decide) hc ?_
                      refine jE_blk (bs := [(.aload_n 0, 0, 0), (.iload_n 1, 0, 0), (.iload_n 2, 0, 0), (.ldc2_w 263, 26223, 0)]) (i := .invokevirtual 245) (a1 := 150) (a2 := 0) (pc1 := 151) (l1 := [(0, .ref 106), (1, .int x1), (2, .int x2)]) (st1 := [.long (26223 : Int64), .int x2, .int x1, .ref 106]) (σ1 := q8.2) (by decide +kernel) rfl (fun hC => ?_)
                      obtain ⟨q9, hq, h⟩ := Option.bind_eq_some_iff.mp h
                      refine jE_call (as := [.ref 106, .int x1, .int x2, .long (26223 : Int64)]) (pc1 := 154) (st1 := []) hC rfl (by decide) (by omega) (x_r_spells (d - 1) (by omega) x1 x2 (26223 : Int64) q8.2 q9 (some (.int q9.1), q9.2) hq rfl) ?_
                      refine jE_blk (bs := []) (i := .ifCond .eq (8)) (a1 := 0) (a2 := 0) (pc1 := 154) (l1 := [(0, .ref 106), (1, .int x1), (2, .int x2)]) (st1 := [.int q9.1]) (σ1 := q9.2) (by decide +kernel) rfl (fun hC => ?_)
                      rcases Classical.em (q9.1 = 0) with hc | hc
                      · rw [if_pos hc] at h
                        refine jE_ifT 162 hC (by decide) hc ?_
                        refine jE_blk (bs := [(.aload_n 0, 0, 0), (.iload_n 1, 0, 0), (.iload_n 2, 0, 0), (.ldc2_w 265, 521644567909, 0)]) (i := .invokevirtual 245) (a1 := 150) (a2 := 0) (pc1 := 168) (l1 := [(0, .ref 106), (1, .int x1), (2, .int x2)]) (st1 := [.long (521644567909 : Int64), .int x2, .int x1, .ref 106]) (σ1 := q9.2) (by decide +kernel) rfl (fun hC => ?_)
                        obtain ⟨q10, hq, h⟩ := Option.bind_eq_some_iff.mp h
                        refine jE_call (as := [.ref 106, .int x1, .int x2, .long (521644567909 : Int64)]) (pc1 := 171) (st1 := []) hC rfl (by decide) (by omega) (x_r_spells (d - 1) (by omega) x1 x2 (521644567909 : Int64) q9.2 q10 (some (.int q10.1), q10.2) hq rfl) ?_
                        refine jE_blk (bs := []) (i := .ifCond .eq (8)) (a1 := 0) (a2 := 0) (pc1 := 171) (l1 := [(0, .ref 106), (1, .int x1), (2, .int x2)]) (st1 := [.int q10.1]) (σ1 := q10.2) (by decide +kernel) rfl (fun hC => ?_)
                        rcases Classical.em (q10.1 = 0) with hc | hc
                        · rw [if_pos hc] at h
                          refine jE_ifT 179 hC (by decide) hc ?_
                          refine jE_blk (bs := [(.aload_n 0, 0, 0), (.iload_n 1, 0, 0), (.iload_n 2, 0, 0), (.ldc2_w 267, 7104878, 0)]) (i := .invokevirtual 245) (a1 := 150) (a2 := 0) (pc1 := 185) (l1 := [(0, .ref 106), (1, .int x1), (2, .int x2)]) (st1 := [.long (7104878 : Int64), .int x2, .int x1, .ref 106]) (σ1 := q10.2) (by decide +kernel) rfl (fun hC => ?_)
                          obtain ⟨q11, hq, h⟩ := Option.bind_eq_some_iff.mp h
                          refine jE_call (as := [.ref 106, .int x1, .int x2, .long (7104878 : Int64)]) (pc1 := 188) (st1 := []) hC rfl (by decide) (by omega) (x_r_spells (d - 1) (by omega) x1 x2 (7104878 : Int64) q10.2 q11 (some (.int q11.1), q11.2) hq rfl) ?_
                          refine jE_blk (bs := []) (i := .ifCond .eq (8)) (a1 := 0) (a2 := 0) (pc1 := 188) (l1 := [(0, .ref 106), (1, .int x1), (2, .int x2)]) (st1 := [.int q11.1]) (σ1 := q11.2) (by decide +kernel) rfl (fun hC => ?_)
                          rcases Classical.em (q11.1 = 0) with hc | hc
                          · rw [if_pos hc] at h
                            refine jE_ifT 196 hC (by decide) hc ?_
                            refine jE_blk (bs := [(.aload_n 0, 0, 0), (.iload_n 1, 0, 0), (.iload_n 2, 0, 0), (.ldc2_w 269, 1936617315, 0)]) (i := .invokevirtual 245) (a1 := 150) (a2 := 0) (pc1 := 202) (l1 := [(0, .ref 106), (1, .int x1), (2, .int x2)]) (st1 := [.long (1936617315 : Int64), .int x2, .int x1, .ref 106]) (σ1 := q11.2) (by decide +kernel) rfl (fun hC => ?_)
                            obtain ⟨q12, hq, h⟩ := Option.bind_eq_some_iff.mp h
                            refine jE_call (as := [.ref 106, .int x1, .int x2, .long (1936617315 : Int64)]) (pc1 := 205) (st1 := []) hC rfl (by decide) (by omega) (x_r_spells (d - 1) (by omega) x1 x2 (1936617315 : Int64) q11.2 q12 (some (.int q12.1), q12.2) hq rfl) ?_
                            refine jE_blk (bs := []) (i := .ifCond .eq (8)) (a1 := 0) (a2 := 0) (pc1 := 205) (l1 := [(0, .ref 106), (1, .int x1), (2, .int x2)]) (st1 := [.int q12.1]) (σ1 := q12.2) (by decide +kernel) rfl (fun hC => ?_)
                            rcases Classical.em (q12.1 = 0) with hc | hc
                            · rw [if_pos hc] at h
                              refine jE_ifT 213 hC (by decide) hc ?_
                              refine jE_blk (bs := [(.aload_n 0, 0, 0), (.iload_n 1, 0, 0), (.iload_n 2, 0, 0), (.ldc2_w 271, 491496043109, 0)]) (i := .invokevirtual 245) (a1 := 150) (a2 := 0) (pc1 := 219) (l1 := [(0, .ref 106), (1, .int x1), (2, .int x2)]) (st1 := [.long (491496043109 : Int64), .int x2, .int x1, .ref 106]) (σ1 := q12.2) (by decide +kernel) rfl (fun hC => ?_)
                              obtain ⟨q13, hq, h⟩ := Option.bind_eq_some_iff.mp h
                              refine jE_call (as := [.ref 106, .int x1, .int x2, .long (491496043109 : Int64)]) (pc1 := 222) (st1 := []) hC rfl (by decide) (by omega) (x_r_spells (d - 1) (by omega) x1 x2 (491496043109 : Int64) q12.2 q13 (some (.int q13.1), q13.2) hq rfl) ?_
                              refine jE_blk (bs := []) (i := .ifCond .eq (8)) (a1 := 0) (a2 := 0) (pc1 := 222) (l1 := [(0, .ref 106), (1, .int x1), (2, .int x2)]) (st1 := [.int q13.1]) (σ1 := q13.2) (by decide +kernel) rfl (fun hC => ?_)
                              rcases Classical.em (q13.1 = 0) with hc | hc
                              · rw [if_pos hc] at h
                                refine jE_ifT 230 hC (by decide) hc ?_
                                refine jE_blk (bs := [(.iconst (1), 1, 0)]) (i := .ireturn) (a1 := 0) (a2 := 0) (pc1 := 231) (l1 := [(0, .ref 106), (1, .int x1), (2, .int x2)]) (st1 := [.int (1 : Int32)]) (σ1 := q13.2) (by decide +kernel) rfl (fun hC => ?_)
                                have h9 := Option.some.inj h
                                subst h9
                                have e9 : ((some (.int (1 : Int32)), q13.2) : Option Value × jx_S) = res := hK
                                subst e9
                                exact jE_ret hC rfl
                              · rw [if_neg hc] at h
                                refine jE_ifF 230 hC (by decide) hc ?_
                                refine jE_blk (bs := [(.bipush (15), 15, 0), (.goto (4), 0, 0)]) (i := .ireturn) (a1 := 0) (a2 := 0) (pc1 := 231) (l1 := [(0, .ref 106), (1, .int x1), (2, .int x2)]) (st1 := [.int (15 : Int32)]) (σ1 := q13.2) (by decide +kernel) rfl (fun hC => ?_)
                                have h9 := Option.some.inj h
                                subst h9
                                have e9 : ((some (.int (15 : Int32)), q13.2) : Option Value × jx_S) = res := hK
                                subst e9
                                exact jE_ret hC rfl
                            · rw [if_neg hc] at h
                              refine jE_ifF 213 hC (by decide) hc ?_
                              refine jE_blk (bs := [(.bipush (14), 14, 0), (.goto (21), 0, 0)]) (i := .ireturn) (a1 := 0) (a2 := 0) (pc1 := 231) (l1 := [(0, .ref 106), (1, .int x1), (2, .int x2)]) (st1 := [.int (14 : Int32)]) (σ1 := q12.2) (by decide +kernel) rfl (fun hC => ?_)
                              have h9 := Option.some.inj h
                              subst h9
                              have e9 : ((some (.int (14 : Int32)), q12.2) : Option Value × jx_S) = res := hK
                              subst e9
                              exact jE_ret hC rfl
                          · rw [if_neg hc] at h
                            refine jE_ifF 196 hC (by decide) hc ?_
                            refine jE_blk (bs := [(.bipush (13), 13, 0), (.goto (38), 0, 0)]) (i := .ireturn) (a1 := 0) (a2 := 0) (pc1 := 231) (l1 := [(0, .ref 106), (1, .int x1), (2, .int x2)]) (st1 := [.int (13 : Int32)]) (σ1 := q11.2) (by decide +kernel) rfl (fun hC => ?_)
                            have h9 := Option.some.inj h
                            subst h9
                            have e9 : ((some (.int (13 : Int32)), q11.2) : Option Value × jx_S) = res := hK
                            subst e9
                            exact jE_ret hC rfl
                        · rw [if_neg hc] at h
                          refine jE_ifF 179 hC (by decide) hc ?_
                          refine jE_blk (bs := [(.bipush (12), 12, 0), (.goto (55), 0, 0)]) (i := .ireturn) (a1 := 0) (a2 := 0) (pc1 := 231) (l1 := [(0, .ref 106), (1, .int x1), (2, .int x2)]) (st1 := [.int (12 : Int32)]) (σ1 := q10.2) (by decide +kernel) rfl (fun hC => ?_)
                          have h9 := Option.some.inj h
                          subst h9
                          have e9 : ((some (.int (12 : Int32)), q10.2) : Option Value × jx_S) = res := hK
                          subst e9
                          exact jE_ret hC rfl
                      · rw [if_neg hc] at h
                        refine jE_ifF 162 hC (by decide) hc ?_
                        refine jE_blk (bs := [(.bipush (11), 11, 0), (.goto (72), 0, 0)]) (i := .ireturn) (a1 := 0) (a2 := 0) (pc1 := 231) (l1 := [(0, .ref 106), (1, .int x1), (2, .int x2)]) (st1 := [.int (11 : Int32)]) (σ1 := q9.2) (by decide +kernel) rfl (fun hC => ?_)
                        have h9 := Option.some.inj h
                        subst h9
                        have e9 : ((some (.int (11 : Int32)), q9.2) : Option Value × jx_S) = res := hK
                        subst e9
                        exact jE_ret hC rfl
                    · rw [if_neg hc] at h
                      refine jE_ifF 145 hC (by decide) hc ?_
                      refine jE_blk (bs := [(.bipush (10), 10, 0), (.goto (89), 0, 0)]) (i := .ireturn) (a1 := 0) (a2 := 0) (pc1 := 231) (l1 := [(0, .ref 106), (1, .int x1), (2, .int x2)]) (st1 := [.int (10 : Int32)]) (σ1 := q8.2) (by decide +kernel) rfl (fun hC => ?_)
                      have h9 := Option.some.inj h
                      subst h9
                      have e9 : ((some (.int (10 : Int32)), q8.2) : Option Value × jx_S) = res := hK
                      subst e9
                      exact jE_ret hC rfl
                  · rw [if_neg hc] at h
                    refine jE_ifF 128 hC (by decide) hc ?_
                    refine jE_blk (bs := [(.bipush (9), 9, 0), (.goto (106), 0, 0)]) (i := .ireturn) (a1 := 0) (a2 := 0) (pc1 := 231) (l1 := [(0, .ref 106), (1, .int x1), (2, .int x2)]) (st1 := [.int (9 : Int32)]) (σ1 := q7.2) (by decide +kernel) rfl (fun hC => ?_)
                    have h9 := Option.some.inj h
                    subst h9
                    have e9 : ((some (.int (9 : Int32)), q7.2) : Option Value × jx_S) = res := hK
                    subst e9
                    exact jE_ret hC rfl
                · rw [if_neg hc] at h
                  refine jE_ifF 111 hC (by decide) hc ?_
                  refine jE_blk (bs := [(.bipush (8), 8, 0), (.goto (123), 0, 0)]) (i := .ireturn) (a1 := 0) (a2 := 0) (pc1 := 231) (l1 := [(0, .ref 106), (1, .int x1), (2, .int x2)]) (st1 := [.int (8 : Int32)]) (σ1 := q6.2) (by decide +kernel) rfl (fun hC => ?_)
                  have h9 := Option.some.inj h
                  subst h9
                  have e9 : ((some (.int (8 : Int32)), q6.2) : Option Value × jx_S) = res := hK
                  subst e9
                  exact jE_ret hC rfl
              · rw [if_neg hc] at h
                refine jE_ifF 94 hC (by decide) hc ?_
                refine jE_blk (bs := [(.bipush (7), 7, 0), (.goto (140), 0, 0)]) (i := .ireturn) (a1 := 0) (a2 := 0) (pc1 := 231) (l1 := [(0, .ref 106), (1, .int x1), (2, .int x2)]) (st1 := [.int (7 : Int32)]) (σ1 := q5.2) (by decide +kernel) rfl (fun hC => ?_)
                have h9 := Option.some.inj h
                subst h9
                have e9 : ((some (.int (7 : Int32)), q5.2) : Option Value × jx_S) = res := hK
                subst e9
                exact jE_ret hC rfl
            · rw [if_neg hc] at h
              refine jE_ifF 77 hC (by decide) hc ?_
              refine jE_blk (bs := [(.bipush (6), 6, 0), (.goto (157), 0, 0)]) (i := .ireturn) (a1 := 0) (a2 := 0) (pc1 := 231) (l1 := [(0, .ref 106), (1, .int x1), (2, .int x2)]) (st1 := [.int (6 : Int32)]) (σ1 := q4.2) (by decide +kernel) rfl (fun hC => ?_)
              have h9 := Option.some.inj h
              subst h9
              have e9 : ((some (.int (6 : Int32)), q4.2) : Option Value × jx_S) = res := hK
              subst e9
              exact jE_ret hC rfl
          · rw [if_neg hc] at h
            refine jE_ifF 60 hC (by decide) hc ?_
            refine jE_blk (bs := [(.iconst (5), 5, 0), (.goto (174), 0, 0)]) (i := .ireturn) (a1 := 0) (a2 := 0) (pc1 := 231) (l1 := [(0, .ref 106), (1, .int x1), (2, .int x2)]) (st1 := [.int (5 : Int32)]) (σ1 := q3.2) (by decide +kernel) rfl (fun hC => ?_)
            have h9 := Option.some.inj h
            subst h9
            have e9 : ((some (.int (5 : Int32)), q3.2) : Option Value × jx_S) = res := hK
            subst e9
            exact jE_ret hC rfl
        · rw [if_neg hc] at h
          refine jE_ifF 44 hC (by decide) hc ?_
          refine jE_blk (bs := [(.iconst (4), 4, 0), (.goto (190), 0, 0)]) (i := .ireturn) (a1 := 0) (a2 := 0) (pc1 := 231) (l1 := [(0, .ref 106), (1, .int x1), (2, .int x2)]) (st1 := [.int (4 : Int32)]) (σ1 := q2.2) (by decide +kernel) rfl (fun hC => ?_)
          have h9 := Option.some.inj h
          subst h9
          have e9 : ((some (.int (4 : Int32)), q2.2) : Option Value × jx_S) = res := hK
          subst e9
          exact jE_ret hC rfl
      · rw [if_neg hc] at h
        refine jE_ifF 28 hC (by decide) hc ?_
        refine jE_blk (bs := [(.iconst (3), 3, 0), (.goto (206), 0, 0)]) (i := .ireturn) (a1 := 0) (a2 := 0) (pc1 := 231) (l1 := [(0, .ref 106), (1, .int x1), (2, .int x2)]) (st1 := [.int (3 : Int32)]) (σ1 := q1.2) (by decide +kernel) rfl (fun hC => ?_)
        have h9 := Option.some.inj h
        subst h9
        have e9 : ((some (.int (3 : Int32)), q1.2) : Option Value × jx_S) = res := hK
        subst e9
        exact jE_ret hC rfl
    · rw [if_neg hc] at h
      refine jE_icF 12 hC (by decide) hc ?_
      refine jE_blk (bs := [(.iconst (1), 1, 0)]) (i := .ireturn) (a1 := 0) (a2 := 0) (pc1 := 11) (l1 := [(0, .ref 106), (1, .int x1), (2, .int x2)]) (st1 := [.int (1 : Int32)]) (σ1 := σ) (by decide +kernel) rfl (fun hC => ?_)
      have h9 := Option.some.inj h
      subst h9
      have e9 : ((some (.int (1 : Int32)), σ) : Option Value × jx_S) = res := hK
      subst e9
      exact jE_ret hC rfl
def p_r_signAt (x1 : Int32) (σ : jx_S) : Option (Int32 × jx_S) := ((p_r_octet x1 σ).bind fun q1 => (if q1.1 = 40 then (some (((16 : Int32), q1.2))) else (if q1.1 = 41 then (some (((17 : Int32), q1.2))) else (if q1.1 = 42 then (some (((25 : Int32), q1.2))) else (if q1.1 = 43 then (some (((23 : Int32), q1.2))) else (if q1.1 = 45 then ((p_r_octet (x1 + (1 : Int32)) q1.2).bind fun q2 => (if ¬ q2.1 = (62 : Int32) then (some (((24 : Int32), q2.2))) else (some (((21 : Int32), q2.2))))) else (if q1.1 = 47 then (some (((26 : Int32), q1.2))) else (if q1.1 = 58 then (some (((18 : Int32), q1.2))) else (if q1.1 = 59 then (some (((20 : Int32), q1.2))) else (if q1.1 = 60 then (some (((27 : Int32), q1.2))) else (if q1.1 = 61 then (some (((19 : Int32), q1.2))) else (if q1.1 = 124 then (some (((22 : Int32), q1.2))) else (some (((-1 : Int32), q1.2)))))))))))))))
theorem x_r_signAt (d : Nat) (hd : 1 ≤ d) (x1 : Int32) (σ : jx_S) (t : (Int32 × jx_S)) (res : Option Value × jx_S) (h : p_r_signAt x1 σ = some t) (hK : kkI t res) : jE d 152 0 [(0, .ref 106), (1, .int x1)] [] σ res := by
  unfold p_r_signAt at h
  refine jE_blk (bs := [(.aload_n 0, 0, 0), (.iload_n 1, 0, 0)]) (i := .invokevirtual 239) (a1 := 149) (a2 := 0) (pc1 := 2) (l1 := [(0, .ref 106), (1, .int x1)]) (st1 := [.int x1, .ref 106]) (σ1 := σ) (by decide +kernel) rfl (fun hC => ?_)
  obtain ⟨q1, hq, h⟩ := Option.bind_eq_some_iff.mp h
  refine jE_call (as := [.ref 106, .int x1]) (pc1 := 5) (st1 := []) hC rfl (by decide) (by omega) (x_r_octet (d - 1) (by omega) x1 σ q1 (some (.int q1.1), q1.2) hq rfl) ?_
  refine jE_blk (bs := []) (i := .lookupswitch (149) #[(40, 99), (41, 102), (42, 140), (43, 137), (45, 114), (47, 143), (58, 105), (59, 111), (60, 146), (61, 108), (124, 134)]) (a1 := 0) (a2 := 0) (pc1 := 5) (l1 := [(0, .ref 106), (1, .int x1)]) (st1 := [.int q1.1]) (σ1 := q1.2) (by decide +kernel) rfl (fun hC => ?_)
  rcases Classical.em (q1.1 = 40) with hc0 | hc0
  · rw [if_pos hc0] at h
    refine jE_lsw 104 40 hC hc0 (by decide +kernel) ?_
    refine jE_blk (bs := [(.bipush (16), 16, 0)]) (i := .ireturn) (a1 := 0) (a2 := 0) (pc1 := 106) (l1 := [(0, .ref 106), (1, .int x1)]) (st1 := [.int (16 : Int32)]) (σ1 := q1.2) (by decide +kernel) rfl (fun hC => ?_)
    have h9 := Option.some.inj h
    subst h9
    have e9 : ((some (.int (16 : Int32)), q1.2) : Option Value × jx_S) = res := hK
    subst e9
    exact jE_ret hC rfl
  · rw [if_neg hc0] at h
    rcases Classical.em (q1.1 = 41) with hc1 | hc1
    · rw [if_pos hc1] at h
      refine jE_lsw 107 41 hC hc1 (by decide +kernel) ?_
      refine jE_blk (bs := [(.bipush (17), 17, 0)]) (i := .ireturn) (a1 := 0) (a2 := 0) (pc1 := 109) (l1 := [(0, .ref 106), (1, .int x1)]) (st1 := [.int (17 : Int32)]) (σ1 := q1.2) (by decide +kernel) rfl (fun hC => ?_)
      have h9 := Option.some.inj h
      subst h9
      have e9 : ((some (.int (17 : Int32)), q1.2) : Option Value × jx_S) = res := hK
      subst e9
      exact jE_ret hC rfl
    · rw [if_neg hc1] at h
      rcases Classical.em (q1.1 = 42) with hc2 | hc2
      · rw [if_pos hc2] at h
        refine jE_lsw 145 42 hC hc2 (by decide +kernel) ?_
        refine jE_blk (bs := [(.bipush (25), 25, 0)]) (i := .ireturn) (a1 := 0) (a2 := 0) (pc1 := 147) (l1 := [(0, .ref 106), (1, .int x1)]) (st1 := [.int (25 : Int32)]) (σ1 := q1.2) (by decide +kernel) rfl (fun hC => ?_)
        have h9 := Option.some.inj h
        subst h9
        have e9 : ((some (.int (25 : Int32)), q1.2) : Option Value × jx_S) = res := hK
        subst e9
        exact jE_ret hC rfl
      · rw [if_neg hc2] at h
        rcases Classical.em (q1.1 = 43) with hc3 | hc3
        · rw [if_pos hc3] at h
          refine jE_lsw 142 43 hC hc3 (by decide +kernel) ?_
          refine jE_blk (bs := [(.bipush (23), 23, 0)]) (i := .ireturn) (a1 := 0) (a2 := 0) (pc1 := 144) (l1 := [(0, .ref 106), (1, .int x1)]) (st1 := [.int (23 : Int32)]) (σ1 := q1.2) (by decide +kernel) rfl (fun hC => ?_)
          have h9 := Option.some.inj h
          subst h9
          have e9 : ((some (.int (23 : Int32)), q1.2) : Option Value × jx_S) = res := hK
          subst e9
          exact jE_ret hC rfl
        · rw [if_neg hc3] at h
          rcases Classical.em (q1.1 = 45) with hc4 | hc4
          · rw [if_pos hc4] at h
            refine jE_lsw 119 45 hC hc4 (by decide +kernel) ?_
            refine jE_blk (bs := [(.aload_n 0, 0, 0), (.iload_n 1, 0, 0), (.iconst (1), 1, 0), (.iadd, 0, 0)]) (i := .invokevirtual 239) (a1 := 149) (a2 := 0) (pc1 := 123) (l1 := [(0, .ref 106), (1, .int x1)]) (st1 := [.int (x1 + (1 : Int32)), .ref 106]) (σ1 := q1.2) (by decide +kernel) rfl (fun hC => ?_)
            obtain ⟨q2, hq, h⟩ := Option.bind_eq_some_iff.mp h
            refine jE_call (as := [.ref 106, .int (x1 + (1 : Int32))]) (pc1 := 126) (st1 := []) hC rfl (by decide) (by omega) (x_r_octet (d - 1) (by omega) (x1 + (1 : Int32)) q1.2 q2 (some (.int q2.1), q2.2) hq rfl) ?_
            refine jE_blk (bs := [(.bipush (62), 62, 0)]) (i := .if_icmp .ne (8)) (a1 := 0) (a2 := 0) (pc1 := 128) (l1 := [(0, .ref 106), (1, .int x1)]) (st1 := [.int (62 : Int32), .int q2.1]) (σ1 := q2.2) (by decide +kernel) rfl (fun hC => ?_)
            rcases Classical.em (¬ q2.1 = (62 : Int32)) with hc | hc
            · rw [if_pos hc] at h
              refine jE_icT 136 hC (by decide) hc ?_
              refine jE_blk (bs := [(.bipush (24), 24, 0)]) (i := .ireturn) (a1 := 0) (a2 := 0) (pc1 := 138) (l1 := [(0, .ref 106), (1, .int x1)]) (st1 := [.int (24 : Int32)]) (σ1 := q2.2) (by decide +kernel) rfl (fun hC => ?_)
              have h9 := Option.some.inj h
              subst h9
              have e9 : ((some (.int (24 : Int32)), q2.2) : Option Value × jx_S) = res := hK
              subst e9
              exact jE_ret hC rfl
            · rw [if_neg hc] at h
              refine jE_icF 136 hC (by decide) hc ?_
              refine jE_blk (bs := [(.bipush (21), 21, 0), (.goto (5), 0, 0)]) (i := .ireturn) (a1 := 0) (a2 := 0) (pc1 := 138) (l1 := [(0, .ref 106), (1, .int x1)]) (st1 := [.int (21 : Int32)]) (σ1 := q2.2) (by decide +kernel) rfl (fun hC => ?_)
              have h9 := Option.some.inj h
              subst h9
              have e9 : ((some (.int (21 : Int32)), q2.2) : Option Value × jx_S) = res := hK
              subst e9
              exact jE_ret hC rfl
          · rw [if_neg hc4] at h
            rcases Classical.em (q1.1 = 47) with hc5 | hc5
            · rw [if_pos hc5] at h
              refine jE_lsw 148 47 hC hc5 (by decide +kernel) ?_
              refine jE_blk (bs := [(.bipush (26), 26, 0)]) (i := .ireturn) (a1 := 0) (a2 := 0) (pc1 := 150) (l1 := [(0, .ref 106), (1, .int x1)]) (st1 := [.int (26 : Int32)]) (σ1 := q1.2) (by decide +kernel) rfl (fun hC => ?_)
              have h9 := Option.some.inj h
              subst h9
              have e9 : ((some (.int (26 : Int32)), q1.2) : Option Value × jx_S) = res := hK
              subst e9
              exact jE_ret hC rfl
            · rw [if_neg hc5] at h
              rcases Classical.em (q1.1 = 58) with hc6 | hc6
              · rw [if_pos hc6] at h
                refine jE_lsw 110 58 hC hc6 (by decide +kernel) ?_
                refine jE_blk (bs := [(.bipush (18), 18, 0)]) (i := .ireturn) (a1 := 0) (a2 := 0) (pc1 := 112) (l1 := [(0, .ref 106), (1, .int x1)]) (st1 := [.int (18 : Int32)]) (σ1 := q1.2) (by decide +kernel) rfl (fun hC => ?_)
                have h9 := Option.some.inj h
                subst h9
                have e9 : ((some (.int (18 : Int32)), q1.2) : Option Value × jx_S) = res := hK
                subst e9
                exact jE_ret hC rfl
              · rw [if_neg hc6] at h
                rcases Classical.em (q1.1 = 59) with hc7 | hc7
                · rw [if_pos hc7] at h
                  refine jE_lsw 116 59 hC hc7 (by decide +kernel) ?_
                  refine jE_blk (bs := [(.bipush (20), 20, 0)]) (i := .ireturn) (a1 := 0) (a2 := 0) (pc1 := 118) (l1 := [(0, .ref 106), (1, .int x1)]) (st1 := [.int (20 : Int32)]) (σ1 := q1.2) (by decide +kernel) rfl (fun hC => ?_)
                  have h9 := Option.some.inj h
                  subst h9
                  have e9 : ((some (.int (20 : Int32)), q1.2) : Option Value × jx_S) = res := hK
                  subst e9
                  exact jE_ret hC rfl
                · rw [if_neg hc7] at h
                  rcases Classical.em (q1.1 = 60) with hc8 | hc8
                  · rw [if_pos hc8] at h
                    refine jE_lsw 151 60 hC hc8 (by decide +kernel) ?_
                    refine jE_blk (bs := [(.bipush (27), 27, 0)]) (i := .ireturn) (a1 := 0) (a2 := 0) (pc1 := 153) (l1 := [(0, .ref 106), (1, .int x1)]) (st1 := [.int (27 : Int32)]) (σ1 := q1.2) (by decide +kernel) rfl (fun hC => ?_)
                    have h9 := Option.some.inj h
                    subst h9
                    have e9 : ((some (.int (27 : Int32)), q1.2) : Option Value × jx_S) = res := hK
                    subst e9
                    exact jE_ret hC rfl
                  · rw [if_neg hc8] at h
                    rcases Classical.em (q1.1 = 61) with hc9 | hc9
                    · rw [if_pos hc9] at h
                      refine jE_lsw 113 61 hC hc9 (by decide +kernel) ?_
                      refine jE_blk (bs := [(.bipush (19), 19, 0)]) (i := .ireturn) (a1 := 0) (a2 := 0) (pc1 := 115) (l1 := [(0, .ref 106), (1, .int x1)]) (st1 := [.int (19 : Int32)]) (σ1 := q1.2) (by decide +kernel) rfl (fun hC => ?_)
                      have h9 := Option.some.inj h
                      subst h9
                      have e9 : ((some (.int (19 : Int32)), q1.2) : Option Value × jx_S) = res := hK
                      subst e9
                      exact jE_ret hC rfl
                    · rw [if_neg hc9] at h
                      rcases Classical.em (q1.1 = 124) with hc10 | hc10
                      · rw [if_pos hc10] at h
                        refine jE_lsw 139 124 hC hc10 (by decide +kernel) ?_
                        refine jE_blk (bs := [(.bipush (22), 22, 0)]) (i := .ireturn) (a1 := 0) (a2 := 0) (pc1 := 141) (l1 := [(0, .ref 106), (1, .int x1)]) (st1 := [.int (22 : Int32)]) (σ1 := q1.2) (by decide +kernel) rfl (fun hC => ?_)
                        have h9 := Option.some.inj h
                        subst h9
                        have e9 : ((some (.int (22 : Int32)), q1.2) : Option Value × jx_S) = res := hK
                        subst e9
                        exact jE_ret hC rfl
                      · rw [if_neg hc10] at h
                        refine jE_lswD 154 [40, 41, 42, 43, 45, 47, 58, 59, 60, 61, 124] hC (by decide +kernel) ⟨hc0, hc1, hc2, hc3, hc4, hc5, hc6, hc7, hc8, hc9, hc10, trivial⟩ ?_
                        refine jE_blk (bs := [(.iconst (-1), 1, 1)]) (i := .ireturn) (a1 := 0) (a2 := 0) (pc1 := 155) (l1 := [(0, .ref 106), (1, .int x1)]) (st1 := [.int (-1 : Int32)]) (σ1 := q1.2) (by decide +kernel) rfl (fun hC => ?_)
                        have h9 := Option.some.inj h
                        subst h9
                        have e9 : ((some (.int (-1 : Int32)), q1.2) : Option Value × jx_S) = res := hK
                        subst e9
                        exact jE_ret hC rfl
def kk_r_scan_7 (d : Nat) (t : ((Int32 × jx_S) ⊕ (Int32 × jx_S))) (res : Option Value × jx_S) : Prop := match t with
  | .inl s => jE d 153 7 [(0, .ref 106), (1, .int s.1)] [] s.2 res
  | .inr t => kkI t res
def p_r_scan_282 (x1 : Int32) (σ : jx_S) : Option ((Int32 × jx_S) ⊕ (Int32 × jx_S)) := (some (.inl (x1, σ)))
theorem x_r_scan_282 (d : Nat) (hd : 3 ≤ d) (x1 : Int32) (σ : jx_S) (t : ((Int32 × jx_S) ⊕ (Int32 × jx_S))) (res : Option Value × jx_S) (h : p_r_scan_282 x1 σ = some t) (hK : kk_r_scan_7 d t res) : jE d 153 282 [(0, .ref 106), (1, .int x1)] [] σ res := by
  unfold p_r_scan_282 at h
  refine jE_blk (bs := [(.goto (-275), 0, 0)]) (i := .iload_n 1) (a1 := 0) (a2 := 0) (pc1 := 7) (l1 := [(0, .ref 106), (1, .int x1)]) (st1 := []) (σ1 := σ) (by decide +kernel) rfl (fun hC => ?_)
  have h9 := Option.some.inj h
  subst h9
  exact jE_loc (l := [(0, .ref 106), (1, .int x1)]) (ks := [0, 1]) rfl (by decide) ⟨rfl, rfl, trivial⟩ hK
def p_r_scan_33 (x1 : Int32) (σ : jx_S) : Option ((Int32 × jx_S) ⊕ (Int32 × jx_S)) := (p_r_scan_282 (x1 + 1) σ)
theorem x_r_scan_33 (d : Nat) (hd : 3 ≤ d) (x1 : Int32) (σ : jx_S) (t : ((Int32 × jx_S) ⊕ (Int32 × jx_S))) (res : Option Value × jx_S) (h : p_r_scan_33 x1 σ = some t) (hK : kk_r_scan_7 d t res) : jE d 153 33 [(0, .ref 106), (1, .int x1)] [] σ res := by
  unfold p_r_scan_33 at h
  refine jE_blk (bs := [(.iinc 1 (1), 7, 2), (.goto (246), 0, 0)]) (i := .goto (-275)) (a1 := 0) (a2 := 0) (pc1 := 282) (l1 := [(1, .int (x1 + 1)), (0, .ref 106)]) (st1 := []) (σ1 := σ) (by decide +kernel) rfl (fun hC => ?_)
  exact jE_loc (l := [(0, .ref 106), (1, .int (x1 + 1))]) (ks := [0, 1]) rfl (by decide) ⟨rfl, rfl, trivial⟩ (x_r_scan_282 d hd (x1 + 1) σ _ res h hK)
def p_r_scan_218 (x1 : Int32) (σ : jx_S) : Option (Int32 × jx_S) := ((p_r_fails (1 : Int32) x1 σ).bind fun q4 => (if q4.1 = 0 ∨ q4.1 = 1 then (some ((q4.1, q4.2))) else none))
theorem x_r_scan_218 (d : Nat) (hd : 3 ≤ d) (x1 : Int32) (σ : jx_S) (t : (Int32 × jx_S)) (res : Option Value × jx_S) (h : p_r_scan_218 x1 σ = some t) (hK : kkI t res) : jE d 153 218 [(0, .ref 106), (1, .int x1)] [] σ res := by
  unfold p_r_scan_218 at h
  refine jE_blk (bs := [(.aload_n 0, 0, 0), (.iconst (1), 1, 0), (.iload_n 1, 0, 0)]) (i := .invokevirtual 296) (a1 := 146) (a2 := 0) (pc1 := 221) (l1 := [(0, .ref 106), (1, .int x1)]) (st1 := [.int x1, .int (1 : Int32), .ref 106]) (σ1 := σ) (by decide +kernel) rfl (fun hC => ?_)
  obtain ⟨q4, hq, h⟩ := Option.bind_eq_some_iff.mp h
  refine jE_call (as := [.ref 106, .int (1 : Int32), .int x1]) (pc1 := 224) (st1 := []) hC rfl (by decide) (by omega) (x_r_fails (d - 1) (by omega) (1 : Int32) x1 σ q4 (some (.int q4.1), q4.2) hq rfl) ?_
  refine jE_blk (bs := []) (i := .ireturn) (a1 := 1) (a2 := 0) (pc1 := 224) (l1 := [(0, .ref 106), (1, .int x1)]) (st1 := [.int q4.1]) (σ1 := q4.2) (by decide +kernel) rfl (fun hC => ?_)
  obtain ⟨hb, h⟩ := jx_ite_inv h
  have h9 := Option.some.inj h
  subst h9
  have e9 : ((some (.int q4.1), q4.2) : Option Value × jx_S) = res := hK
  subst e9
  exact jE_bret hC hb
def p_r_scan_202 (x1 : Int32) (x3 : Int32) (x4 : Int64) (x6 : Int32) (σ : jx_S) : Option ((Int32 × jx_S) ⊕ (Int32 × jx_S)) := (if x6 = (-1 : Int32) then (Option.map Sum.inr (p_r_scan_218 x1 σ)) else (if ¬ (σ.1 106 10) = (1200 : Int32) then (if (σ.1 106 10) < 0 ∨ 1202 ≤ ((σ.1 106 10)).toNatClampNeg then none else (if (σ.1 106 10) < 0 ∨ 1202 ≤ ((σ.1 106 10)).toNatClampNeg then none else (if (σ.1 106 10) < 0 ∨ 1202 ≤ ((σ.1 106 10)).toNatClampNeg then none else (if (σ.1 106 10) < 0 ∨ 1202 ≤ ((σ.1 106 10)).toNatClampNeg then none else (p_r_scan_282 x3 (jx_i (jx_i (jx_i (jx_i (jx_i σ 108 ((σ.1 106 10)).toNatClampNeg x6) 109 ((σ.1 106 10)).toNatClampNeg x1) 110 ((σ.1 106 10)).toNatClampNeg (x3 - x1)) 111 ((σ.1 106 10)).toNatClampNeg (x4).toInt32) 106 10 ((σ.1 106 10) + (1 : Int32)))))))) else (Option.map Sum.inr (p_r_scan_218 x1 σ))))
theorem x_r_scan_202 (d : Nat) (hd : 3 ≤ d) (x1 : Int32) (x3 : Int32) (x4 : Int64) (x6 : Int32) (σ : jx_S) (t : ((Int32 × jx_S) ⊕ (Int32 × jx_S))) (res : Option Value × jx_S) (h : p_r_scan_202 x1 x3 x4 x6 σ = some t) (hK : kk_r_scan_7 d t res) : jE d 153 202 [(0, .ref 106), (1, .int x1), (3, .int x3), (4, .long x4), (6, .int x6)] [] σ res := by
  unfold p_r_scan_202 at h
  refine jE_blk (bs := [(.iload 6, 0, 0), (.iconst (-1), 1, 1)]) (i := .if_icmp .eq (13)) (a1 := 0) (a2 := 0) (pc1 := 205) (l1 := [(0, .ref 106), (1, .int x1), (3, .int x3), (4, .long x4), (6, .int x6)]) (st1 := [.int (-1 : Int32), .int x6]) (σ1 := σ) (by decide +kernel) rfl (fun hC => ?_)
  rcases Classical.em (x6 = (-1 : Int32)) with hc | hc
  · rw [if_pos hc] at h
    refine jE_icT 218 hC (by decide) hc ?_
    obtain ⟨t9_5, h9_5, h8_5⟩ := Option.map_eq_some_iff.mp h
    clear h
    subst h8_5
    have h := h9_5
    clear h9_5
    exact jE_loc (l := [(0, .ref 106), (1, .int x1)]) (ks := [0, 1]) rfl (by decide) ⟨rfl, rfl, trivial⟩ (x_r_scan_218 d hd x1 σ _ res h hK)
  · rw [if_neg hc] at h
    refine jE_icF 218 hC (by decide) hc ?_
    refine jE_blk (bs := [(.aload_n 0, 0, 0), (.getfield 273, 12, 10), (.sipush (1200), 1200, 0)]) (i := .if_icmp .ne (10)) (a1 := 0) (a2 := 0) (pc1 := 215) (l1 := [(0, .ref 106), (1, .int x1), (3, .int x3), (4, .long x4), (6, .int x6)]) (st1 := [.int (1200 : Int32), .int (σ.1 106 10)]) (σ1 := σ) (by decide +kernel) rfl (fun hC => ?_)
    rcases Classical.em (¬ (σ.1 106 10) = (1200 : Int32)) with hc | hc
    · rw [if_pos hc] at h
      refine jE_icT 225 hC (by decide) hc ?_
      refine jE_blk (bs := [(.aload_n 0, 0, 0), (.getfield 17, 12, 6), (.aload_n 0, 0, 0), (.getfield 273, 12, 10), (.iload 6, 0, 0)]) (i := .iastore) (a1 := 0) (a2 := 0) (pc1 := 235) (l1 := [(0, .ref 106), (1, .int x1), (3, .int x3), (4, .long x4), (6, .int x6)]) (st1 := [.int x6, .int (σ.1 106 10), .ref 108]) (σ1 := σ) (by decide +kernel) rfl (fun hC => ?_)
      obtain ⟨hi, h⟩ := jx_ite0_inv h
      refine jE_iast (n := 1202) hC (by decide) rfl hi ?_
      refine jE_blk (bs := [(.aload_n 0, 0, 0), (.getfield 20, 12, 7), (.aload_n 0, 0, 0), (.getfield 273, 12, 10), (.iload_n 1, 0, 0)]) (i := .iastore) (a1 := 0) (a2 := 0) (pc1 := 245) (l1 := [(0, .ref 106), (1, .int x1), (3, .int x3), (4, .long x4), (6, .int x6)]) (st1 := [.int x1, .int (σ.1 106 10), .ref 109]) (σ1 := (jx_i σ 108 ((σ.1 106 10)).toNatClampNeg x6)) (by decide +kernel) rfl (fun hC => ?_)
      obtain ⟨hi, h⟩ := jx_ite0_inv h
      refine jE_iast (n := 1202) hC (by decide) rfl hi ?_
      refine jE_blk (bs := [(.aload_n 0, 0, 0), (.getfield 23, 12, 8), (.aload_n 0, 0, 0), (.getfield 273, 12, 10), (.iload_n 3, 0, 0), (.iload_n 1, 0, 0), (.isub, 0, 0)]) (i := .iastore) (a1 := 0) (a2 := 0) (pc1 := 257) (l1 := [(0, .ref 106), (1, .int x1), (3, .int x3), (4, .long x4), (6, .int x6)]) (st1 := [.int (x3 - x1), .int (σ.1 106 10), .ref 110]) (σ1 := (jx_i (jx_i σ 108 ((σ.1 106 10)).toNatClampNeg x6) 109 ((σ.1 106 10)).toNatClampNeg x1)) (by decide +kernel) rfl (fun hC => ?_)
      obtain ⟨hi, h⟩ := jx_ite0_inv h
      refine jE_iast (n := 1202) hC (by decide) rfl hi ?_
      refine jE_blk (bs := [(.aload_n 0, 0, 0), (.getfield 26, 12, 9), (.aload_n 0, 0, 0), (.getfield 273, 12, 10), (.lload 4, 0, 0), (.l2i, 0, 0)]) (i := .iastore) (a1 := 0) (a2 := 0) (pc1 := 269) (l1 := [(0, .ref 106), (1, .int x1), (3, .int x3), (4, .long x4), (6, .int x6)]) (st1 := [.int (x4).toInt32, .int (σ.1 106 10), .ref 111]) (σ1 := (jx_i (jx_i (jx_i σ 108 ((σ.1 106 10)).toNatClampNeg x6) 109 ((σ.1 106 10)).toNatClampNeg x1) 110 ((σ.1 106 10)).toNatClampNeg (x3 - x1))) (by decide +kernel) rfl (fun hC => ?_)
      obtain ⟨hi, h⟩ := jx_ite0_inv h
      refine jE_iast (n := 1202) hC (by decide) rfl hi ?_
      refine jE_blk (bs := [(.aload_n 0, 0, 0), (.dup, 0, 0), (.getfield 273, 12, 10), (.iconst (1), 1, 0), (.iadd, 0, 0), (.putfield 273, 12, 10), (.iload_n 3, 0, 0), (.istore_n 1, 7, 0)]) (i := .goto (-275)) (a1 := 0) (a2 := 0) (pc1 := 282) (l1 := [(1, .int x3), (0, .ref 106), (3, .int x3), (4, .long x4), (6, .int x6)]) (st1 := []) (σ1 := (jx_i (jx_i (jx_i (jx_i (jx_i σ 108 ((σ.1 106 10)).toNatClampNeg x6) 109 ((σ.1 106 10)).toNatClampNeg x1) 110 ((σ.1 106 10)).toNatClampNeg (x3 - x1)) 111 ((σ.1 106 10)).toNatClampNeg (x4).toInt32) 106 10 ((σ.1 106 10) + (1 : Int32)))) (by decide +kernel) rfl (fun hC => ?_)
      exact jE_loc (l := [(0, .ref 106), (1, .int x3)]) (ks := [0, 1]) rfl (by decide) ⟨rfl, rfl, trivial⟩ (x_r_scan_282 d hd x3 (jx_i (jx_i (jx_i (jx_i (jx_i σ 108 ((σ.1 106 10)).toNatClampNeg x6) 109 ((σ.1 106 10)).toNatClampNeg x1) 110 ((σ.1 106 10)).toNatClampNeg (x3 - x1)) 111 ((σ.1 106 10)).toNatClampNeg (x4).toInt32) 106 10 ((σ.1 106 10) + (1 : Int32))) _ res h hK)
    · rw [if_neg hc] at h
      refine jE_icF 225 hC (by decide) hc ?_
      obtain ⟨t9_6, h9_6, h8_6⟩ := Option.map_eq_some_iff.mp h
      clear h
      subst h8_6
      have h := h9_6
      clear h9_6
      exact jE_loc (l := [(0, .ref 106), (1, .int x1)]) (ks := [0, 1]) rfl (by decide) ⟨rfl, rfl, trivial⟩ (x_r_scan_218 d hd x1 σ _ res h hK)
def p_r_scan_200 (x1 : Int32) (x4 : Int64) (x6 : Int32) (y0 : Int32) (y1 : Int32) (σ : jx_S) : Option ((Int32 × jx_S) ⊕ (Int32 × jx_S)) := (p_r_scan_202 x1 (y1 + y0) x4 x6 σ)
theorem x_r_scan_200 (d : Nat) (hd : 3 ≤ d) (x1 : Int32) (x4 : Int64) (x6 : Int32) (y0 : Int32) (y1 : Int32) (σ : jx_S) (t : ((Int32 × jx_S) ⊕ (Int32 × jx_S))) (res : Option Value × jx_S) (h : p_r_scan_200 x1 x4 x6 y0 y1 σ = some t) (hK : kk_r_scan_7 d t res) : jE d 153 200 [(0, .ref 106), (1, .int x1), (4, .long x4), (6, .int x6)] [.int y0, .int y1] σ res := by
  unfold p_r_scan_200 at h
  refine jE_blk (bs := [(.iadd, 0, 0), (.istore_n 3, 7, 0)]) (i := .iload 6) (a1 := 0) (a2 := 0) (pc1 := 202) (l1 := [(3, .int (y1 + y0)), (0, .ref 106), (1, .int x1), (4, .long x4), (6, .int x6)]) (st1 := []) (σ1 := σ) (by decide +kernel) rfl (fun hC => ?_)
  exact jE_loc (l := [(0, .ref 106), (1, .int x1), (3, .int (y1 + y0)), (4, .long x4), (6, .int x6)]) (ks := [0, 1, 3, 4, 6]) rfl (by decide) ⟨rfl, rfl, rfl, rfl, rfl, trivial⟩ (x_r_scan_202 d hd x1 (y1 + y0) x4 x6 σ _ res h hK)
def kk_r_scan_118 (d : Nat) (t : ((Int32 × Int32 × Int64 × jx_S) ⊕ ((Int32 × jx_S) ⊕ (Int32 × jx_S)))) (res : Option Value × jx_S) : Prop := match t with
  | .inl s => jE d 153 118 [(0, .ref 106), (1, .int s.1), (3, .int s.2.1), (4, .long s.2.2.1)] [] s.2.2.2 res
  | .inr t => kk_r_scan_7 d t res
def p_r_scan_182 (x1 : Int32) (x3 : Int32) (x4 : Int64) (y0 : Int32) (σ : jx_S) : Option ((Int32 × jx_S) ⊕ (Int32 × jx_S)) := (p_r_scan_202 x1 x3 x4 y0 σ)
theorem x_r_scan_182 (d : Nat) (hd : 3 ≤ d) (x1 : Int32) (x3 : Int32) (x4 : Int64) (y0 : Int32) (σ : jx_S) (t : ((Int32 × jx_S) ⊕ (Int32 × jx_S))) (res : Option Value × jx_S) (h : p_r_scan_182 x1 x3 x4 y0 σ = some t) (hK : kk_r_scan_7 d t res) : jE d 153 182 [(0, .ref 106), (1, .int x1), (3, .int x3), (4, .long x4)] [.int y0] σ res := by
  unfold p_r_scan_182 at h
  refine jE_blk (bs := [(.istore 6, 7, 0), (.goto (18), 0, 0)]) (i := .iload 6) (a1 := 0) (a2 := 0) (pc1 := 202) (l1 := [(6, .int y0), (0, .ref 106), (1, .int x1), (3, .int x3), (4, .long x4)]) (st1 := []) (σ1 := σ) (by decide +kernel) rfl (fun hC => ?_)
  exact jE_loc (l := [(0, .ref 106), (1, .int x1), (3, .int x3), (4, .long x4), (6, .int y0)]) (ks := [0, 1, 3, 4, 6]) rfl (by decide) ⟨rfl, rfl, rfl, rfl, rfl, trivial⟩ (x_r_scan_202 d hd x1 x3 x4 y0 σ _ res h hK)
def p_r_scan_160 (x1 : Int32) (x3 : Int32) (y0 : Int64) (σ : jx_S) : Option ((Int32 × Int32 × Int64 × jx_S) ⊕ ((Int32 × jx_S) ⊕ (Int32 × jx_S))) := (some (.inl (x1, (x3 + 1), y0, σ)))
theorem x_r_scan_160 (d : Nat) (hd : 3 ≤ d) (x1 : Int32) (x3 : Int32) (y0 : Int64) (σ : jx_S) (t : ((Int32 × Int32 × Int64 × jx_S) ⊕ ((Int32 × jx_S) ⊕ (Int32 × jx_S)))) (res : Option Value × jx_S) (h : p_r_scan_160 x1 x3 y0 σ = some t) (hK : kk_r_scan_118 d t res) : jE d 153 160 [(0, .ref 106), (1, .int x1), (3, .int x3)] [.long y0] σ res := by
  unfold p_r_scan_160 at h
  refine jE_blk (bs := [(.lstore 4, 7, 0), (.iinc 3 (1), 7, 2), (.goto (-47), 0, 0)]) (i := .aload_n 0) (a1 := 0) (a2 := 0) (pc1 := 118) (l1 := [(3, .int (x3 + 1)), (4, .long y0), (0, .ref 106), (1, .int x1)]) (st1 := []) (σ1 := σ) (by decide +kernel) rfl (fun hC => ?_)
  have h9 := Option.some.inj h
  subst h9
  exact jE_loc (l := [(0, .ref 106), (1, .int x1), (3, .int (x3 + 1)), (4, .long y0)]) (ks := [0, 1, 3, 4]) rfl (by decide) ⟨rfl, rfl, rfl, rfl, trivial⟩ hK
def p_r_scan_118_s (x1 : Int32) (x3 : Int32) (x4 : Int64) (σ : jx_S) : Option ((Int32 × Int32 × Int64 × jx_S) ⊕ ((Int32 × jx_S) ⊕ (Int32 × jx_S))) := ((p_r_octet x3 σ).bind fun q7 => (if (v_r_isDigit q7.1 q7.2) = 0 then (Option.map Sum.inr (if (lg_cmp x4 (2147483647 : Int64)) ≤ 0 then (p_r_scan_182 x1 x3 x4 (2 : Int32) q7.2) else (p_r_scan_182 x1 x3 x4 (-1 : Int32) q7.2))) else (if (lg_cmp x4 (2147483647 : Int64)) ≤ 0 then ((p_r_octet x3 q7.2).bind fun q9 => (p_r_scan_160 x1 x3 ((((10 : Int64) * x4) + (q9.1).toInt64) - (48 : Int64)) q9.2)) else (p_r_scan_160 x1 x3 x4 q7.2))))
theorem x_r_scan_118_s (d : Nat) (hd : 3 ≤ d) (x1 : Int32) (x3 : Int32) (x4 : Int64) (σ : jx_S) (t : ((Int32 × Int32 × Int64 × jx_S) ⊕ ((Int32 × jx_S) ⊕ (Int32 × jx_S)))) (res : Option Value × jx_S) (h : p_r_scan_118_s x1 x3 x4 σ = some t) (hK : kk_r_scan_118 d t res) : jE d 153 118 [(0, .ref 106), (1, .int x1), (3, .int x3), (4, .long x4)] [] σ res := by
  unfold p_r_scan_118_s at h
  refine jE_blk (bs := [(.aload_n 0, 0, 0), (.iload_n 3, 0, 0)]) (i := .invokevirtual 239) (a1 := 149) (a2 := 0) (pc1 := 120) (l1 := [(0, .ref 106), (1, .int x1), (3, .int x3), (4, .long x4)]) (st1 := [.int x3, .ref 106]) (σ1 := σ) (by decide +kernel) rfl (fun hC => ?_)
  obtain ⟨q7, hq, h⟩ := Option.bind_eq_some_iff.mp h
  refine jE_call (as := [.ref 106, .int x3]) (pc1 := 123) (st1 := []) hC rfl (by decide) (by omega) (x_r_octet (d - 1) (by omega) x3 σ q7 (some (.int q7.1), q7.2) hq rfl) ?_
  refine jE_blk (bs := []) (i := .invokestatic 283) (a1 := 148) (a2 := 0) (pc1 := 123) (l1 := [(0, .ref 106), (1, .int x1), (3, .int x3), (4, .long x4)]) (st1 := [.int q7.1]) (σ1 := q7.2) (by decide +kernel) rfl (fun hC => ?_)
  refine jE_call (as := [.int q7.1]) (pc1 := 126) (st1 := []) hC rfl (by decide) (by omega) (xv_r_isDigit (d - 1) (by omega) q7.1 q7.2) ?_
  refine jE_blk (bs := []) (i := .ifCond .eq (42)) (a1 := 0) (a2 := 0) (pc1 := 126) (l1 := [(0, .ref 106), (1, .int x1), (3, .int x3), (4, .long x4)]) (st1 := [.int (v_r_isDigit q7.1 q7.2)]) (σ1 := q7.2) (by decide +kernel) rfl (fun hC => ?_)
  rcases Classical.em ((v_r_isDigit q7.1 q7.2) = 0) with hc | hc
  · rw [if_pos hc] at h
    refine jE_ifT 168 hC (by decide) hc ?_
    obtain ⟨t9_8, h9_8, h8_8⟩ := Option.map_eq_some_iff.mp h
    clear h
    subst h8_8
    have h := h9_8
    clear h9_8
    refine jE_blk (bs := [(.lload 4, 0, 0), (.ldc2_w 290, 2147483647, 0), (.lcmp, 0, 0)]) (i := .ifCond .le (7)) (a1 := 0) (a2 := 0) (pc1 := 174) (l1 := [(0, .ref 106), (1, .int x1), (3, .int x3), (4, .long x4)]) (st1 := [.int (lg_cmp x4 (2147483647 : Int64))]) (σ1 := q7.2) (by decide +kernel) rfl (fun hC => ?_)
    rcases Classical.em ((lg_cmp x4 (2147483647 : Int64)) ≤ 0) with hc | hc
    · rw [if_pos hc] at h
      refine jE_ifT 181 hC (by decide) hc ?_
      refine jE_blk (bs := [(.iconst (2), 2, 0)]) (i := .istore 6) (a1 := 7) (a2 := 0) (pc1 := 182) (l1 := [(0, .ref 106), (1, .int x1), (3, .int x3), (4, .long x4)]) (st1 := [.int (2 : Int32)]) (σ1 := q7.2) (by decide +kernel) rfl (fun hC => ?_)
      exact jE_loc (l := [(0, .ref 106), (1, .int x1), (3, .int x3), (4, .long x4)]) (ks := [0, 1, 3, 4]) rfl (by decide) ⟨rfl, rfl, rfl, rfl, trivial⟩ (x_r_scan_182 d hd x1 x3 x4 (2 : Int32) q7.2 _ res h hK)
    · rw [if_neg hc] at h
      refine jE_ifF 181 hC (by decide) hc ?_
      refine jE_blk (bs := [(.iconst (-1), 1, 1), (.goto (4), 0, 0)]) (i := .istore 6) (a1 := 7) (a2 := 0) (pc1 := 182) (l1 := [(0, .ref 106), (1, .int x1), (3, .int x3), (4, .long x4)]) (st1 := [.int (-1 : Int32)]) (σ1 := q7.2) (by decide +kernel) rfl (fun hC => ?_)
      exact jE_loc (l := [(0, .ref 106), (1, .int x1), (3, .int x3), (4, .long x4)]) (ks := [0, 1, 3, 4]) rfl (by decide) ⟨rfl, rfl, rfl, rfl, trivial⟩ (x_r_scan_182 d hd x1 x3 x4 (-1 : Int32) q7.2 _ res h hK)
  · rw [if_neg hc] at h
    refine jE_ifF 168 hC (by decide) hc ?_
    refine jE_blk (bs := [(.lload 4, 0, 0), (.ldc2_w 290, 2147483647, 0), (.lcmp, 0, 0)]) (i := .ifCond .le (8)) (a1 := 0) (a2 := 0) (pc1 := 135) (l1 := [(0, .ref 106), (1, .int x1), (3, .int x3), (4, .long x4)]) (st1 := [.int (lg_cmp x4 (2147483647 : Int64))]) (σ1 := q7.2) (by decide +kernel) rfl (fun hC => ?_)
    rcases Classical.em ((lg_cmp x4 (2147483647 : Int64)) ≤ 0) with hc | hc
    · rw [if_pos hc] at h
      refine jE_ifT 143 hC (by decide) hc ?_
      refine jE_blk (bs := [(.ldc2_w 292, 10, 0), (.lload 4, 0, 0), (.lmul, 0, 0), (.aload_n 0, 0, 0), (.iload_n 3, 0, 0)]) (i := .invokevirtual 239) (a1 := 149) (a2 := 0) (pc1 := 151) (l1 := [(0, .ref 106), (1, .int x1), (3, .int x3), (4, .long x4)]) (st1 := [.int x3, .ref 106, .long ((10 : Int64) * x4)]) (σ1 := q7.2) (by decide +kernel) rfl (fun hC => ?_)
      obtain ⟨q9, hq, h⟩ := Option.bind_eq_some_iff.mp h
      refine jE_call (as := [.ref 106, .int x3]) (pc1 := 154) (st1 := [.long ((10 : Int64) * x4)]) hC rfl (by decide) (by omega) (x_r_octet (d - 1) (by omega) x3 q7.2 q9 (some (.int q9.1), q9.2) hq rfl) ?_
      refine jE_blk (bs := [(.i2l, 0, 0), (.ladd, 0, 0), (.ldc2_w 294, 48, 0), (.lsub, 0, 0)]) (i := .lstore 4) (a1 := 7) (a2 := 0) (pc1 := 160) (l1 := [(0, .ref 106), (1, .int x1), (3, .int x3), (4, .long x4)]) (st1 := [.long ((((10 : Int64) * x4) + (q9.1).toInt64) - (48 : Int64))]) (σ1 := q9.2) (by decide +kernel) rfl (fun hC => ?_)
      exact jE_loc (l := [(0, .ref 106), (1, .int x1), (3, .int x3)]) (ks := [0, 1, 3]) rfl (by decide) ⟨rfl, rfl, rfl, trivial⟩ (x_r_scan_160 d hd x1 x3 ((((10 : Int64) * x4) + (q9.1).toInt64) - (48 : Int64)) q9.2 _ res h hK)
    · rw [if_neg hc] at h
      refine jE_ifF 143 hC (by decide) hc ?_
      refine jE_blk (bs := [(.lload 4, 0, 0), (.goto (20), 0, 0)]) (i := .lstore 4) (a1 := 7) (a2 := 0) (pc1 := 160) (l1 := [(0, .ref 106), (1, .int x1), (3, .int x3), (4, .long x4)]) (st1 := [.long x4]) (σ1 := q7.2) (by decide +kernel) rfl (fun hC => ?_)
      exact jE_loc (l := [(0, .ref 106), (1, .int x1), (3, .int x3)]) (ks := [0, 1, 3]) rfl (by decide) ⟨rfl, rfl, rfl, trivial⟩ (x_r_scan_160 d hd x1 x3 x4 q7.2 _ res h hK)
def p_r_scan_118 (x1 : Int32) (x3 : Int32) (x4 : Int64) (σ : jx_S) : Option ((Int32 × jx_S) ⊕ (Int32 × jx_S)) := jx_loop 100000000 (fun s => p_r_scan_118_s s.1 s.2.1 s.2.2.1 (s.2.2.2)) (x1, x3, x4, σ)
theorem x_r_scan_118 (d : Nat) (hd : 3 ≤ d) (x1 : Int32) (x3 : Int32) (x4 : Int64) (σ : jx_S) (t : ((Int32 × jx_S) ⊕ (Int32 × jx_S))) (res : Option Value × jx_S) (h : p_r_scan_118 x1 x3 x4 σ = some t) (hK : kk_r_scan_7 d t res) : jE d 153 118 [(0, .ref 106), (1, .int x1), (3, .int x3), (4, .long x4)] [] σ res := by
  refine jx_loop_ok (E := fun s t => ∀ res, kk_r_scan_7 d t res → jE d 153 118 [(0, .ref 106), (1, .int s.1), (3, .int s.2.1), (4, .long s.2.2.1)] [] s.2.2.2 res) (fun s t hs => ?_) _ _ _ h res hK
  cases t with
  | inl s1 => exact fun b hb res hk => x_r_scan_118_s d hd (s.1) (s.2.1) (s.2.2.1) (s.2.2.2) _ res hs (hb res hk)
  | inr b => exact fun res hk => x_r_scan_118_s d hd (s.1) (s.2.1) (s.2.2.1) (s.2.2.2) _ res hs hk
def kk_r_scan_58 (d : Nat) (t : ((Int32 × Int32 × Int64 × jx_S) ⊕ ((Int32 × jx_S) ⊕ (Int32 × jx_S)))) (res : Option Value × jx_S) : Prop := match t with
  | .inl s => jE d 153 58 [(0, .ref 106), (1, .int s.1), (3, .int s.2.1), (4, .long s.2.2.1)] [] s.2.2.2 res
  | .inr t => kk_r_scan_7 d t res
def p_r_scan_80 (x1 : Int32) (x3 : Int32) (x4 : Int64) (σ : jx_S) : Option ((Int32 × Int32 × Int64 × jx_S) ⊕ ((Int32 × jx_S) ⊕ (Int32 × jx_S))) := (some (.inl (x1, (x3 + 1), x4, σ)))
theorem x_r_scan_80 (d : Nat) (hd : 3 ≤ d) (x1 : Int32) (x3 : Int32) (x4 : Int64) (σ : jx_S) (t : ((Int32 × Int32 × Int64 × jx_S) ⊕ ((Int32 × jx_S) ⊕ (Int32 × jx_S)))) (res : Option Value × jx_S) (h : p_r_scan_80 x1 x3 x4 σ = some t) (hK : kk_r_scan_58 d t res) : jE d 153 80 [(0, .ref 106), (1, .int x1), (3, .int x3), (4, .long x4)] [] σ res := by
  unfold p_r_scan_80 at h
  refine jE_blk (bs := [(.iinc 3 (1), 7, 2), (.goto (-25), 0, 0)]) (i := .aload_n 0) (a1 := 0) (a2 := 0) (pc1 := 58) (l1 := [(3, .int (x3 + 1)), (0, .ref 106), (1, .int x1), (4, .long x4)]) (st1 := []) (σ1 := σ) (by decide +kernel) rfl (fun hC => ?_)
  have h9 := Option.some.inj h
  subst h9
  exact jE_loc (l := [(0, .ref 106), (1, .int x1), (3, .int (x3 + 1)), (4, .long x4)]) (ks := [0, 1, 3, 4]) rfl (by decide) ⟨rfl, rfl, rfl, rfl, trivial⟩ hK
def p_r_scan_106 (x1 : Int32) (x3 : Int32) (x4 : Int64) (y0 : Int32) (σ : jx_S) : Option ((Int32 × jx_S) ⊕ (Int32 × jx_S)) := (p_r_scan_202 x1 x3 x4 y0 σ)
theorem x_r_scan_106 (d : Nat) (hd : 3 ≤ d) (x1 : Int32) (x3 : Int32) (x4 : Int64) (y0 : Int32) (σ : jx_S) (t : ((Int32 × jx_S) ⊕ (Int32 × jx_S))) (res : Option Value × jx_S) (h : p_r_scan_106 x1 x3 x4 y0 σ = some t) (hK : kk_r_scan_7 d t res) : jE d 153 106 [(0, .ref 106), (1, .int x1), (3, .int x3), (4, .long x4)] [.int y0] σ res := by
  unfold p_r_scan_106 at h
  refine jE_blk (bs := [(.istore 6, 7, 0), (.goto (94), 0, 0)]) (i := .iload 6) (a1 := 0) (a2 := 0) (pc1 := 202) (l1 := [(6, .int y0), (0, .ref 106), (1, .int x1), (3, .int x3), (4, .long x4)]) (st1 := []) (σ1 := σ) (by decide +kernel) rfl (fun hC => ?_)
  exact jE_loc (l := [(0, .ref 106), (1, .int x1), (3, .int x3), (4, .long x4), (6, .int y0)]) (ks := [0, 1, 3, 4, 6]) rfl (by decide) ⟨rfl, rfl, rfl, rfl, rfl, trivial⟩ (x_r_scan_202 d hd x1 x3 x4 y0 σ _ res h hK)
def p_r_scan_58_s (x1 : Int32) (x3 : Int32) (x4 : Int64) (σ : jx_S) : Option ((Int32 × Int32 × Int64 × jx_S) ⊕ ((Int32 × jx_S) ⊕ (Int32 × jx_S))) := ((p_r_octet x3 σ).bind fun q10 => (if ¬ (v_r_isLetter q10.1 q10.2) = 0 then (p_r_scan_80 x1 x3 x4 q10.2) else ((p_r_octet x3 q10.2).bind fun q11 => (if (v_r_isDigit q11.1 q11.2) = 0 then (Option.map Sum.inr (if (x3 - x1) ≤ (12 : Int32) then ((p_r_wordAt x1 (x3 - x1) q11.2).bind fun q12 => (p_r_scan_106 x1 x3 x4 q12.1 q12.2)) else (p_r_scan_106 x1 x3 x4 (-1 : Int32) q11.2))) else (p_r_scan_80 x1 x3 x4 q11.2)))))
theorem x_r_scan_58_s (d : Nat) (hd : 3 ≤ d) (x1 : Int32) (x3 : Int32) (x4 : Int64) (σ : jx_S) (t : ((Int32 × Int32 × Int64 × jx_S) ⊕ ((Int32 × jx_S) ⊕ (Int32 × jx_S)))) (res : Option Value × jx_S) (h : p_r_scan_58_s x1 x3 x4 σ = some t) (hK : kk_r_scan_58 d t res) : jE d 153 58 [(0, .ref 106), (1, .int x1), (3, .int x3), (4, .long x4)] [] σ res := by
  unfold p_r_scan_58_s at h
  refine jE_blk (bs := [(.aload_n 0, 0, 0), (.iload_n 3, 0, 0)]) (i := .invokevirtual 239) (a1 := 149) (a2 := 0) (pc1 := 60) (l1 := [(0, .ref 106), (1, .int x1), (3, .int x3), (4, .long x4)]) (st1 := [.int x3, .ref 106]) (σ1 := σ) (by decide +kernel) rfl (fun hC => ?_)
  obtain ⟨q10, hq, h⟩ := Option.bind_eq_some_iff.mp h
  refine jE_call (as := [.ref 106, .int x3]) (pc1 := 63) (st1 := []) hC rfl (by decide) (by omega) (x_r_octet (d - 1) (by omega) x3 σ q10 (some (.int q10.1), q10.2) hq rfl) ?_
  refine jE_blk (bs := []) (i := .invokestatic 279) (a1 := 147) (a2 := 0) (pc1 := 63) (l1 := [(0, .ref 106), (1, .int x1), (3, .int x3), (4, .long x4)]) (st1 := [.int q10.1]) (σ1 := q10.2) (by decide +kernel) rfl (fun hC => ?_)
  refine jE_call (as := [.int q10.1]) (pc1 := 66) (st1 := []) hC rfl (by decide) (by omega) (xv_r_isLetter (d - 1) (by omega) q10.1 q10.2) ?_
  refine jE_blk (bs := []) (i := .ifCond .ne (14)) (a1 := 0) (a2 := 0) (pc1 := 66) (l1 := [(0, .ref 106), (1, .int x1), (3, .int x3), (4, .long x4)]) (st1 := [.int (v_r_isLetter q10.1 q10.2)]) (σ1 := q10.2) (by decide +kernel) rfl (fun hC => ?_)
  rcases Classical.em (¬ (v_r_isLetter q10.1 q10.2) = 0) with hc | hc
  · rw [if_pos hc] at h
    refine jE_ifT 80 hC (by decide) hc ?_
    exact jE_loc (l := [(0, .ref 106), (1, .int x1), (3, .int x3), (4, .long x4)]) (ks := [0, 1, 3, 4]) rfl (by decide) ⟨rfl, rfl, rfl, rfl, trivial⟩ (x_r_scan_80 d hd x1 x3 x4 q10.2 _ res h hK)
  · rw [if_neg hc] at h
    refine jE_ifF 80 hC (by decide) hc ?_
    refine jE_blk (bs := [(.aload_n 0, 0, 0), (.iload_n 3, 0, 0)]) (i := .invokevirtual 239) (a1 := 149) (a2 := 0) (pc1 := 71) (l1 := [(0, .ref 106), (1, .int x1), (3, .int x3), (4, .long x4)]) (st1 := [.int x3, .ref 106]) (σ1 := q10.2) (by decide +kernel) rfl (fun hC => ?_)
    obtain ⟨q11, hq, h⟩ := Option.bind_eq_some_iff.mp h
    refine jE_call (as := [.ref 106, .int x3]) (pc1 := 74) (st1 := []) hC rfl (by decide) (by omega) (x_r_octet (d - 1) (by omega) x3 q10.2 q11 (some (.int q11.1), q11.2) hq rfl) ?_
    refine jE_blk (bs := []) (i := .invokestatic 283) (a1 := 148) (a2 := 0) (pc1 := 74) (l1 := [(0, .ref 106), (1, .int x1), (3, .int x3), (4, .long x4)]) (st1 := [.int q11.1]) (σ1 := q11.2) (by decide +kernel) rfl (fun hC => ?_)
    refine jE_call (as := [.int q11.1]) (pc1 := 77) (st1 := []) hC rfl (by decide) (by omega) (xv_r_isDigit (d - 1) (by omega) q11.1 q11.2) ?_
    refine jE_blk (bs := []) (i := .ifCond .eq (9)) (a1 := 0) (a2 := 0) (pc1 := 77) (l1 := [(0, .ref 106), (1, .int x1), (3, .int x3), (4, .long x4)]) (st1 := [.int (v_r_isDigit q11.1 q11.2)]) (σ1 := q11.2) (by decide +kernel) rfl (fun hC => ?_)
    rcases Classical.em ((v_r_isDigit q11.1 q11.2) = 0) with hc | hc
    · rw [if_pos hc] at h
      refine jE_ifT 86 hC (by decide) hc ?_
      obtain ⟨t9_13, h9_13, h8_13⟩ := Option.map_eq_some_iff.mp h
      clear h
      subst h8_13
      have h := h9_13
      clear h9_13
      refine jE_blk (bs := [(.iload_n 3, 0, 0), (.iload_n 1, 0, 0), (.isub, 0, 0), (.bipush (12), 12, 0)]) (i := .if_icmp .le (7)) (a1 := 0) (a2 := 0) (pc1 := 91) (l1 := [(0, .ref 106), (1, .int x1), (3, .int x3), (4, .long x4)]) (st1 := [.int (12 : Int32), .int (x3 - x1)]) (σ1 := q11.2) (by decide +kernel) rfl (fun hC => ?_)
      rcases Classical.em ((x3 - x1) ≤ (12 : Int32)) with hc | hc
      · rw [if_pos hc] at h
        refine jE_icT 98 hC (by decide) hc ?_
        refine jE_blk (bs := [(.aload_n 0, 0, 0), (.iload_n 1, 0, 0), (.iload_n 3, 0, 0), (.iload_n 1, 0, 0), (.isub, 0, 0)]) (i := .invokevirtual 286) (a1 := 151) (a2 := 0) (pc1 := 103) (l1 := [(0, .ref 106), (1, .int x1), (3, .int x3), (4, .long x4)]) (st1 := [.int (x3 - x1), .int x1, .ref 106]) (σ1 := q11.2) (by decide +kernel) rfl (fun hC => ?_)
        obtain ⟨q12, hq, h⟩ := Option.bind_eq_some_iff.mp h
        refine jE_call (as := [.ref 106, .int x1, .int (x3 - x1)]) (pc1 := 106) (st1 := []) hC rfl (by decide) (by omega) (x_r_wordAt (d - 1) (by omega) x1 (x3 - x1) q11.2 q12 (some (.int q12.1), q12.2) hq rfl) ?_
        exact jE_loc (l := [(0, .ref 106), (1, .int x1), (3, .int x3), (4, .long x4)]) (ks := [0, 1, 3, 4]) rfl (by decide) ⟨rfl, rfl, rfl, rfl, trivial⟩ (x_r_scan_106 d hd x1 x3 x4 q12.1 q12.2 _ res h hK)
      · rw [if_neg hc] at h
        refine jE_icF 98 hC (by decide) hc ?_
        refine jE_blk (bs := [(.iconst (-1), 1, 1), (.goto (11), 0, 0)]) (i := .istore 6) (a1 := 7) (a2 := 0) (pc1 := 106) (l1 := [(0, .ref 106), (1, .int x1), (3, .int x3), (4, .long x4)]) (st1 := [.int (-1 : Int32)]) (σ1 := q11.2) (by decide +kernel) rfl (fun hC => ?_)
        exact jE_loc (l := [(0, .ref 106), (1, .int x1), (3, .int x3), (4, .long x4)]) (ks := [0, 1, 3, 4]) rfl (by decide) ⟨rfl, rfl, rfl, rfl, trivial⟩ (x_r_scan_106 d hd x1 x3 x4 (-1 : Int32) q11.2 _ res h hK)
    · rw [if_neg hc] at h
      refine jE_ifF 86 hC (by decide) hc ?_
      exact jE_loc (l := [(0, .ref 106), (1, .int x1), (3, .int x3), (4, .long x4)]) (ks := [0, 1, 3, 4]) rfl (by decide) ⟨rfl, rfl, rfl, rfl, trivial⟩ (x_r_scan_80 d hd x1 x3 x4 q11.2 _ res h hK)
def p_r_scan_58 (x1 : Int32) (x3 : Int32) (x4 : Int64) (σ : jx_S) : Option ((Int32 × jx_S) ⊕ (Int32 × jx_S)) := jx_loop 100000000 (fun s => p_r_scan_58_s s.1 s.2.1 s.2.2.1 (s.2.2.2)) (x1, x3, x4, σ)
theorem x_r_scan_58 (d : Nat) (hd : 3 ≤ d) (x1 : Int32) (x3 : Int32) (x4 : Int64) (σ : jx_S) (t : ((Int32 × jx_S) ⊕ (Int32 × jx_S))) (res : Option Value × jx_S) (h : p_r_scan_58 x1 x3 x4 σ = some t) (hK : kk_r_scan_7 d t res) : jE d 153 58 [(0, .ref 106), (1, .int x1), (3, .int x3), (4, .long x4)] [] σ res := by
  refine jx_loop_ok (E := fun s t => ∀ res, kk_r_scan_7 d t res → jE d 153 58 [(0, .ref 106), (1, .int s.1), (3, .int s.2.1), (4, .long s.2.2.1)] [] s.2.2.2 res) (fun s t hs => ?_) _ _ _ h res hK
  cases t with
  | inl s1 => exact fun b hb res hk => x_r_scan_58_s d hd (s.1) (s.2.1) (s.2.2.1) (s.2.2.2) _ res hs (hb res hk)
  | inr b => exact fun res hk => x_r_scan_58_s d hd (s.1) (s.2.1) (s.2.2.1) (s.2.2.2) _ res hs hk
def p_r_scan_7_s (x1 : Int32) (σ : jx_S) : Option ((Int32 × jx_S) ⊕ (Int32 × jx_S)) := (if (σ.1 106 1) ≤ x1 then (Option.map Sum.inr (if (σ.1 106 10) < 0 ∨ 1202 ≤ ((σ.1 106 10)).toNatClampNeg then none else (if (σ.1 106 10) < 0 ∨ 1202 ≤ ((σ.1 106 10)).toNatClampNeg then none else (some (((1 : Int32), (jx_i (jx_i σ 108 ((σ.1 106 10)).toNatClampNeg (28 : Int32)) 109 ((σ.1 106 10)).toNatClampNeg (σ.1 106 1)))))))) else ((p_r_octet x1 σ).bind fun q2 => (if q2.1 = (32 : Int32) then (p_r_scan_33 x1 q2.2) else (if ¬ q2.1 = (10 : Int32) then ((p_r_signAt x1 q2.2).bind fun q3 => (if (v_r_isLetter q2.1 q3.2) = 0 then (if (v_r_isDigit q2.1 q3.2) = 0 then (if ¬ q3.1 = (21 : Int32) then (p_r_scan_200 x1 (0 : Int64) q3.1 (1 : Int32) x1 q3.2) else (p_r_scan_200 x1 (0 : Int64) q3.1 (2 : Int32) x1 q3.2)) else (p_r_scan_118 x1 x1 (0 : Int64) q3.2)) else (p_r_scan_58 x1 x1 (0 : Int64) q3.2))) else (p_r_scan_33 x1 q2.2)))))
theorem x_r_scan_7_s (d : Nat) (hd : 3 ≤ d) (x1 : Int32) (σ : jx_S) (t : ((Int32 × jx_S) ⊕ (Int32 × jx_S))) (res : Option Value × jx_S) (h : p_r_scan_7_s x1 σ = some t) (hK : kk_r_scan_7 d t res) : jE d 153 7 [(0, .ref 106), (1, .int x1)] [] σ res := by
  unfold p_r_scan_7_s at h
  refine jE_blk (bs := [(.iload_n 1, 0, 0), (.aload_n 0, 0, 0), (.getfield 231, 12, 1)]) (i := .if_icmp .ge (273)) (a1 := 0) (a2 := 0) (pc1 := 12) (l1 := [(0, .ref 106), (1, .int x1)]) (st1 := [.int (σ.1 106 1), .int x1]) (σ1 := σ) (by decide +kernel) rfl (fun hC => ?_)
  rcases Classical.em ((σ.1 106 1) ≤ x1) with hc | hc
  · rw [if_pos hc] at h
    refine jE_icT 285 hC (by decide) hc ?_
    obtain ⟨t9_1, h9_1, h8_1⟩ := Option.map_eq_some_iff.mp h
    clear h
    subst h8_1
    have h := h9_1
    clear h9_1
    refine jE_blk (bs := [(.aload_n 0, 0, 0), (.getfield 17, 12, 6), (.aload_n 0, 0, 0), (.getfield 273, 12, 10), (.bipush (28), 28, 0)]) (i := .iastore) (a1 := 0) (a2 := 0) (pc1 := 295) (l1 := [(0, .ref 106), (1, .int x1)]) (st1 := [.int (28 : Int32), .int (σ.1 106 10), .ref 108]) (σ1 := σ) (by decide +kernel) rfl (fun hC => ?_)
    obtain ⟨hi, h⟩ := jx_ite0_inv h
    refine jE_iast (n := 1202) hC (by decide) rfl hi ?_
    refine jE_blk (bs := [(.aload_n 0, 0, 0), (.getfield 20, 12, 7), (.aload_n 0, 0, 0), (.getfield 273, 12, 10), (.aload_n 0, 0, 0), (.getfield 231, 12, 1)]) (i := .iastore) (a1 := 0) (a2 := 0) (pc1 := 308) (l1 := [(0, .ref 106), (1, .int x1)]) (st1 := [.int (σ.1 106 1), .int (σ.1 106 10), .ref 109]) (σ1 := (jx_i σ 108 ((σ.1 106 10)).toNatClampNeg (28 : Int32))) (by decide +kernel) rfl (fun hC => ?_)
    obtain ⟨hi, h⟩ := jx_ite0_inv h
    refine jE_iast (n := 1202) hC (by decide) rfl hi ?_
    refine jE_blk (bs := [(.iconst (1), 1, 0)]) (i := .ireturn) (a1 := 1) (a2 := 0) (pc1 := 310) (l1 := [(0, .ref 106), (1, .int x1)]) (st1 := [.int (1 : Int32)]) (σ1 := (jx_i (jx_i σ 108 ((σ.1 106 10)).toNatClampNeg (28 : Int32)) 109 ((σ.1 106 10)).toNatClampNeg (σ.1 106 1))) (by decide +kernel) rfl (fun hC => ?_)
    have h9 := Option.some.inj h
    subst h9
    have e9 : ((some (.int (1 : Int32)), (jx_i (jx_i σ 108 ((σ.1 106 10)).toNatClampNeg (28 : Int32)) 109 ((σ.1 106 10)).toNatClampNeg (σ.1 106 1))) : Option Value × jx_S) = res := hK
    subst e9
    exact jE_ret hC rfl
  · rw [if_neg hc] at h
    refine jE_icF 285 hC (by decide) hc ?_
    refine jE_blk (bs := [(.aload_n 0, 0, 0), (.iload_n 1, 0, 0)]) (i := .invokevirtual 239) (a1 := 149) (a2 := 0) (pc1 := 17) (l1 := [(0, .ref 106), (1, .int x1)]) (st1 := [.int x1, .ref 106]) (σ1 := σ) (by decide +kernel) rfl (fun hC => ?_)
    obtain ⟨q2, hq, h⟩ := Option.bind_eq_some_iff.mp h
    refine jE_call (as := [.ref 106, .int x1]) (pc1 := 20) (st1 := []) hC rfl (by decide) (by omega) (x_r_octet (d - 1) (by omega) x1 σ q2 (some (.int q2.1), q2.2) hq rfl) ?_
    refine jE_blk (bs := [(.istore_n 2, 7, 0), (.iload_n 2, 0, 0), (.bipush (32), 32, 0)]) (i := .if_icmp .eq (9)) (a1 := 0) (a2 := 0) (pc1 := 24) (l1 := [(2, .int q2.1), (0, .ref 106), (1, .int x1)]) (st1 := [.int (32 : Int32), .int q2.1]) (σ1 := q2.2) (by decide +kernel) rfl (fun hC => ?_)
    rcases Classical.em (q2.1 = (32 : Int32)) with hc | hc
    · rw [if_pos hc] at h
      refine jE_icT 33 hC (by decide) hc ?_
      exact jE_loc (l := [(0, .ref 106), (1, .int x1)]) (ks := [0, 1]) rfl (by decide) ⟨rfl, rfl, trivial⟩ (x_r_scan_33 d hd x1 q2.2 _ res h hK)
    · rw [if_neg hc] at h
      refine jE_icF 33 hC (by decide) hc ?_
      refine jE_blk (bs := [(.iload_n 2, 0, 0), (.bipush (10), 10, 0)]) (i := .if_icmp .ne (9)) (a1 := 0) (a2 := 0) (pc1 := 30) (l1 := [(2, .int q2.1), (0, .ref 106), (1, .int x1)]) (st1 := [.int (10 : Int32), .int q2.1]) (σ1 := q2.2) (by decide +kernel) rfl (fun hC => ?_)
      rcases Classical.em (¬ q2.1 = (10 : Int32)) with hc | hc
      · rw [if_pos hc] at h
        refine jE_icT 39 hC (by decide) hc ?_
        refine jE_blk (bs := [(.iload_n 1, 0, 0), (.istore_n 3, 7, 0), (.lconst 0, 0, 0), (.lstore 4, 7, 0), (.aload_n 0, 0, 0), (.iload_n 1, 0, 0)]) (i := .invokevirtual 276) (a1 := 152) (a2 := 0) (pc1 := 46) (l1 := [(4, .long (0 : Int64)), (3, .int x1), (2, .int q2.1), (0, .ref 106), (1, .int x1)]) (st1 := [.int x1, .ref 106]) (σ1 := q2.2) (by decide +kernel) rfl (fun hC => ?_)
        obtain ⟨q3, hq, h⟩ := Option.bind_eq_some_iff.mp h
        refine jE_call (as := [.ref 106, .int x1]) (pc1 := 49) (st1 := []) hC rfl (by decide) (by omega) (x_r_signAt (d - 1) (by omega) x1 q2.2 q3 (some (.int q3.1), q3.2) hq rfl) ?_
        refine jE_blk (bs := [(.istore 6, 7, 0), (.iload_n 2, 0, 0)]) (i := .invokestatic 279) (a1 := 147) (a2 := 0) (pc1 := 52) (l1 := [(6, .int q3.1), (4, .long (0 : Int64)), (3, .int x1), (2, .int q2.1), (0, .ref 106), (1, .int x1)]) (st1 := [.int q2.1]) (σ1 := q3.2) (by decide +kernel) rfl (fun hC => ?_)
        refine jE_call (as := [.int q2.1]) (pc1 := 55) (st1 := []) hC rfl (by decide) (by omega) (xv_r_isLetter (d - 1) (by omega) q2.1 q3.2) ?_
        refine jE_blk (bs := []) (i := .ifCond .eq (56)) (a1 := 0) (a2 := 0) (pc1 := 55) (l1 := [(6, .int q3.1), (4, .long (0 : Int64)), (3, .int x1), (2, .int q2.1), (0, .ref 106), (1, .int x1)]) (st1 := [.int (v_r_isLetter q2.1 q3.2)]) (σ1 := q3.2) (by decide +kernel) rfl (fun hC => ?_)
        rcases Classical.em ((v_r_isLetter q2.1 q3.2) = 0) with hc | hc
        · rw [if_pos hc] at h
          refine jE_ifT 111 hC (by decide) hc ?_
          refine jE_blk (bs := [(.iload_n 2, 0, 0)]) (i := .invokestatic 283) (a1 := 148) (a2 := 0) (pc1 := 112) (l1 := [(6, .int q3.1), (4, .long (0 : Int64)), (3, .int x1), (2, .int q2.1), (0, .ref 106), (1, .int x1)]) (st1 := [.int q2.1]) (σ1 := q3.2) (by decide +kernel) rfl (fun hC => ?_)
          refine jE_call (as := [.int q2.1]) (pc1 := 115) (st1 := []) hC rfl (by decide) (by omega) (xv_r_isDigit (d - 1) (by omega) q2.1 q3.2) ?_
          refine jE_blk (bs := []) (i := .ifCond .eq (72)) (a1 := 0) (a2 := 0) (pc1 := 115) (l1 := [(6, .int q3.1), (4, .long (0 : Int64)), (3, .int x1), (2, .int q2.1), (0, .ref 106), (1, .int x1)]) (st1 := [.int (v_r_isDigit q2.1 q3.2)]) (σ1 := q3.2) (by decide +kernel) rfl (fun hC => ?_)
          rcases Classical.em ((v_r_isDigit q2.1 q3.2) = 0) with hc | hc
          · rw [if_pos hc] at h
            refine jE_ifT 187 hC (by decide) hc ?_
            refine jE_blk (bs := [(.iload_n 1, 0, 0), (.iload 6, 0, 0), (.bipush (21), 21, 0)]) (i := .if_icmp .ne (7)) (a1 := 0) (a2 := 0) (pc1 := 192) (l1 := [(6, .int q3.1), (4, .long (0 : Int64)), (3, .int x1), (2, .int q2.1), (0, .ref 106), (1, .int x1)]) (st1 := [.int (21 : Int32), .int q3.1, .int x1]) (σ1 := q3.2) (by decide +kernel) rfl (fun hC => ?_)
            rcases Classical.em (¬ q3.1 = (21 : Int32)) with hc | hc
            · rw [if_pos hc] at h
              refine jE_icT 199 hC (by decide) hc ?_
              refine jE_blk (bs := [(.iconst (1), 1, 0)]) (i := .iadd) (a1 := 0) (a2 := 0) (pc1 := 200) (l1 := [(6, .int q3.1), (4, .long (0 : Int64)), (3, .int x1), (2, .int q2.1), (0, .ref 106), (1, .int x1)]) (st1 := [.int (1 : Int32), .int x1]) (σ1 := q3.2) (by decide +kernel) rfl (fun hC => ?_)
              exact jE_loc (l := [(0, .ref 106), (1, .int x1), (4, .long (0 : Int64)), (6, .int q3.1)]) (ks := [0, 1, 4, 6]) rfl (by decide) ⟨rfl, rfl, rfl, rfl, trivial⟩ (x_r_scan_200 d hd x1 (0 : Int64) q3.1 (1 : Int32) x1 q3.2 _ res h hK)
            · rw [if_neg hc] at h
              refine jE_icF 199 hC (by decide) hc ?_
              refine jE_blk (bs := [(.iconst (2), 2, 0), (.goto (4), 0, 0)]) (i := .iadd) (a1 := 0) (a2 := 0) (pc1 := 200) (l1 := [(6, .int q3.1), (4, .long (0 : Int64)), (3, .int x1), (2, .int q2.1), (0, .ref 106), (1, .int x1)]) (st1 := [.int (2 : Int32), .int x1]) (σ1 := q3.2) (by decide +kernel) rfl (fun hC => ?_)
              exact jE_loc (l := [(0, .ref 106), (1, .int x1), (4, .long (0 : Int64)), (6, .int q3.1)]) (ks := [0, 1, 4, 6]) rfl (by decide) ⟨rfl, rfl, rfl, rfl, trivial⟩ (x_r_scan_200 d hd x1 (0 : Int64) q3.1 (2 : Int32) x1 q3.2 _ res h hK)
          · rw [if_neg hc] at h
            refine jE_ifF 187 hC (by decide) hc ?_
            exact jE_loc (l := [(0, .ref 106), (1, .int x1), (3, .int x1), (4, .long (0 : Int64))]) (ks := [0, 1, 3, 4]) rfl (by decide) ⟨rfl, rfl, rfl, rfl, trivial⟩ (x_r_scan_118 d hd x1 x1 (0 : Int64) q3.2 _ res h hK)
        · rw [if_neg hc] at h
          refine jE_ifF 111 hC (by decide) hc ?_
          exact jE_loc (l := [(0, .ref 106), (1, .int x1), (3, .int x1), (4, .long (0 : Int64))]) (ks := [0, 1, 3, 4]) rfl (by decide) ⟨rfl, rfl, rfl, rfl, trivial⟩ (x_r_scan_58 d hd x1 x1 (0 : Int64) q3.2 _ res h hK)
      · rw [if_neg hc] at h
        refine jE_icF 39 hC (by decide) hc ?_
        exact jE_loc (l := [(0, .ref 106), (1, .int x1)]) (ks := [0, 1]) rfl (by decide) ⟨rfl, rfl, trivial⟩ (x_r_scan_33 d hd x1 q2.2 _ res h hK)
def p_r_scan_7 (x1 : Int32) (σ : jx_S) : Option (Int32 × jx_S) := jx_loop 100000000 (fun s => p_r_scan_7_s s.1 (s.2)) (x1, σ)
theorem x_r_scan_7 (d : Nat) (hd : 3 ≤ d) (x1 : Int32) (σ : jx_S) (t : (Int32 × jx_S)) (res : Option Value × jx_S) (h : p_r_scan_7 x1 σ = some t) (hK : kkI t res) : jE d 153 7 [(0, .ref 106), (1, .int x1)] [] σ res := by
  refine jx_loop_ok (E := fun s t => ∀ res, kkI t res → jE d 153 7 [(0, .ref 106), (1, .int s.1)] [] s.2 res) (fun s t hs => ?_) _ _ _ h res hK
  cases t with
  | inl s1 => exact fun b hb res hk => x_r_scan_7_s d hd (s.1) (s.2) _ res hs (hb res hk)
  | inr b => exact fun res hk => x_r_scan_7_s d hd (s.1) (s.2) _ res hs hk
def p_r_scan (σ : jx_S) : Option (Int32 × jx_S) := (p_r_scan_7 (0 : Int32) (jx_i σ 106 10 (0 : Int32)))
theorem x_r_scan (d : Nat) (hd : 3 ≤ d) (σ : jx_S) (t : (Int32 × jx_S)) (res : Option Value × jx_S) (h : p_r_scan σ = some t) (hK : kkI t res) : jE d 153 0 [(0, .ref 106)] [] σ res := by
  unfold p_r_scan at h
  refine jE_blk (bs := [(.aload_n 0, 0, 0), (.iconst (0), 0, 0), (.putfield 273, 12, 10), (.iconst (0), 0, 0), (.istore_n 1, 7, 0)]) (i := .iload_n 1) (a1 := 0) (a2 := 0) (pc1 := 7) (l1 := [(1, .int (0 : Int32)), (0, .ref 106)]) (st1 := []) (σ1 := (jx_i σ 106 10 (0 : Int32))) (by decide +kernel) rfl (fun hC => ?_)
  exact jE_loc (l := [(0, .ref 106), (1, .int (0 : Int32))]) (ks := [0, 1]) rfl (by decide) ⟨rfl, rfl, trivial⟩ (x_r_scan_7 d hd (0 : Int32) (jx_i σ 106 10 (0 : Int32)) _ res h hK)
def kk_r_isSame_24 (d : Nat) (t : ((Int32 × Int32 × Int32 × Int32 × jx_S) ⊕ (Int32 × jx_S))) (res : Option Value × jx_S) : Prop := match t with
  | .inl s => jE d 154 24 [(0, .ref 106), (1, .int s.1), (2, .int s.2.1), (3, .int s.2.2.1), (4, .int s.2.2.2.1)] [] s.2.2.2.2 res
  | .inr t => kkI t res
def p_r_isSame_75 (x1 : Int32) (x2 : Int32) (x4 : Int32) (y0 : Int32) (σ : jx_S) : Option ((Int32 × Int32 × Int32 × Int32 × jx_S) ⊕ (Int32 × jx_S)) := (some (.inl (x1, x2, y0, (x4 + 1), σ)))
theorem x_r_isSame_75 (d : Nat) (hd : 0 ≤ d) (x1 : Int32) (x2 : Int32) (x4 : Int32) (y0 : Int32) (σ : jx_S) (t : ((Int32 × Int32 × Int32 × Int32 × jx_S) ⊕ (Int32 × jx_S))) (res : Option Value × jx_S) (h : p_r_isSame_75 x1 x2 x4 y0 σ = some t) (hK : kk_r_isSame_24 d t res) : jE d 154 75 [(0, .ref 106), (1, .int x1), (2, .int x2), (4, .int x4)] [.int y0] σ res := by
  unfold p_r_isSame_75 at h
  refine jE_blk (bs := [(.istore_n 3, 5, 0), (.iinc 4 (1), 5, 2), (.goto (-55), 0, 0)]) (i := .iload 4) (a1 := 0) (a2 := 0) (pc1 := 24) (l1 := [(4, .int (x4 + 1)), (3, .int y0), (0, .ref 106), (1, .int x1), (2, .int x2)]) (st1 := []) (σ1 := σ) (by decide +kernel) rfl (fun hC => ?_)
  have h9 := Option.some.inj h
  subst h9
  exact jE_loc (l := [(0, .ref 106), (1, .int x1), (2, .int x2), (3, .int y0), (4, .int (x4 + 1))]) (ks := [0, 1, 2, 3, 4]) rfl (by decide) ⟨rfl, rfl, rfl, rfl, rfl, trivial⟩ hK
def p_r_isSame_24_s (x1 : Int32) (x2 : Int32) (x3 : Int32) (x4 : Int32) (σ : jx_S) : Option ((Int32 × Int32 × Int32 × Int32 × jx_S) ⊕ (Int32 × jx_S)) := (if x1 < 0 ∨ 1202 ≤ (x1).toNatClampNeg then none else (if ((σ.1 110) (x1).toNatClampNeg) ≤ x4 then (Option.map Sum.inr (if x3 = 0 ∨ x3 = 1 then (some ((x3, σ))) else none)) else (if x3 = 0 then (Option.map Sum.inr (if x3 = 0 ∨ x3 = 1 then (some ((x3, σ))) else none)) else (if x1 < 0 ∨ 1202 ≤ (x1).toNatClampNeg then none else (if (((σ.1 109) (x1).toNatClampNeg) + x4) < 0 ∨ 4000 ≤ ((((σ.1 109) (x1).toNatClampNeg) + x4)).toNatClampNeg then none else (if x2 < 0 ∨ 1202 ≤ (x2).toNatClampNeg then none else (if (((σ.1 109) (x2).toNatClampNeg) + x4) < 0 ∨ 4000 ≤ ((((σ.1 109) (x2).toNatClampNeg) + x4)).toNatClampNeg then none else (if ¬ ((σ.1 107) ((((σ.1 109) (x1).toNatClampNeg) + x4)).toNatClampNeg) = ((σ.1 107) ((((σ.1 109) (x2).toNatClampNeg) + x4)).toNatClampNeg) then (p_r_isSame_75 x1 x2 x4 (0 : Int32) σ) else (p_r_isSame_75 x1 x2 x4 (1 : Int32) σ)))))))))
theorem x_r_isSame_24_s (d : Nat) (hd : 0 ≤ d) (x1 : Int32) (x2 : Int32) (x3 : Int32) (x4 : Int32) (σ : jx_S) (t : ((Int32 × Int32 × Int32 × Int32 × jx_S) ⊕ (Int32 × jx_S))) (res : Option Value × jx_S) (h : p_r_isSame_24_s x1 x2 x3 x4 σ = some t) (hK : kk_r_isSame_24 d t res) : jE d 154 24 [(0, .ref 106), (1, .int x1), (2, .int x2), (3, .int x3), (4, .int x4)] [] σ res := by
  unfold p_r_isSame_24_s at h
  refine jE_blk (bs := [(.iload 4, 0, 0), (.aload_n 0, 0, 0), (.getfield 23, 12, 8), (.iload_n 1, 0, 0)]) (i := .iaload) (a1 := 0) (a2 := 0) (pc1 := 31) (l1 := [(0, .ref 106), (1, .int x1), (2, .int x2), (3, .int x3), (4, .int x4)]) (st1 := [.int x1, .ref 110, .int x4]) (σ1 := σ) (by decide +kernel) rfl (fun hC => ?_)
  obtain ⟨hi, h⟩ := jx_ite0_inv h
  refine jE_iald (n := 1202) hC (by decide) rfl hi ?_
  refine jE_blk (bs := []) (i := .if_icmp .ge (50)) (a1 := 0) (a2 := 0) (pc1 := 32) (l1 := [(0, .ref 106), (1, .int x1), (2, .int x2), (3, .int x3), (4, .int x4)]) (st1 := [.int ((σ.1 110) (x1).toNatClampNeg), .int x4]) (σ1 := σ) (by decide +kernel) rfl (fun hC => ?_)
  rcases Classical.em (((σ.1 110) (x1).toNatClampNeg) ≤ x4) with hc | hc
  · rw [if_pos hc] at h
    refine jE_icT 82 hC (by decide) hc ?_
    obtain ⟨t9_1, h9_1, h8_1⟩ := Option.map_eq_some_iff.mp h
    clear h
    subst h8_1
    have h := h9_1
    clear h9_1
    refine jE_blk (bs := [(.iload_n 3, 0, 0)]) (i := .ireturn) (a1 := 1) (a2 := 0) (pc1 := 83) (l1 := [(0, .ref 106), (1, .int x1), (2, .int x2), (3, .int x3), (4, .int x4)]) (st1 := [.int x3]) (σ1 := σ) (by decide +kernel) rfl (fun hC => ?_)
    obtain ⟨hb, h⟩ := jx_ite_inv h
    have h9 := Option.some.inj h
    subst h9
    have e9 : ((some (.int x3), σ) : Option Value × jx_S) = res := hK
    subst e9
    exact jE_bret hC hb
  · rw [if_neg hc] at h
    refine jE_icF 82 hC (by decide) hc ?_
    refine jE_blk (bs := [(.iload_n 3, 0, 0)]) (i := .ifCond .eq (46)) (a1 := 0) (a2 := 0) (pc1 := 36) (l1 := [(0, .ref 106), (1, .int x1), (2, .int x2), (3, .int x3), (4, .int x4)]) (st1 := [.int x3]) (σ1 := σ) (by decide +kernel) rfl (fun hC => ?_)
    rcases Classical.em (x3 = 0) with hc | hc
    · rw [if_pos hc] at h
      refine jE_ifT 82 hC (by decide) hc ?_
      obtain ⟨t9_2, h9_2, h8_2⟩ := Option.map_eq_some_iff.mp h
      clear h
      subst h8_2
      have h := h9_2
      clear h9_2
      refine jE_blk (bs := [(.iload_n 3, 0, 0)]) (i := .ireturn) (a1 := 1) (a2 := 0) (pc1 := 83) (l1 := [(0, .ref 106), (1, .int x1), (2, .int x2), (3, .int x3), (4, .int x4)]) (st1 := [.int x3]) (σ1 := σ) (by decide +kernel) rfl (fun hC => ?_)
      obtain ⟨hb, h⟩ := jx_ite_inv h
      have h9 := Option.some.inj h
      subst h9
      have e9 : ((some (.int x3), σ) : Option Value × jx_S) = res := hK
      subst e9
      exact jE_bret hC hb
    · rw [if_neg hc] at h
      refine jE_ifF 82 hC (by decide) hc ?_
      refine jE_blk (bs := [(.aload_n 0, 0, 0), (.getfield 7, 12, 0), (.aload_n 0, 0, 0), (.getfield 20, 12, 7), (.iload_n 1, 0, 0)]) (i := .iaload) (a1 := 0) (a2 := 0) (pc1 := 48) (l1 := [(0, .ref 106), (1, .int x1), (2, .int x2), (3, .int x3), (4, .int x4)]) (st1 := [.int x1, .ref 109, .ref 107]) (σ1 := σ) (by decide +kernel) rfl (fun hC => ?_)
      obtain ⟨hi, h⟩ := jx_ite0_inv h
      refine jE_iald (n := 1202) hC (by decide) rfl hi ?_
      refine jE_blk (bs := [(.iload 4, 0, 0), (.iadd, 0, 0)]) (i := .iaload) (a1 := 0) (a2 := 0) (pc1 := 52) (l1 := [(0, .ref 106), (1, .int x1), (2, .int x2), (3, .int x3), (4, .int x4)]) (st1 := [.int (((σ.1 109) (x1).toNatClampNeg) + x4), .ref 107]) (σ1 := σ) (by decide +kernel) rfl (fun hC => ?_)
      obtain ⟨hi, h⟩ := jx_ite0_inv h
      refine jE_iald (n := 4000) hC (by decide) rfl hi ?_
      refine jE_blk (bs := [(.aload_n 0, 0, 0), (.getfield 7, 12, 0), (.aload_n 0, 0, 0), (.getfield 20, 12, 7), (.iload_n 2, 0, 0)]) (i := .iaload) (a1 := 0) (a2 := 0) (pc1 := 62) (l1 := [(0, .ref 106), (1, .int x1), (2, .int x2), (3, .int x3), (4, .int x4)]) (st1 := [.int x2, .ref 109, .ref 107, .int ((σ.1 107) ((((σ.1 109) (x1).toNatClampNeg) + x4)).toNatClampNeg)]) (σ1 := σ) (by decide +kernel) rfl (fun hC => ?_)
      obtain ⟨hi, h⟩ := jx_ite0_inv h
      refine jE_iald (n := 1202) hC (by decide) rfl hi ?_
      refine jE_blk (bs := [(.iload 4, 0, 0), (.iadd, 0, 0)]) (i := .iaload) (a1 := 0) (a2 := 0) (pc1 := 66) (l1 := [(0, .ref 106), (1, .int x1), (2, .int x2), (3, .int x3), (4, .int x4)]) (st1 := [.int (((σ.1 109) (x2).toNatClampNeg) + x4), .ref 107, .int ((σ.1 107) ((((σ.1 109) (x1).toNatClampNeg) + x4)).toNatClampNeg)]) (σ1 := σ) (by decide +kernel) rfl (fun hC => ?_)
      obtain ⟨hi, h⟩ := jx_ite0_inv h
      refine jE_iald (n := 4000) hC (by decide) rfl hi ?_
      refine jE_blk (bs := []) (i := .if_icmp .ne (7)) (a1 := 0) (a2 := 0) (pc1 := 67) (l1 := [(0, .ref 106), (1, .int x1), (2, .int x2), (3, .int x3), (4, .int x4)]) (st1 := [.int ((σ.1 107) ((((σ.1 109) (x2).toNatClampNeg) + x4)).toNatClampNeg), .int ((σ.1 107) ((((σ.1 109) (x1).toNatClampNeg) + x4)).toNatClampNeg)]) (σ1 := σ) (by decide +kernel) rfl (fun hC => ?_)
      rcases Classical.em (¬ ((σ.1 107) ((((σ.1 109) (x1).toNatClampNeg) + x4)).toNatClampNeg) = ((σ.1 107) ((((σ.1 109) (x2).toNatClampNeg) + x4)).toNatClampNeg)) with hc | hc
      · rw [if_pos hc] at h
        refine jE_icT 74 hC (by decide) hc ?_
        refine jE_blk (bs := [(.iconst (0), 0, 0)]) (i := .istore_n 3) (a1 := 5) (a2 := 0) (pc1 := 75) (l1 := [(0, .ref 106), (1, .int x1), (2, .int x2), (3, .int x3), (4, .int x4)]) (st1 := [.int (0 : Int32)]) (σ1 := σ) (by decide +kernel) rfl (fun hC => ?_)
        exact jE_loc (l := [(0, .ref 106), (1, .int x1), (2, .int x2), (4, .int x4)]) (ks := [0, 1, 2, 4]) rfl (by decide) ⟨rfl, rfl, rfl, rfl, trivial⟩ (x_r_isSame_75 d hd x1 x2 x4 (0 : Int32) σ _ res h hK)
      · rw [if_neg hc] at h
        refine jE_icF 74 hC (by decide) hc ?_
        refine jE_blk (bs := [(.iconst (1), 1, 0), (.goto (4), 0, 0)]) (i := .istore_n 3) (a1 := 5) (a2 := 0) (pc1 := 75) (l1 := [(0, .ref 106), (1, .int x1), (2, .int x2), (3, .int x3), (4, .int x4)]) (st1 := [.int (1 : Int32)]) (σ1 := σ) (by decide +kernel) rfl (fun hC => ?_)
        exact jE_loc (l := [(0, .ref 106), (1, .int x1), (2, .int x2), (4, .int x4)]) (ks := [0, 1, 2, 4]) rfl (by decide) ⟨rfl, rfl, rfl, rfl, trivial⟩ (x_r_isSame_75 d hd x1 x2 x4 (1 : Int32) σ _ res h hK)
def p_r_isSame_24 (x1 : Int32) (x2 : Int32) (x3 : Int32) (x4 : Int32) (σ : jx_S) : Option (Int32 × jx_S) := jx_loop 100000000 (fun s => p_r_isSame_24_s s.1 s.2.1 s.2.2.1 s.2.2.2.1 (s.2.2.2.2)) (x1, x2, x3, x4, σ)
theorem x_r_isSame_24 (d : Nat) (hd : 0 ≤ d) (x1 : Int32) (x2 : Int32) (x3 : Int32) (x4 : Int32) (σ : jx_S) (t : (Int32 × jx_S)) (res : Option Value × jx_S) (h : p_r_isSame_24 x1 x2 x3 x4 σ = some t) (hK : kkI t res) : jE d 154 24 [(0, .ref 106), (1, .int x1), (2, .int x2), (3, .int x3), (4, .int x4)] [] σ res := by
  refine jx_loop_ok (E := fun s t => ∀ res, kkI t res → jE d 154 24 [(0, .ref 106), (1, .int s.1), (2, .int s.2.1), (3, .int s.2.2.1), (4, .int s.2.2.2.1)] [] s.2.2.2.2 res) (fun s t hs => ?_) _ _ _ h res hK
  cases t with
  | inl s1 => exact fun b hb res hk => x_r_isSame_24_s d hd (s.1) (s.2.1) (s.2.2.1) (s.2.2.2.1) (s.2.2.2.2) _ res hs (hb res hk)
  | inr b => exact fun res hk => x_r_isSame_24_s d hd (s.1) (s.2.1) (s.2.2.1) (s.2.2.2.1) (s.2.2.2.2) _ res hs hk
def p_r_isSame_20 (x1 : Int32) (x2 : Int32) (y0 : Int32) (σ : jx_S) : Option (Int32 × jx_S) := (p_r_isSame_24 x1 x2 y0 (0 : Int32) σ)
theorem x_r_isSame_20 (d : Nat) (hd : 0 ≤ d) (x1 : Int32) (x2 : Int32) (y0 : Int32) (σ : jx_S) (t : (Int32 × jx_S)) (res : Option Value × jx_S) (h : p_r_isSame_20 x1 x2 y0 σ = some t) (hK : kkI t res) : jE d 154 20 [(0, .ref 106), (1, .int x1), (2, .int x2)] [.int y0] σ res := by
  unfold p_r_isSame_20 at h
  refine jE_blk (bs := [(.istore_n 3, 5, 0), (.iconst (0), 0, 0), (.istore 4, 5, 0)]) (i := .iload 4) (a1 := 0) (a2 := 0) (pc1 := 24) (l1 := [(4, .int (0 : Int32)), (3, .int y0), (0, .ref 106), (1, .int x1), (2, .int x2)]) (st1 := []) (σ1 := σ) (by decide +kernel) rfl (fun hC => ?_)
  exact jE_loc (l := [(0, .ref 106), (1, .int x1), (2, .int x2), (3, .int y0), (4, .int (0 : Int32))]) (ks := [0, 1, 2, 3, 4]) rfl (by decide) ⟨rfl, rfl, rfl, rfl, rfl, trivial⟩ (x_r_isSame_24 d hd x1 x2 y0 (0 : Int32) σ _ res h hK)
def p_r_isSame (x1 : Int32) (x2 : Int32) (σ : jx_S) : Option (Int32 × jx_S) := (if x1 < 0 ∨ 1202 ≤ (x1).toNatClampNeg then none else (if x2 < 0 ∨ 1202 ≤ (x2).toNatClampNeg then none else (if ¬ ((σ.1 110) (x1).toNatClampNeg) = ((σ.1 110) (x2).toNatClampNeg) then (p_r_isSame_20 x1 x2 (0 : Int32) σ) else (p_r_isSame_20 x1 x2 (1 : Int32) σ))))
theorem x_r_isSame (d : Nat) (hd : 0 ≤ d) (x1 : Int32) (x2 : Int32) (σ : jx_S) (t : (Int32 × jx_S)) (res : Option Value × jx_S) (h : p_r_isSame x1 x2 σ = some t) (hK : kkI t res) : jE d 154 0 [(0, .ref 106), (1, .int x1), (2, .int x2)] [] σ res := by
  unfold p_r_isSame at h
  refine jE_blk (bs := [(.aload_n 0, 0, 0), (.getfield 23, 12, 8), (.iload_n 1, 0, 0)]) (i := .iaload) (a1 := 0) (a2 := 0) (pc1 := 5) (l1 := [(0, .ref 106), (1, .int x1), (2, .int x2)]) (st1 := [.int x1, .ref 110]) (σ1 := σ) (by decide +kernel) rfl (fun hC => ?_)
  obtain ⟨hi, h⟩ := jx_ite0_inv h
  refine jE_iald (n := 1202) hC (by decide) rfl hi ?_
  refine jE_blk (bs := [(.aload_n 0, 0, 0), (.getfield 23, 12, 8), (.iload_n 2, 0, 0)]) (i := .iaload) (a1 := 0) (a2 := 0) (pc1 := 11) (l1 := [(0, .ref 106), (1, .int x1), (2, .int x2)]) (st1 := [.int x2, .ref 110, .int ((σ.1 110) (x1).toNatClampNeg)]) (σ1 := σ) (by decide +kernel) rfl (fun hC => ?_)
  obtain ⟨hi, h⟩ := jx_ite0_inv h
  refine jE_iald (n := 1202) hC (by decide) rfl hi ?_
  refine jE_blk (bs := []) (i := .if_icmp .ne (7)) (a1 := 0) (a2 := 0) (pc1 := 12) (l1 := [(0, .ref 106), (1, .int x1), (2, .int x2)]) (st1 := [.int ((σ.1 110) (x2).toNatClampNeg), .int ((σ.1 110) (x1).toNatClampNeg)]) (σ1 := σ) (by decide +kernel) rfl (fun hC => ?_)
  rcases Classical.em (¬ ((σ.1 110) (x1).toNatClampNeg) = ((σ.1 110) (x2).toNatClampNeg)) with hc | hc
  · rw [if_pos hc] at h
    refine jE_icT 19 hC (by decide) hc ?_
    refine jE_blk (bs := [(.iconst (0), 0, 0)]) (i := .istore_n 3) (a1 := 5) (a2 := 0) (pc1 := 20) (l1 := [(0, .ref 106), (1, .int x1), (2, .int x2)]) (st1 := [.int (0 : Int32)]) (σ1 := σ) (by decide +kernel) rfl (fun hC => ?_)
    exact jE_loc (l := [(0, .ref 106), (1, .int x1), (2, .int x2)]) (ks := [0, 1, 2]) rfl (by decide) ⟨rfl, rfl, rfl, trivial⟩ (x_r_isSame_20 d hd x1 x2 (0 : Int32) σ _ res h hK)
  · rw [if_neg hc] at h
    refine jE_icF 19 hC (by decide) hc ?_
    refine jE_blk (bs := [(.iconst (1), 1, 0), (.goto (4), 0, 0)]) (i := .istore_n 3) (a1 := 5) (a2 := 0) (pc1 := 20) (l1 := [(0, .ref 106), (1, .int x1), (2, .int x2)]) (st1 := [.int (1 : Int32)]) (σ1 := σ) (by decide +kernel) rfl (fun hC => ?_)
    exact jE_loc (l := [(0, .ref 106), (1, .int x1), (2, .int x2)]) (ks := [0, 1, 2]) rfl (by decide) ⟨rfl, rfl, rfl, trivial⟩ (x_r_isSame_20 d hd x1 x2 (1 : Int32) σ _ res h hK)
