def kk_cRea_readSum_8 (d : Nat) (t : ((Int32 × Int32 × Int32 × jx_S) ⊕ (Int32 × jx_S))) (res : Option Value × jx_S) : Prop := match t with
  | .inl s => jE d 54 8 [(0, .ref 5), (1, .int s.1), (2, .int s.2.1), (3, .int s.2.2.1)] [] s.2.2.2 res
  | .inr t => kkI t res
def p_cRea_readSum_32 (rec : (Int32 → jx_S → Option (Int32 × jx_S))) (x1 : Int32) (x2 : Int32) (x3 : Int32) (σ : jx_S) : Option ((Int32 × Int32 × Int32 × jx_S) ⊕ (Int32 × jx_S)) := ((p_cRea_passSign x3 σ).bind fun q3 => ((p_cRea_readTerm rec x1 q3.2).bind fun q4 => ((p_cRea_addNode q3.1 (σ.1 5 6) (0 : Int32) x2 q4.1 (0 : Int32) q4.2).bind fun q5 => (some (.inl (x1, q5.1, (x3 + 1), q5.2))))))
theorem x_cRea_readSum_32 (d : Nat) (rec : (Int32 → jx_S → Option (Int32 × jx_S))) (Dr : Nat) (hrec : ∀ z0 s r, rec z0 s = some r → jE Dr 49 0 (lv_args 0 [.ref 5, .int z0]) [] s (some (.int r.1), r.2)) (hd : Dr + 7 ≤ d) (x1 : Int32) (x2 : Int32) (x3 : Int32) (σ : jx_S) (t : ((Int32 × Int32 × Int32 × jx_S) ⊕ (Int32 × jx_S))) (res : Option Value × jx_S) (h : p_cRea_readSum_32 rec x1 x2 x3 σ = some t) (hK : kk_cRea_readSum_8 d t res) : jE d 54 32 [(0, .ref 5), (1, .int x1), (2, .int x2), (3, .int x3)] [] σ res := by
  unfold p_cRea_readSum_32 at h
  refine jE_blk (bs := [(.aload_n 0, 0, 0), (.getfield 36, 5, 6), (.istore 4, 6, 0), (.aload_n 0, 0, 0), (.iload_n 3, 0, 0)]) (i := .invokevirtual 146) (a1 := 65) (a2 := 0) (pc1 := 40) (l1 := [(4, .int (σ.1 5 6)), (0, .ref 5), (1, .int x1), (2, .int x2), (3, .int x3)]) (st1 := [.int x3, .ref 5]) (σ1 := σ) (by decide +kernel) rfl (fun hC => ?_)
  obtain ⟨q3, hq, h⟩ := Option.bind_eq_some_iff.mp h
  refine jE_call (as := [.ref 5, .int x3]) (pc1 := 43) (st1 := []) hC rfl (by decide) (by omega) (x_cRea_passSign (d - 1) (by omega) x3 σ q3 (some (.int q3.1), q3.2) hq rfl) ?_
  refine jE_blk (bs := [(.istore 5, 6, 0), (.aload_n 0, 0, 0), (.iload 5, 0, 0), (.iload 4, 0, 0), (.iconst (0), 0, 0), (.iload_n 2, 0, 0), (.aload_n 0, 0, 0), (.iload_n 1, 0, 0)]) (i := .invokevirtual 143) (a1 := 55) (a2 := 0) (pc1 := 54) (l1 := [(5, .int q3.1), (4, .int (σ.1 5 6)), (0, .ref 5), (1, .int x1), (2, .int x2), (3, .int x3)]) (st1 := [.int x1, .ref 5, .int x2, .int (0 : Int32), .int (σ.1 5 6), .int q3.1, .ref 5]) (σ1 := q3.2) (by decide +kernel) rfl (fun hC => ?_)
  obtain ⟨q4, hq, h⟩ := Option.bind_eq_some_iff.mp h
  refine jE_call (as := [.ref 5, .int x1]) (pc1 := 57) (st1 := [.int x2, .int (0 : Int32), .int (σ.1 5 6), .int q3.1, .ref 5]) hC rfl (by decide) (by omega) (x_cRea_readTerm (d - 1) rec Dr hrec (by omega) x1 q3.2 q4 (some (.int q4.1), q4.2) hq rfl) ?_
  refine jE_blk (bs := [(.iconst (0), 0, 0)]) (i := .invokevirtual 136) (a1 := 60) (a2 := 0) (pc1 := 58) (l1 := [(5, .int q3.1), (4, .int (σ.1 5 6)), (0, .ref 5), (1, .int x1), (2, .int x2), (3, .int x3)]) (st1 := [.int (0 : Int32), .int q4.1, .int x2, .int (0 : Int32), .int (σ.1 5 6), .int q3.1, .ref 5]) (σ1 := q4.2) (by decide +kernel) rfl (fun hC => ?_)
  obtain ⟨q5, hq, h⟩ := Option.bind_eq_some_iff.mp h
  refine jE_call (as := [.ref 5, .int q3.1, .int (σ.1 5 6), .int (0 : Int32), .int x2, .int q4.1, .int (0 : Int32)]) (pc1 := 61) (st1 := []) hC rfl (by decide) (by omega) (x_cRea_addNode (d - 1) (by omega) q3.1 (σ.1 5 6) (0 : Int32) x2 q4.1 (0 : Int32) q4.2 q5 (some (.int q5.1), q5.2) hq rfl) ?_
  refine jE_blk (bs := [(.istore_n 2, 6, 0), (.iinc 3 (1), 6, 2), (.goto (-57), 0, 0)]) (i := .iload_n 3) (a1 := 0) (a2 := 0) (pc1 := 8) (l1 := [(3, .int (x3 + 1)), (2, .int q5.1), (5, .int q3.1), (4, .int (σ.1 5 6)), (0, .ref 5), (1, .int x1)]) (st1 := []) (σ1 := q5.2) (by decide +kernel) rfl (fun hC => ?_)
  have h9 := Option.some.inj h
  subst h9
  exact jE_loc (l := [(0, .ref 5), (1, .int x1), (2, .int q5.1), (3, .int (x3 + 1))]) (ks := [0, 1, 2, 3]) rfl (by decide) ⟨rfl, rfl, rfl, rfl, trivial⟩ hK
def p_cRea_readSum_8_s (rec : (Int32 → jx_S → Option (Int32 × jx_S))) (x1 : Int32) (x2 : Int32) (x3 : Int32) (σ : jx_S) : Option ((Int32 × Int32 × Int32 × jx_S) ⊕ (Int32 × jx_S)) := (if (10 : Int32) < x3 then (Option.map Sum.inr (some ((x2, σ)))) else (if (v_cRea_kind σ) = (23 : Int32) then (p_cRea_readSum_32 rec x1 x2 x3 σ) else (if ¬ (v_cRea_kind σ) = (24 : Int32) then (Option.map Sum.inr (some ((x2, σ)))) else (p_cRea_readSum_32 rec x1 x2 x3 σ))))
theorem x_cRea_readSum_8_s (d : Nat) (rec : (Int32 → jx_S → Option (Int32 × jx_S))) (Dr : Nat) (hrec : ∀ z0 s r, rec z0 s = some r → jE Dr 49 0 (lv_args 0 [.ref 5, .int z0]) [] s (some (.int r.1), r.2)) (hd : Dr + 7 ≤ d) (x1 : Int32) (x2 : Int32) (x3 : Int32) (σ : jx_S) (t : ((Int32 × Int32 × Int32 × jx_S) ⊕ (Int32 × jx_S))) (res : Option Value × jx_S) (h : p_cRea_readSum_8_s rec x1 x2 x3 σ = some t) (hK : kk_cRea_readSum_8 d t res) : jE d 54 8 [(0, .ref 5), (1, .int x1), (2, .int x2), (3, .int x3)] [] σ res := by
  unfold p_cRea_readSum_8_s at h
  refine jE_blk (bs := [(.iload_n 3, 0, 0), (.bipush (10), 10, 0)]) (i := .if_icmp .gt (57)) (a1 := 0) (a2 := 0) (pc1 := 11) (l1 := [(0, .ref 5), (1, .int x1), (2, .int x2), (3, .int x3)]) (st1 := [.int (10 : Int32), .int x3]) (σ1 := σ) (by decide +kernel) rfl (fun hC => ?_)
  rcases Classical.em ((10 : Int32) < x3) with hc | hc
  · rw [if_pos hc] at h
    refine jE_icT 68 hC (by decide) hc ?_
    obtain ⟨t9_2, h9_2, h8_2⟩ := Option.map_eq_some_iff.mp h
    clear h
    subst h8_2
    have h := h9_2
    clear h9_2
    refine jE_blk (bs := [(.iload_n 2, 0, 0)]) (i := .ireturn) (a1 := 0) (a2 := 0) (pc1 := 69) (l1 := [(0, .ref 5), (1, .int x1), (2, .int x2), (3, .int x3)]) (st1 := [.int x2]) (σ1 := σ) (by decide +kernel) rfl (fun hC => ?_)
    have h9 := Option.some.inj h
    subst h9
    have e9 : ((some (.int x2), σ) : Option Value × jx_S) = res := hK
    subst e9
    exact jE_ret hC rfl
  · rw [if_neg hc] at h
    refine jE_icF 68 hC (by decide) hc ?_
    refine jE_blk (bs := [(.aload_n 0, 0, 0)]) (i := .invokevirtual 48) (a1 := 64) (a2 := 0) (pc1 := 15) (l1 := [(0, .ref 5), (1, .int x1), (2, .int x2), (3, .int x3)]) (st1 := [.ref 5]) (σ1 := σ) (by decide +kernel) rfl (fun hC => ?_)
    refine jE_call (as := [.ref 5]) (pc1 := 18) (st1 := []) hC rfl (by decide) (by omega) (xv_cRea_kind (d - 1) (by omega) σ) ?_
    refine jE_blk (bs := [(.bipush (23), 23, 0)]) (i := .if_icmp .eq (12)) (a1 := 0) (a2 := 0) (pc1 := 20) (l1 := [(0, .ref 5), (1, .int x1), (2, .int x2), (3, .int x3)]) (st1 := [.int (23 : Int32), .int (v_cRea_kind σ)]) (σ1 := σ) (by decide +kernel) rfl (fun hC => ?_)
    rcases Classical.em ((v_cRea_kind σ) = (23 : Int32)) with hc | hc
    · rw [if_pos hc] at h
      refine jE_icT 32 hC (by decide) hc ?_
      exact jE_loc (l := [(0, .ref 5), (1, .int x1), (2, .int x2), (3, .int x3)]) (ks := [0, 1, 2, 3]) rfl (by decide) ⟨rfl, rfl, rfl, rfl, trivial⟩ (x_cRea_readSum_32 d rec Dr hrec hd x1 x2 x3 σ _ res h hK)
    · rw [if_neg hc] at h
      refine jE_icF 32 hC (by decide) hc ?_
      refine jE_blk (bs := [(.aload_n 0, 0, 0)]) (i := .invokevirtual 48) (a1 := 64) (a2 := 0) (pc1 := 24) (l1 := [(0, .ref 5), (1, .int x1), (2, .int x2), (3, .int x3)]) (st1 := [.ref 5]) (σ1 := σ) (by decide +kernel) rfl (fun hC => ?_)
      refine jE_call (as := [.ref 5]) (pc1 := 27) (st1 := []) hC rfl (by decide) (by omega) (xv_cRea_kind (d - 1) (by omega) σ) ?_
      refine jE_blk (bs := [(.bipush (24), 24, 0)]) (i := .if_icmp .ne (39)) (a1 := 0) (a2 := 0) (pc1 := 29) (l1 := [(0, .ref 5), (1, .int x1), (2, .int x2), (3, .int x3)]) (st1 := [.int (24 : Int32), .int (v_cRea_kind σ)]) (σ1 := σ) (by decide +kernel) rfl (fun hC => ?_)
      rcases Classical.em (¬ (v_cRea_kind σ) = (24 : Int32)) with hc | hc
      · rw [if_pos hc] at h
        refine jE_icT 68 hC (by decide) hc ?_
        obtain ⟨t9_6, h9_6, h8_6⟩ := Option.map_eq_some_iff.mp h
        clear h
        subst h8_6
        have h := h9_6
        clear h9_6
        refine jE_blk (bs := [(.iload_n 2, 0, 0)]) (i := .ireturn) (a1 := 0) (a2 := 0) (pc1 := 69) (l1 := [(0, .ref 5), (1, .int x1), (2, .int x2), (3, .int x3)]) (st1 := [.int x2]) (σ1 := σ) (by decide +kernel) rfl (fun hC => ?_)
        have h9 := Option.some.inj h
        subst h9
        have e9 : ((some (.int x2), σ) : Option Value × jx_S) = res := hK
        subst e9
        exact jE_ret hC rfl
      · rw [if_neg hc] at h
        refine jE_icF 68 hC (by decide) hc ?_
        exact jE_loc (l := [(0, .ref 5), (1, .int x1), (2, .int x2), (3, .int x3)]) (ks := [0, 1, 2, 3]) rfl (by decide) ⟨rfl, rfl, rfl, rfl, trivial⟩ (x_cRea_readSum_32 d rec Dr hrec hd x1 x2 x3 σ _ res h hK)
def p_cRea_readSum_8 (rec : (Int32 → jx_S → Option (Int32 × jx_S))) (x1 : Int32) (x2 : Int32) (x3 : Int32) (σ : jx_S) : Option (Int32 × jx_S) := jx_loop 100000000 (fun s => p_cRea_readSum_8_s rec s.1 s.2.1 s.2.2.1 (s.2.2.2)) (x1, x2, x3, σ)
theorem x_cRea_readSum_8 (d : Nat) (rec : (Int32 → jx_S → Option (Int32 × jx_S))) (Dr : Nat) (hrec : ∀ z0 s r, rec z0 s = some r → jE Dr 49 0 (lv_args 0 [.ref 5, .int z0]) [] s (some (.int r.1), r.2)) (hd : Dr + 7 ≤ d) (x1 : Int32) (x2 : Int32) (x3 : Int32) (σ : jx_S) (t : (Int32 × jx_S)) (res : Option Value × jx_S) (h : p_cRea_readSum_8 rec x1 x2 x3 σ = some t) (hK : kkI t res) : jE d 54 8 [(0, .ref 5), (1, .int x1), (2, .int x2), (3, .int x3)] [] σ res := by
  refine jx_loop_ok (E := fun s t => ∀ res, kkI t res → jE d 54 8 [(0, .ref 5), (1, .int s.1), (2, .int s.2.1), (3, .int s.2.2.1)] [] s.2.2.2 res) (fun s t hs => ?_) _ _ _ h res hK
  cases t with
  | inl s1 => exact fun b hb res hk => x_cRea_readSum_8_s d rec Dr hrec hd (s.1) (s.2.1) (s.2.2.1) (s.2.2.2) _ res hs (hb res hk)
  | inr b => exact fun res hk => x_cRea_readSum_8_s d rec Dr hrec hd (s.1) (s.2.1) (s.2.2.1) (s.2.2.2) _ res hs hk
def p_cRea_readSum (rec : (Int32 → jx_S → Option (Int32 × jx_S))) (x1 : Int32) (σ : jx_S) : Option (Int32 × jx_S) := ((p_cRea_readTerm rec x1 σ).bind fun q1 => (p_cRea_readSum_8 rec x1 q1.1 (0 : Int32) q1.2))
theorem x_cRea_readSum (d : Nat) (rec : (Int32 → jx_S → Option (Int32 × jx_S))) (Dr : Nat) (hrec : ∀ z0 s r, rec z0 s = some r → jE Dr 49 0 (lv_args 0 [.ref 5, .int z0]) [] s (some (.int r.1), r.2)) (hd : Dr + 7 ≤ d) (x1 : Int32) (σ : jx_S) (t : (Int32 × jx_S)) (res : Option Value × jx_S) (h : p_cRea_readSum rec x1 σ = some t) (hK : kkI t res) : jE d 54 0 [(0, .ref 5), (1, .int x1)] [] σ res := by
  unfold p_cRea_readSum at h
  refine jE_blk (bs := [(.aload_n 0, 0, 0), (.iload_n 1, 0, 0)]) (i := .invokevirtual 143) (a1 := 55) (a2 := 0) (pc1 := 2) (l1 := [(0, .ref 5), (1, .int x1)]) (st1 := [.int x1, .ref 5]) (σ1 := σ) (by decide +kernel) rfl (fun hC => ?_)
  obtain ⟨q1, hq, h⟩ := Option.bind_eq_some_iff.mp h
  refine jE_call (as := [.ref 5, .int x1]) (pc1 := 5) (st1 := []) hC rfl (by decide) (by omega) (x_cRea_readTerm (d - 1) rec Dr hrec (by omega) x1 σ q1 (some (.int q1.1), q1.2) hq rfl) ?_
  refine jE_blk (bs := [(.istore_n 2, 6, 0), (.iconst (0), 0, 0), (.istore_n 3, 6, 0)]) (i := .iload_n 3) (a1 := 0) (a2 := 0) (pc1 := 8) (l1 := [(3, .int (0 : Int32)), (2, .int q1.1), (0, .ref 5), (1, .int x1)]) (st1 := []) (σ1 := q1.2) (by decide +kernel) rfl (fun hC => ?_)
  exact jE_loc (l := [(0, .ref 5), (1, .int x1), (2, .int q1.1), (3, .int (0 : Int32))]) (ks := [0, 1, 2, 3]) rfl (by decide) ⟨rfl, rfl, rfl, rfl, trivial⟩ (x_cRea_readSum_8 d rec Dr hrec hd x1 q1.1 (0 : Int32) q1.2 _ res h hK)
def p_cRea_readComparison_26 (rec : (Int32 → jx_S → Option (Int32 × jx_S))) (x1 : Int32) (x2 : Int32) (σ : jx_S) : Option (Int32 × jx_S) := ((p_cRea_pass (v_cRea_kind σ) σ).bind fun q2 => ((p_cRea_readSum rec x1 q2).bind fun q3 => ((p_cRea_addNode (v_cRea_kind σ) (σ.1 5 6) (0 : Int32) x2 q3.1 (0 : Int32) q3.2).bind fun q4 => (some ((q4.1, q4.2))))))
theorem x_cRea_readComparison_26 (d : Nat) (rec : (Int32 → jx_S → Option (Int32 × jx_S))) (Dr : Nat) (hrec : ∀ z0 s r, rec z0 s = some r → jE Dr 49 0 (lv_args 0 [.ref 5, .int z0]) [] s (some (.int r.1), r.2)) (hd : Dr + 8 ≤ d) (x1 : Int32) (x2 : Int32) (σ : jx_S) (t : (Int32 × jx_S)) (res : Option Value × jx_S) (h : p_cRea_readComparison_26 rec x1 x2 σ = some t) (hK : kkI t res) : jE d 53 26 [(0, .ref 5), (1, .int x1), (2, .int x2)] [] σ res := by
  unfold p_cRea_readComparison_26 at h
  refine jE_blk (bs := [(.aload_n 0, 0, 0), (.getfield 36, 5, 6), (.istore_n 3, 5, 0), (.aload_n 0, 0, 0)]) (i := .invokevirtual 48) (a1 := 64) (a2 := 0) (pc1 := 32) (l1 := [(3, .int (σ.1 5 6)), (0, .ref 5), (1, .int x1), (2, .int x2)]) (st1 := [.ref 5]) (σ1 := σ) (by decide +kernel) rfl (fun hC => ?_)
  refine jE_call (as := [.ref 5]) (pc1 := 35) (st1 := []) hC rfl (by decide) (by omega) (xv_cRea_kind (d - 1) (by omega) σ) ?_
  refine jE_blk (bs := [(.istore 4, 5, 0), (.aload_n 0, 0, 0), (.iload 4, 0, 0)]) (i := .invokevirtual 68) (a1 := 66) (a2 := 0) (pc1 := 40) (l1 := [(4, .int (v_cRea_kind σ)), (3, .int (σ.1 5 6)), (0, .ref 5), (1, .int x1), (2, .int x2)]) (st1 := [.int (v_cRea_kind σ), .ref 5]) (σ1 := σ) (by decide +kernel) rfl (fun hC => ?_)
  obtain ⟨q2, hq, h⟩ := Option.bind_eq_some_iff.mp h
  refine jE_call (as := [.ref 5, .int (v_cRea_kind σ)]) (pc1 := 43) (st1 := []) hC rfl (by decide) (by omega) (x_cRea_pass (d - 1) (by omega) (v_cRea_kind σ) σ q2 (none, q2) hq rfl) ?_
  refine jE_blk (bs := [(.aload_n 0, 0, 0), (.iload 4, 0, 0), (.iload_n 3, 0, 0), (.iconst (0), 0, 0), (.iload_n 2, 0, 0), (.aload_n 0, 0, 0), (.iload_n 1, 0, 0)]) (i := .invokevirtual 140) (a1 := 54) (a2 := 0) (pc1 := 51) (l1 := [(4, .int (v_cRea_kind σ)), (3, .int (σ.1 5 6)), (0, .ref 5), (1, .int x1), (2, .int x2)]) (st1 := [.int x1, .ref 5, .int x2, .int (0 : Int32), .int (σ.1 5 6), .int (v_cRea_kind σ), .ref 5]) (σ1 := q2) (by decide +kernel) rfl (fun hC => ?_)
  obtain ⟨q3, hq, h⟩ := Option.bind_eq_some_iff.mp h
  refine jE_call (as := [.ref 5, .int x1]) (pc1 := 54) (st1 := [.int x2, .int (0 : Int32), .int (σ.1 5 6), .int (v_cRea_kind σ), .ref 5]) hC rfl (by decide) (by omega) (x_cRea_readSum (d - 1) rec Dr hrec (by omega) x1 q2 q3 (some (.int q3.1), q3.2) hq rfl) ?_
  refine jE_blk (bs := [(.iconst (0), 0, 0)]) (i := .invokevirtual 136) (a1 := 60) (a2 := 0) (pc1 := 55) (l1 := [(4, .int (v_cRea_kind σ)), (3, .int (σ.1 5 6)), (0, .ref 5), (1, .int x1), (2, .int x2)]) (st1 := [.int (0 : Int32), .int q3.1, .int x2, .int (0 : Int32), .int (σ.1 5 6), .int (v_cRea_kind σ), .ref 5]) (σ1 := q3.2) (by decide +kernel) rfl (fun hC => ?_)
  obtain ⟨q4, hq, h⟩ := Option.bind_eq_some_iff.mp h
  refine jE_call (as := [.ref 5, .int (v_cRea_kind σ), .int (σ.1 5 6), .int (0 : Int32), .int x2, .int q3.1, .int (0 : Int32)]) (pc1 := 58) (st1 := []) hC rfl (by decide) (by omega) (x_cRea_addNode (d - 1) (by omega) (v_cRea_kind σ) (σ.1 5 6) (0 : Int32) x2 q3.1 (0 : Int32) q3.2 q4 (some (.int q4.1), q4.2) hq rfl) ?_
  refine jE_blk (bs := []) (i := .ireturn) (a1 := 0) (a2 := 0) (pc1 := 58) (l1 := [(4, .int (v_cRea_kind σ)), (3, .int (σ.1 5 6)), (0, .ref 5), (1, .int x1), (2, .int x2)]) (st1 := [.int q4.1]) (σ1 := q4.2) (by decide +kernel) rfl (fun hC => ?_)
  have h9 := Option.some.inj h
  subst h9
  have e9 : ((some (.int q4.1), q4.2) : Option Value × jx_S) = res := hK
  subst e9
  exact jE_ret hC rfl
def p_cRea_readComparison (rec : (Int32 → jx_S → Option (Int32 × jx_S))) (x1 : Int32) (σ : jx_S) : Option (Int32 × jx_S) := ((p_cRea_readSum rec x1 σ).bind fun q1 => (if (v_cRea_kind q1.2) = (19 : Int32) then (p_cRea_readComparison_26 rec x1 q1.1 q1.2) else (if (v_cRea_kind q1.2) = (27 : Int32) then (p_cRea_readComparison_26 rec x1 q1.1 q1.2) else (some ((q1.1, q1.2))))))
theorem x_cRea_readComparison (d : Nat) (rec : (Int32 → jx_S → Option (Int32 × jx_S))) (Dr : Nat) (hrec : ∀ z0 s r, rec z0 s = some r → jE Dr 49 0 (lv_args 0 [.ref 5, .int z0]) [] s (some (.int r.1), r.2)) (hd : Dr + 8 ≤ d) (x1 : Int32) (σ : jx_S) (t : (Int32 × jx_S)) (res : Option Value × jx_S) (h : p_cRea_readComparison rec x1 σ = some t) (hK : kkI t res) : jE d 53 0 [(0, .ref 5), (1, .int x1)] [] σ res := by
  unfold p_cRea_readComparison at h
  refine jE_blk (bs := [(.aload_n 0, 0, 0), (.iload_n 1, 0, 0)]) (i := .invokevirtual 140) (a1 := 54) (a2 := 0) (pc1 := 2) (l1 := [(0, .ref 5), (1, .int x1)]) (st1 := [.int x1, .ref 5]) (σ1 := σ) (by decide +kernel) rfl (fun hC => ?_)
  obtain ⟨q1, hq, h⟩ := Option.bind_eq_some_iff.mp h
  refine jE_call (as := [.ref 5, .int x1]) (pc1 := 5) (st1 := []) hC rfl (by decide) (by omega) (x_cRea_readSum (d - 1) rec Dr hrec (by omega) x1 σ q1 (some (.int q1.1), q1.2) hq rfl) ?_
  refine jE_blk (bs := [(.istore_n 2, 5, 0), (.aload_n 0, 0, 0)]) (i := .invokevirtual 48) (a1 := 64) (a2 := 0) (pc1 := 7) (l1 := [(2, .int q1.1), (0, .ref 5), (1, .int x1)]) (st1 := [.ref 5]) (σ1 := q1.2) (by decide +kernel) rfl (fun hC => ?_)
  refine jE_call (as := [.ref 5]) (pc1 := 10) (st1 := []) hC rfl (by decide) (by omega) (xv_cRea_kind (d - 1) (by omega) q1.2) ?_
  refine jE_blk (bs := [(.bipush (19), 19, 0)]) (i := .if_icmp .eq (14)) (a1 := 0) (a2 := 0) (pc1 := 12) (l1 := [(2, .int q1.1), (0, .ref 5), (1, .int x1)]) (st1 := [.int (19 : Int32), .int (v_cRea_kind q1.2)]) (σ1 := q1.2) (by decide +kernel) rfl (fun hC => ?_)
  rcases Classical.em ((v_cRea_kind q1.2) = (19 : Int32)) with hc | hc
  · rw [if_pos hc] at h
    refine jE_icT 26 hC (by decide) hc ?_
    exact jE_loc (l := [(0, .ref 5), (1, .int x1), (2, .int q1.1)]) (ks := [0, 1, 2]) rfl (by decide) ⟨rfl, rfl, rfl, trivial⟩ (x_cRea_readComparison_26 d rec Dr hrec hd x1 q1.1 q1.2 _ res h hK)
  · rw [if_neg hc] at h
    refine jE_icF 26 hC (by decide) hc ?_
    refine jE_blk (bs := [(.aload_n 0, 0, 0)]) (i := .invokevirtual 48) (a1 := 64) (a2 := 0) (pc1 := 16) (l1 := [(2, .int q1.1), (0, .ref 5), (1, .int x1)]) (st1 := [.ref 5]) (σ1 := q1.2) (by decide +kernel) rfl (fun hC => ?_)
    refine jE_call (as := [.ref 5]) (pc1 := 19) (st1 := []) hC rfl (by decide) (by omega) (xv_cRea_kind (d - 1) (by omega) q1.2) ?_
    refine jE_blk (bs := [(.bipush (27), 27, 0)]) (i := .if_icmp .eq (5)) (a1 := 0) (a2 := 0) (pc1 := 21) (l1 := [(2, .int q1.1), (0, .ref 5), (1, .int x1)]) (st1 := [.int (27 : Int32), .int (v_cRea_kind q1.2)]) (σ1 := q1.2) (by decide +kernel) rfl (fun hC => ?_)
    rcases Classical.em ((v_cRea_kind q1.2) = (27 : Int32)) with hc | hc
    · rw [if_pos hc] at h
      refine jE_icT 26 hC (by decide) hc ?_
      exact jE_loc (l := [(0, .ref 5), (1, .int x1), (2, .int q1.1)]) (ks := [0, 1, 2]) rfl (by decide) ⟨rfl, rfl, rfl, trivial⟩ (x_cRea_readComparison_26 d rec Dr hrec hd x1 q1.1 q1.2 _ res h hK)
    · rw [if_neg hc] at h
      refine jE_icF 26 hC (by decide) hc ?_
      refine jE_blk (bs := [(.iload_n 2, 0, 0)]) (i := .ireturn) (a1 := 0) (a2 := 0) (pc1 := 25) (l1 := [(2, .int q1.1), (0, .ref 5), (1, .int x1)]) (st1 := [.int q1.1]) (σ1 := q1.2) (by decide +kernel) rfl (fun hC => ?_)
      have h9 := Option.some.inj h
      subst h9
      have e9 : ((some (.int q1.1), q1.2) : Option Value × jx_S) = res := hK
      subst e9
      exact jE_ret hC rfl
def p_cRea_readExpression_b (rec : (Int32 → jx_S → Option (Int32 × jx_S))) (x1 : Int32) (σ : jx_S) : Option (Int32 × jx_S) := (if x1 ≤ (29 : Int32) then (if (v_cRea_kind σ) = 5 then ((p_cRea_readLet rec x1 σ).bind fun q1 => (some ((q1.1, q1.2)))) else (if (v_cRea_kind σ) = 7 then ((p_cRea_readIf rec x1 σ).bind fun q2 => (some ((q2.1, q2.2)))) else (if (v_cRea_kind σ) = 10 then ((p_cRea_readCase rec x1 σ).bind fun q3 => (some ((q3.1, q3.2)))) else ((p_cRea_readComparison rec x1 σ).bind fun q4 => (some ((q4.1, q4.2))))))) else ((p_cRea_tell (3 : Int32) σ).bind fun q5 => (some (((0 : Int32), q5)))))
theorem x_cRea_readExpression_b (d : Nat) (rec : (Int32 → jx_S → Option (Int32 × jx_S))) (Dr : Nat) (hrec : ∀ z0 s r, rec z0 s = some r → jE Dr 49 0 (lv_args 0 [.ref 5, .int z0]) [] s (some (.int r.1), r.2)) (hd : Dr + 9 ≤ d) (x1 : Int32) (σ : jx_S) (t : (Int32 × jx_S)) (res : Option Value × jx_S) (h : p_cRea_readExpression_b rec x1 σ = some t) (hK : kkI t res) : jE d 49 0 [(0, .ref 5), (1, .int x1)] [] σ res := by
  unfold p_cRea_readExpression_b at h
  refine jE_blk (bs := [(.iload_n 1, 0, 0), (.bipush (29), 29, 0)]) (i := .if_icmp .le (10)) (a1 := 0) (a2 := 0) (pc1 := 3) (l1 := [(0, .ref 5), (1, .int x1)]) (st1 := [.int (29 : Int32), .int x1]) (σ1 := σ) (by decide +kernel) rfl (fun hC => ?_)
  rcases Classical.em (x1 ≤ (29 : Int32)) with hc | hc
  · rw [if_pos hc] at h
    refine jE_icT 13 hC (by decide) hc ?_
    refine jE_blk (bs := [(.aload_n 0, 0, 0)]) (i := .invokevirtual 48) (a1 := 64) (a2 := 0) (pc1 := 14) (l1 := [(0, .ref 5), (1, .int x1)]) (st1 := [.ref 5]) (σ1 := σ) (by decide +kernel) rfl (fun hC => ?_)
    refine jE_call (as := [.ref 5]) (pc1 := 17) (st1 := []) hC rfl (by decide) (by omega) (xv_cRea_kind (d - 1) (by omega) σ) ?_
    refine jE_blk (bs := []) (i := .lookupswitch (53) #[(5, 35), (7, 41), (10, 47)]) (a1 := 0) (a2 := 0) (pc1 := 17) (l1 := [(0, .ref 5), (1, .int x1)]) (st1 := [.int (v_cRea_kind σ)]) (σ1 := σ) (by decide +kernel) rfl (fun hC => ?_)
    rcases Classical.em ((v_cRea_kind σ) = 5) with hc0 | hc0
    · rw [if_pos hc0] at h
      refine jE_lsw 52 5 hC hc0 (by decide +kernel) ?_
      refine jE_blk (bs := [(.aload_n 0, 0, 0), (.iload_n 1, 0, 0)]) (i := .invokevirtual 121) (a1 := 50) (a2 := 0) (pc1 := 54) (l1 := [(0, .ref 5), (1, .int x1)]) (st1 := [.int x1, .ref 5]) (σ1 := σ) (by decide +kernel) rfl (fun hC => ?_)
      obtain ⟨q1, hq, h⟩ := Option.bind_eq_some_iff.mp h
      refine jE_call (as := [.ref 5, .int x1]) (pc1 := 57) (st1 := []) hC rfl (by decide) (by omega) (x_cRea_readLet (d - 1) rec Dr hrec (by omega) x1 σ q1 (some (.int q1.1), q1.2) hq rfl) ?_
      refine jE_blk (bs := []) (i := .ireturn) (a1 := 0) (a2 := 0) (pc1 := 57) (l1 := [(0, .ref 5), (1, .int x1)]) (st1 := [.int q1.1]) (σ1 := q1.2) (by decide +kernel) rfl (fun hC => ?_)
      have h9 := Option.some.inj h
      subst h9
      have e9 : ((some (.int q1.1), q1.2) : Option Value × jx_S) = res := hK
      subst e9
      exact jE_ret hC rfl
    · rw [if_neg hc0] at h
      rcases Classical.em ((v_cRea_kind σ) = 7) with hc1 | hc1
      · rw [if_pos hc1] at h
        refine jE_lsw 58 7 hC hc1 (by decide +kernel) ?_
        refine jE_blk (bs := [(.aload_n 0, 0, 0), (.iload_n 1, 0, 0)]) (i := .invokevirtual 124) (a1 := 51) (a2 := 0) (pc1 := 60) (l1 := [(0, .ref 5), (1, .int x1)]) (st1 := [.int x1, .ref 5]) (σ1 := σ) (by decide +kernel) rfl (fun hC => ?_)
        obtain ⟨q2, hq, h⟩ := Option.bind_eq_some_iff.mp h
        refine jE_call (as := [.ref 5, .int x1]) (pc1 := 63) (st1 := []) hC rfl (by decide) (by omega) (x_cRea_readIf (d - 1) rec Dr hrec (by omega) x1 σ q2 (some (.int q2.1), q2.2) hq rfl) ?_
        refine jE_blk (bs := []) (i := .ireturn) (a1 := 0) (a2 := 0) (pc1 := 63) (l1 := [(0, .ref 5), (1, .int x1)]) (st1 := [.int q2.1]) (σ1 := q2.2) (by decide +kernel) rfl (fun hC => ?_)
        have h9 := Option.some.inj h
        subst h9
        have e9 : ((some (.int q2.1), q2.2) : Option Value × jx_S) = res := hK
        subst e9
        exact jE_ret hC rfl
      · rw [if_neg hc1] at h
        rcases Classical.em ((v_cRea_kind σ) = 10) with hc2 | hc2
        · rw [if_pos hc2] at h
          refine jE_lsw 64 10 hC hc2 (by decide +kernel) ?_
          refine jE_blk (bs := [(.aload_n 0, 0, 0), (.iload_n 1, 0, 0)]) (i := .invokevirtual 127) (a1 := 52) (a2 := 0) (pc1 := 66) (l1 := [(0, .ref 5), (1, .int x1)]) (st1 := [.int x1, .ref 5]) (σ1 := σ) (by decide +kernel) rfl (fun hC => ?_)
          obtain ⟨q3, hq, h⟩ := Option.bind_eq_some_iff.mp h
          refine jE_call (as := [.ref 5, .int x1]) (pc1 := 69) (st1 := []) hC rfl (by decide) (by omega) (x_cRea_readCase (d - 1) rec Dr hrec (by omega) x1 σ q3 (some (.int q3.1), q3.2) hq rfl) ?_
          refine jE_blk (bs := []) (i := .ireturn) (a1 := 0) (a2 := 0) (pc1 := 69) (l1 := [(0, .ref 5), (1, .int x1)]) (st1 := [.int q3.1]) (σ1 := q3.2) (by decide +kernel) rfl (fun hC => ?_)
          have h9 := Option.some.inj h
          subst h9
          have e9 : ((some (.int q3.1), q3.2) : Option Value × jx_S) = res := hK
          subst e9
          exact jE_ret hC rfl
        · rw [if_neg hc2] at h
          refine jE_lswD 70 [5, 7, 10] hC (by decide +kernel) ⟨hc0, hc1, hc2, trivial⟩ ?_
          refine jE_blk (bs := [(.aload_n 0, 0, 0), (.iload_n 1, 0, 0)]) (i := .invokevirtual 130) (a1 := 53) (a2 := 0) (pc1 := 72) (l1 := [(0, .ref 5), (1, .int x1)]) (st1 := [.int x1, .ref 5]) (σ1 := σ) (by decide +kernel) rfl (fun hC => ?_)
          obtain ⟨q4, hq, h⟩ := Option.bind_eq_some_iff.mp h
          refine jE_call (as := [.ref 5, .int x1]) (pc1 := 75) (st1 := []) hC rfl (by decide) (by omega) (x_cRea_readComparison (d - 1) rec Dr hrec (by omega) x1 σ q4 (some (.int q4.1), q4.2) hq rfl) ?_
          refine jE_blk (bs := []) (i := .ireturn) (a1 := 0) (a2 := 0) (pc1 := 75) (l1 := [(0, .ref 5), (1, .int x1)]) (st1 := [.int q4.1]) (σ1 := q4.2) (by decide +kernel) rfl (fun hC => ?_)
          have h9 := Option.some.inj h
          subst h9
          have e9 : ((some (.int q4.1), q4.2) : Option Value × jx_S) = res := hK
          subst e9
          exact jE_ret hC rfl
  · rw [if_neg hc] at h
    refine jE_icF 13 hC (by decide) hc ?_
    refine jE_blk (bs := [(.aload_n 0, 0, 0), (.iconst (3), 3, 0)]) (i := .invokevirtual 55) (a1 := 67) (a2 := 0) (pc1 := 8) (l1 := [(0, .ref 5), (1, .int x1)]) (st1 := [.int (3 : Int32), .ref 5]) (σ1 := σ) (by decide +kernel) rfl (fun hC => ?_)
    obtain ⟨q5, hq, h⟩ := Option.bind_eq_some_iff.mp h
    refine jE_call (as := [.ref 5, .int (3 : Int32)]) (pc1 := 11) (st1 := []) hC rfl (by decide) (by omega) (x_cRea_tell (d - 1) (by omega) (3 : Int32) σ q5 (none, q5) hq rfl) ?_
    refine jE_blk (bs := [(.iconst (0), 0, 0)]) (i := .ireturn) (a1 := 0) (a2 := 0) (pc1 := 12) (l1 := [(0, .ref 5), (1, .int x1)]) (st1 := [.int (0 : Int32)]) (σ1 := q5) (by decide +kernel) rfl (fun hC => ?_)
    have h9 := Option.some.inj h
    subst h9
    have e9 : ((some (.int (0 : Int32)), q5) : Option Value × jx_S) = res := hK
    subst e9
    exact jE_ret hC rfl
def p_cRea_readExpression : Nat → Int32 → jx_S → Option (Int32 × jx_S)
  | 0 => fun _ _ => none
  | n + 1 => p_cRea_readExpression_b (p_cRea_readExpression n)
theorem x_cRea_readExpression : ∀ (n d : Nat) (hd : 10 * n ≤ d) (x1 : Int32) (σ : jx_S) (t : (Int32 × jx_S)) (res : Option Value × jx_S) (h : p_cRea_readExpression n x1 σ = some t) (hK : kkI t res), jE d 49 0 [(0, .ref 5), (1, .int x1)] [] σ res := by
  intro n
  induction n with
  | zero => intro d hd x1 σ t res h; cases h
  | succ n ih =>
    intro d hd x1 σ t res h hK
    exact x_cRea_readExpression_b d (p_cRea_readExpression n) (10 * n) (fun z0 s r hr => ih (10 * n) (Nat.le_refl _) z0 s r _ hr rfl) (by omega) x1 σ t res h hK
def kk_cRea_readFunction_63 (d : Nat) (t : ((Int32 × Int32 × jx_S) ⊕ jx_S)) (res : Option Value × jx_S) : Prop := match t with
  | .inl s => jE d 44 63 [(0, .ref 5), (1, .int s.1), (2, .int s.2.1)] [] s.2.2 res
  | .inr t => kkV t res
def p_cRea_readFunction_89 (x1 : Int32) (σ : jx_S) : Option jx_S := ((p_cRea_pass (18 : Int32) σ).bind fun q3 => ((p_cRea_readBase q3).bind fun q4 => ((p_cRea_pass (19 : Int32) (jI_put 40 q4.2 45 x1 q4.1)).bind fun q5 => ((p_cRea_readExpression 33 (0 : Int32) q5).bind fun q6 => ((p_cRea_pass (20 : Int32) (jI_put 40 q6.2 51 x1 q6.1)).bind fun q7 => (some (q7)))))))
theorem x_cRea_readFunction_89 (d : Nat) (hd : 331 ≤ d) (x1 : Int32) (σ : jx_S) (t : jx_S) (res : Option Value × jx_S) (h : p_cRea_readFunction_89 x1 σ = some t) (hK : kkV t res) : jE d 44 89 [(0, .ref 5), (1, .int x1)] [] σ res := by
  unfold p_cRea_readFunction_89 at h
  refine jE_blk (bs := [(.aload_n 0, 0, 0), (.bipush (18), 18, 0)]) (i := .invokevirtual 68) (a1 := 66) (a2 := 0) (pc1 := 92) (l1 := [(0, .ref 5), (1, .int x1)]) (st1 := [.int (18 : Int32), .ref 5]) (σ1 := σ) (by decide +kernel) rfl (fun hC => ?_)
  obtain ⟨q3, hq, h⟩ := Option.bind_eq_some_iff.mp h
  refine jE_call (as := [.ref 5, .int (18 : Int32)]) (pc1 := 95) (st1 := []) hC rfl (by decide) (by omega) (x_cRea_pass (d - 1) (by omega) (18 : Int32) σ q3 (none, q3) hq rfl) ?_
  refine jE_blk (bs := [(.aload_n 0, 0, 0), (.getfield 28, 5, 2), (.getfield 74, 4, 2), (.iload_n 1, 0, 0), (.aload_n 0, 0, 0)]) (i := .invokevirtual 77) (a1 := 47) (a2 := 0) (pc1 := 104) (l1 := [(0, .ref 5), (1, .int x1)]) (st1 := [.ref 5, .int x1, .ref 44]) (σ1 := q3) (by decide +kernel) rfl (fun hC => ?_)
  obtain ⟨q4, hq, h⟩ := Option.bind_eq_some_iff.mp h
  refine jE_call (as := [.ref 5]) (pc1 := 107) (st1 := [.int x1, .ref 44]) hC rfl (by decide) (by omega) (x_cRea_readBase (d - 1) (by omega) q3 q4 (some (.int q4.1), q4.2) hq rfl) ?_
  refine jE_blk (bs := []) (i := .invokevirtual 80) (a1 := 137) (a2 := 0) (pc1 := 107) (l1 := [(0, .ref 5), (1, .int x1)]) (st1 := [.int q4.1, .int x1, .ref 44]) (σ1 := q4.2) (by decide +kernel) rfl (fun hC => ?_)
  refine jE_call (as := [.ref 44, .int x1, .int q4.1]) (pc1 := 110) (st1 := []) hC rfl (by decide) (by omega) (xI_put (d - 1) 44 40 x1 q4.1 q4.2 (by decide) rfl rfl) ?_
  refine jE_blk (bs := [(.aload_n 0, 0, 0), (.bipush (19), 19, 0)]) (i := .invokevirtual 68) (a1 := 66) (a2 := 0) (pc1 := 113) (l1 := [(0, .ref 5), (1, .int x1)]) (st1 := [.int (19 : Int32), .ref 5]) (σ1 := (jI_put 40 q4.2 45 x1 q4.1)) (by decide +kernel) rfl (fun hC => ?_)
  obtain ⟨q5, hq, h⟩ := Option.bind_eq_some_iff.mp h
  refine jE_call (as := [.ref 5, .int (19 : Int32)]) (pc1 := 116) (st1 := []) hC rfl (by decide) (by omega) (x_cRea_pass (d - 1) (by omega) (19 : Int32) (jI_put 40 q4.2 45 x1 q4.1) q5 (none, q5) hq rfl) ?_
  refine jE_blk (bs := [(.aload_n 0, 0, 0), (.getfield 28, 5, 2), (.getfield 83, 4, 5), (.iload_n 1, 0, 0), (.aload_n 0, 0, 0), (.iconst (0), 0, 0)]) (i := .invokevirtual 86) (a1 := 49) (a2 := 0) (pc1 := 126) (l1 := [(0, .ref 5), (1, .int x1)]) (st1 := [.int (0 : Int32), .ref 5, .int x1, .ref 50]) (σ1 := q5) (by decide +kernel) rfl (fun hC => ?_)
  obtain ⟨q6, hq, h⟩ := Option.bind_eq_some_iff.mp h
  refine jE_call (as := [.ref 5, .int (0 : Int32)]) (pc1 := 129) (st1 := [.int x1, .ref 50]) hC rfl (by decide) (by omega) (x_cRea_readExpression 33 (d - 1) (by omega) (0 : Int32) q5 q6 (some (.int q6.1), q6.2) hq rfl) ?_
  refine jE_blk (bs := []) (i := .invokevirtual 80) (a1 := 137) (a2 := 0) (pc1 := 129) (l1 := [(0, .ref 5), (1, .int x1)]) (st1 := [.int q6.1, .int x1, .ref 50]) (σ1 := q6.2) (by decide +kernel) rfl (fun hC => ?_)
  refine jE_call (as := [.ref 50, .int x1, .int q6.1]) (pc1 := 132) (st1 := []) hC rfl (by decide) (by omega) (xI_put (d - 1) 50 40 x1 q6.1 q6.2 (by decide) rfl rfl) ?_
  refine jE_blk (bs := [(.aload_n 0, 0, 0), (.bipush (20), 20, 0)]) (i := .invokevirtual 68) (a1 := 66) (a2 := 0) (pc1 := 135) (l1 := [(0, .ref 5), (1, .int x1)]) (st1 := [.int (20 : Int32), .ref 5]) (σ1 := (jI_put 40 q6.2 51 x1 q6.1)) (by decide +kernel) rfl (fun hC => ?_)
  obtain ⟨q7, hq, h⟩ := Option.bind_eq_some_iff.mp h
  refine jE_call (as := [.ref 5, .int (20 : Int32)]) (pc1 := 138) (st1 := []) hC rfl (by decide) (by omega) (x_cRea_pass (d - 1) (by omega) (20 : Int32) (jI_put 40 q6.2 51 x1 q6.1) q7 (none, q7) hq rfl) ?_
  refine jE_blk (bs := []) (i := .return_) (a1 := 0) (a2 := 0) (pc1 := 138) (l1 := [(0, .ref 5), (1, .int x1)]) (st1 := []) (σ1 := q7) (by decide +kernel) rfl (fun hC => ?_)
  have h9 := Option.some.inj h
  subst h9
  have e9 : ((none, q7) : Option Value × jx_S) = res := hK
  subst e9
  exact jE_ret hC rfl
def p_cRea_readFunction_63_s (x1 : Int32) (x2 : Int32) (σ : jx_S) : Option ((Int32 × Int32 × jx_S) ⊕ jx_S) := (if (8 : Int32) < x2 then (Option.map Sum.inr (p_cRea_readFunction_89 x1 σ)) else (if ¬ (v_cRea_kind σ) = (16 : Int32) then (Option.map Sum.inr (p_cRea_readFunction_89 x1 σ)) else ((p_cRea_readParameter x2 σ).bind fun q10 => (some (.inl (x1, (x2 + 1), q10))))))
theorem x_cRea_readFunction_63_s (d : Nat) (hd : 331 ≤ d) (x1 : Int32) (x2 : Int32) (σ : jx_S) (t : ((Int32 × Int32 × jx_S) ⊕ jx_S)) (res : Option Value × jx_S) (h : p_cRea_readFunction_63_s x1 x2 σ = some t) (hK : kk_cRea_readFunction_63 d t res) : jE d 44 63 [(0, .ref 5), (1, .int x1), (2, .int x2)] [] σ res := by
  unfold p_cRea_readFunction_63_s at h
  refine jE_blk (bs := [(.iload_n 2, 0, 0), (.bipush (8), 8, 0)]) (i := .if_icmp .gt (23)) (a1 := 0) (a2 := 0) (pc1 := 66) (l1 := [(0, .ref 5), (1, .int x1), (2, .int x2)]) (st1 := [.int (8 : Int32), .int x2]) (σ1 := σ) (by decide +kernel) rfl (fun hC => ?_)
  rcases Classical.em ((8 : Int32) < x2) with hc | hc
  · rw [if_pos hc] at h
    refine jE_icT 89 hC (by decide) hc ?_
    obtain ⟨t9_8, h9_8, h8_8⟩ := Option.map_eq_some_iff.mp h
    clear h
    subst h8_8
    have h := h9_8
    clear h9_8
    exact jE_loc (l := [(0, .ref 5), (1, .int x1)]) (ks := [0, 1]) rfl (by decide) ⟨rfl, rfl, trivial⟩ (x_cRea_readFunction_89 d hd x1 σ _ res h hK)
  · rw [if_neg hc] at h
    refine jE_icF 89 hC (by decide) hc ?_
    refine jE_blk (bs := [(.aload_n 0, 0, 0)]) (i := .invokevirtual 48) (a1 := 64) (a2 := 0) (pc1 := 70) (l1 := [(0, .ref 5), (1, .int x1), (2, .int x2)]) (st1 := [.ref 5]) (σ1 := σ) (by decide +kernel) rfl (fun hC => ?_)
    refine jE_call (as := [.ref 5]) (pc1 := 73) (st1 := []) hC rfl (by decide) (by omega) (xv_cRea_kind (d - 1) (by omega) σ) ?_
    refine jE_blk (bs := [(.bipush (16), 16, 0)]) (i := .if_icmp .ne (14)) (a1 := 0) (a2 := 0) (pc1 := 75) (l1 := [(0, .ref 5), (1, .int x1), (2, .int x2)]) (st1 := [.int (16 : Int32), .int (v_cRea_kind σ)]) (σ1 := σ) (by decide +kernel) rfl (fun hC => ?_)
    rcases Classical.em (¬ (v_cRea_kind σ) = (16 : Int32)) with hc | hc
    · rw [if_pos hc] at h
      refine jE_icT 89 hC (by decide) hc ?_
      obtain ⟨t9_9, h9_9, h8_9⟩ := Option.map_eq_some_iff.mp h
      clear h
      subst h8_9
      have h := h9_9
      clear h9_9
      exact jE_loc (l := [(0, .ref 5), (1, .int x1)]) (ks := [0, 1]) rfl (by decide) ⟨rfl, rfl, trivial⟩ (x_cRea_readFunction_89 d hd x1 σ _ res h hK)
    · rw [if_neg hc] at h
      refine jE_icF 89 hC (by decide) hc ?_
      refine jE_blk (bs := [(.aload_n 0, 0, 0), (.iload_n 2, 0, 0)]) (i := .invokevirtual 71) (a1 := 45) (a2 := 0) (pc1 := 80) (l1 := [(0, .ref 5), (1, .int x1), (2, .int x2)]) (st1 := [.int x2, .ref 5]) (σ1 := σ) (by decide +kernel) rfl (fun hC => ?_)
      obtain ⟨q10, hq, h⟩ := Option.bind_eq_some_iff.mp h
      refine jE_call (as := [.ref 5, .int x2]) (pc1 := 83) (st1 := []) hC rfl (by decide) (by omega) (x_cRea_readParameter (d - 1) (by omega) x2 σ q10 (none, q10) hq rfl) ?_
      refine jE_blk (bs := [(.iinc 2 (1), 3, 2), (.goto (-23), 0, 0)]) (i := .iload_n 2) (a1 := 0) (a2 := 0) (pc1 := 63) (l1 := [(2, .int (x2 + 1)), (0, .ref 5), (1, .int x1)]) (st1 := []) (σ1 := q10) (by decide +kernel) rfl (fun hC => ?_)
      have h9 := Option.some.inj h
      subst h9
      exact jE_loc (l := [(0, .ref 5), (1, .int x1), (2, .int (x2 + 1))]) (ks := [0, 1, 2]) rfl (by decide) ⟨rfl, rfl, rfl, trivial⟩ hK
def p_cRea_readFunction_63 (x1 : Int32) (x2 : Int32) (σ : jx_S) : Option jx_S := jx_loop 100000000 (fun s => p_cRea_readFunction_63_s s.1 s.2.1 (s.2.2)) (x1, x2, σ)
theorem x_cRea_readFunction_63 (d : Nat) (hd : 331 ≤ d) (x1 : Int32) (x2 : Int32) (σ : jx_S) (t : jx_S) (res : Option Value × jx_S) (h : p_cRea_readFunction_63 x1 x2 σ = some t) (hK : kkV t res) : jE d 44 63 [(0, .ref 5), (1, .int x1), (2, .int x2)] [] σ res := by
  refine jx_loop_ok (E := fun s t => ∀ res, kkV t res → jE d 44 63 [(0, .ref 5), (1, .int s.1), (2, .int s.2.1)] [] s.2.2 res) (fun s t hs => ?_) _ _ _ h res hK
  cases t with
  | inl s1 => exact fun b hb res hk => x_cRea_readFunction_63_s d hd (s.1) (s.2.1) (s.2.2) _ res hs (hb res hk)
  | inr b => exact fun res hk => x_cRea_readFunction_63_s d hd (s.1) (s.2.1) (s.2.2) _ res hs hk
def p_cRea_readFunction (x1 : Int32) (σ : jx_S) : Option jx_S := (if (v_cRea_kind σ) = (1 : Int32) then (if ¬ x1 = (40 : Int32) then ((p_cFun_open (σ.1 5 6) ((σ.1 3 9) + (1 : Int32)) (jx_i (jx_i σ 5 7 x1) 5 5 (0 : Int32))).bind fun q1 => ((p_cRea_pass (1 : Int32) q1).bind fun q2 => (p_cRea_readFunction_63 x1 (0 : Int32) q2))) else ((p_cRea_tell (4 : Int32) σ).bind fun q11 => (some (q11)))) else ((p_cRea_tell (2 : Int32) σ).bind fun q12 => (some (q12))))
theorem x_cRea_readFunction (d : Nat) (hd : 331 ≤ d) (x1 : Int32) (σ : jx_S) (t : jx_S) (res : Option Value × jx_S) (h : p_cRea_readFunction x1 σ = some t) (hK : kkV t res) : jE d 44 0 [(0, .ref 5), (1, .int x1)] [] σ res := by
  unfold p_cRea_readFunction at h
  refine jE_blk (bs := [(.aload_n 0, 0, 0)]) (i := .invokevirtual 48) (a1 := 64) (a2 := 0) (pc1 := 1) (l1 := [(0, .ref 5), (1, .int x1)]) (st1 := [.ref 5]) (σ1 := σ) (by decide +kernel) rfl (fun hC => ?_)
  refine jE_call (as := [.ref 5]) (pc1 := 4) (st1 := []) hC rfl (by decide) (by omega) (xv_cRea_kind (d - 1) (by omega) σ) ?_
  refine jE_blk (bs := [(.iconst (1), 1, 0)]) (i := .if_icmp .eq (9)) (a1 := 0) (a2 := 0) (pc1 := 5) (l1 := [(0, .ref 5), (1, .int x1)]) (st1 := [.int (1 : Int32), .int (v_cRea_kind σ)]) (σ1 := σ) (by decide +kernel) rfl (fun hC => ?_)
  rcases Classical.em ((v_cRea_kind σ) = (1 : Int32)) with hc | hc
  · rw [if_pos hc] at h
    refine jE_icT 14 hC (by decide) hc ?_
    refine jE_blk (bs := [(.iload_n 1, 0, 0), (.bipush (40), 40, 0)]) (i := .if_icmp .ne (9)) (a1 := 0) (a2 := 0) (pc1 := 17) (l1 := [(0, .ref 5), (1, .int x1)]) (st1 := [.int (40 : Int32), .int x1]) (σ1 := σ) (by decide +kernel) rfl (fun hC => ?_)
    rcases Classical.em (¬ x1 = (40 : Int32)) with hc | hc
    · rw [if_pos hc] at h
      refine jE_icT 26 hC (by decide) hc ?_
      refine jE_blk (bs := [(.aload_n 0, 0, 0), (.iload_n 1, 0, 0), (.putfield 58, 5, 7), (.aload_n 0, 0, 0), (.iconst (0), 0, 0), (.putfield 61, 5, 5), (.aload_n 0, 0, 0), (.getfield 28, 5, 2), (.aload_n 0, 0, 0), (.getfield 36, 5, 6), (.aload_n 0, 0, 0), (.getfield 24, 5, 1), (.getfield 40, 3, 9), (.iconst (1), 1, 0), (.iadd, 0, 0)]) (i := .invokevirtual 64) (a1 := 35) (a2 := 0) (pc1 := 53) (l1 := [(0, .ref 5), (1, .int x1)]) (st1 := [.int ((σ.1 3 9) + (1 : Int32)), .int (σ.1 5 6), .ref 4]) (σ1 := (jx_i (jx_i σ 5 7 x1) 5 5 (0 : Int32))) (by decide +kernel) rfl (fun hC => ?_)
      obtain ⟨q1, hq, h⟩ := Option.bind_eq_some_iff.mp h
      refine jE_call (as := [.ref 4, .int (σ.1 5 6), .int ((σ.1 3 9) + (1 : Int32))]) (pc1 := 56) (st1 := []) hC rfl (by decide) (by omega) (x_cFun_open (d - 1) (by omega) (σ.1 5 6) ((σ.1 3 9) + (1 : Int32)) (jx_i (jx_i σ 5 7 x1) 5 5 (0 : Int32)) q1 (none, q1) hq rfl) ?_
      refine jE_blk (bs := [(.aload_n 0, 0, 0), (.iconst (1), 1, 0)]) (i := .invokevirtual 68) (a1 := 66) (a2 := 0) (pc1 := 58) (l1 := [(0, .ref 5), (1, .int x1)]) (st1 := [.int (1 : Int32), .ref 5]) (σ1 := q1) (by decide +kernel) rfl (fun hC => ?_)
      obtain ⟨q2, hq, h⟩ := Option.bind_eq_some_iff.mp h
      refine jE_call (as := [.ref 5, .int (1 : Int32)]) (pc1 := 61) (st1 := []) hC rfl (by decide) (by omega) (x_cRea_pass (d - 1) (by omega) (1 : Int32) q1 q2 (none, q2) hq rfl) ?_
      refine jE_blk (bs := [(.iconst (0), 0, 0), (.istore_n 2, 3, 0)]) (i := .iload_n 2) (a1 := 0) (a2 := 0) (pc1 := 63) (l1 := [(2, .int (0 : Int32)), (0, .ref 5), (1, .int x1)]) (st1 := []) (σ1 := q2) (by decide +kernel) rfl (fun hC => ?_)
      exact jE_loc (l := [(0, .ref 5), (1, .int x1), (2, .int (0 : Int32))]) (ks := [0, 1, 2]) rfl (by decide) ⟨rfl, rfl, rfl, trivial⟩ (x_cRea_readFunction_63 d hd x1 (0 : Int32) q2 _ res h hK)
    · rw [if_neg hc] at h
      refine jE_icF 26 hC (by decide) hc ?_
      refine jE_blk (bs := [(.aload_n 0, 0, 0), (.iconst (4), 4, 0)]) (i := .invokevirtual 55) (a1 := 67) (a2 := 0) (pc1 := 22) (l1 := [(0, .ref 5), (1, .int x1)]) (st1 := [.int (4 : Int32), .ref 5]) (σ1 := σ) (by decide +kernel) rfl (fun hC => ?_)
      obtain ⟨q11, hq, h⟩ := Option.bind_eq_some_iff.mp h
      refine jE_call (as := [.ref 5, .int (4 : Int32)]) (pc1 := 25) (st1 := []) hC rfl (by decide) (by omega) (x_cRea_tell (d - 1) (by omega) (4 : Int32) σ q11 (none, q11) hq rfl) ?_
      refine jE_blk (bs := []) (i := .return_) (a1 := 0) (a2 := 0) (pc1 := 25) (l1 := [(0, .ref 5), (1, .int x1)]) (st1 := []) (σ1 := q11) (by decide +kernel) rfl (fun hC => ?_)
      have h9 := Option.some.inj h
      subst h9
      have e9 : ((none, q11) : Option Value × jx_S) = res := hK
      subst e9
      exact jE_ret hC rfl
  · rw [if_neg hc] at h
    refine jE_icF 14 hC (by decide) hc ?_
    refine jE_blk (bs := [(.aload_n 0, 0, 0), (.iconst (2), 2, 0)]) (i := .invokevirtual 55) (a1 := 67) (a2 := 0) (pc1 := 10) (l1 := [(0, .ref 5), (1, .int x1)]) (st1 := [.int (2 : Int32), .ref 5]) (σ1 := σ) (by decide +kernel) rfl (fun hC => ?_)
    obtain ⟨q12, hq, h⟩ := Option.bind_eq_some_iff.mp h
    refine jE_call (as := [.ref 5, .int (2 : Int32)]) (pc1 := 13) (st1 := []) hC rfl (by decide) (by omega) (x_cRea_tell (d - 1) (by omega) (2 : Int32) σ q12 (none, q12) hq rfl) ?_
    refine jE_blk (bs := []) (i := .return_) (a1 := 0) (a2 := 0) (pc1 := 13) (l1 := [(0, .ref 5), (1, .int x1)]) (st1 := []) (σ1 := q12) (by decide +kernel) rfl (fun hC => ?_)
    have h9 := Option.some.inj h
    subst h9
    have e9 : ((none, q12) : Option Value × jx_S) = res := hK
    subst e9
    exact jE_ret hC rfl
def kk_cRea_readProgram_23 (d : Nat) (t : ((Int32 × jx_S) ⊕ jx_S)) (res : Option Value × jx_S) : Prop := match t with
  | .inl s => jE d 43 23 [(0, .ref 5), (1, .int s.1)] [] s.2 res
  | .inr t => kkV t res
def p_cRea_readProgram_23_s (x1 : Int32) (σ : jx_S) : Option ((Int32 × jx_S) ⊕ jx_S) := (if (40 : Int32) < x1 then (Option.map Sum.inr (some (σ))) else (if (v_cRea_kind σ) = 0 then (Option.map Sum.inr (some (σ))) else ((p_cRea_readFunction x1 σ).bind fun q3 => (some (.inl ((x1 + 1), q3))))))
theorem x_cRea_readProgram_23_s (d : Nat) (hd : 332 ≤ d) (x1 : Int32) (σ : jx_S) (t : ((Int32 × jx_S) ⊕ jx_S)) (res : Option Value × jx_S) (h : p_cRea_readProgram_23_s x1 σ = some t) (hK : kk_cRea_readProgram_23 d t res) : jE d 43 23 [(0, .ref 5), (1, .int x1)] [] σ res := by
  unfold p_cRea_readProgram_23_s at h
  refine jE_blk (bs := [(.iload_n 1, 0, 0), (.bipush (40), 40, 0)]) (i := .if_icmp .gt (21)) (a1 := 0) (a2 := 0) (pc1 := 26) (l1 := [(0, .ref 5), (1, .int x1)]) (st1 := [.int (40 : Int32), .int x1]) (σ1 := σ) (by decide +kernel) rfl (fun hC => ?_)
  rcases Classical.em ((40 : Int32) < x1) with hc | hc
  · rw [if_pos hc] at h
    refine jE_icT 47 hC (by decide) hc ?_
    obtain ⟨t9_1, h9_1, h8_1⟩ := Option.map_eq_some_iff.mp h
    clear h
    subst h8_1
    have h := h9_1
    clear h9_1
    refine jE_blk (bs := []) (i := .return_) (a1 := 0) (a2 := 0) (pc1 := 47) (l1 := [(0, .ref 5), (1, .int x1)]) (st1 := []) (σ1 := σ) (by decide +kernel) rfl (fun hC => ?_)
    have h9 := Option.some.inj h
    subst h9
    have e9 : ((none, σ) : Option Value × jx_S) = res := hK
    subst e9
    exact jE_ret hC rfl
  · rw [if_neg hc] at h
    refine jE_icF 47 hC (by decide) hc ?_
    refine jE_blk (bs := [(.aload_n 0, 0, 0)]) (i := .invokevirtual 48) (a1 := 64) (a2 := 0) (pc1 := 30) (l1 := [(0, .ref 5), (1, .int x1)]) (st1 := [.ref 5]) (σ1 := σ) (by decide +kernel) rfl (fun hC => ?_)
    refine jE_call (as := [.ref 5]) (pc1 := 33) (st1 := []) hC rfl (by decide) (by omega) (xv_cRea_kind (d - 1) (by omega) σ) ?_
    refine jE_blk (bs := []) (i := .ifCond .eq (14)) (a1 := 0) (a2 := 0) (pc1 := 33) (l1 := [(0, .ref 5), (1, .int x1)]) (st1 := [.int (v_cRea_kind σ)]) (σ1 := σ) (by decide +kernel) rfl (fun hC => ?_)
    rcases Classical.em ((v_cRea_kind σ) = 0) with hc | hc
    · rw [if_pos hc] at h
      refine jE_ifT 47 hC (by decide) hc ?_
      obtain ⟨t9_2, h9_2, h8_2⟩ := Option.map_eq_some_iff.mp h
      clear h
      subst h8_2
      have h := h9_2
      clear h9_2
      refine jE_blk (bs := []) (i := .return_) (a1 := 0) (a2 := 0) (pc1 := 47) (l1 := [(0, .ref 5), (1, .int x1)]) (st1 := []) (σ1 := σ) (by decide +kernel) rfl (fun hC => ?_)
      have h9 := Option.some.inj h
      subst h9
      have e9 : ((none, σ) : Option Value × jx_S) = res := hK
      subst e9
      exact jE_ret hC rfl
    · rw [if_neg hc] at h
      refine jE_ifF 47 hC (by decide) hc ?_
      refine jE_blk (bs := [(.aload_n 0, 0, 0), (.iload_n 1, 0, 0)]) (i := .invokevirtual 52) (a1 := 44) (a2 := 0) (pc1 := 38) (l1 := [(0, .ref 5), (1, .int x1)]) (st1 := [.int x1, .ref 5]) (σ1 := σ) (by decide +kernel) rfl (fun hC => ?_)
      obtain ⟨q3, hq, h⟩ := Option.bind_eq_some_iff.mp h
      refine jE_call (as := [.ref 5, .int x1]) (pc1 := 41) (st1 := []) hC rfl (by decide) (by omega) (x_cRea_readFunction (d - 1) (by omega) x1 σ q3 (none, q3) hq rfl) ?_
      refine jE_blk (bs := [(.iinc 1 (1), 2, 2), (.goto (-21), 0, 0)]) (i := .iload_n 1) (a1 := 0) (a2 := 0) (pc1 := 23) (l1 := [(1, .int (x1 + 1)), (0, .ref 5)]) (st1 := []) (σ1 := q3) (by decide +kernel) rfl (fun hC => ?_)
      have h9 := Option.some.inj h
      subst h9
      exact jE_loc (l := [(0, .ref 5), (1, .int (x1 + 1))]) (ks := [0, 1]) rfl (by decide) ⟨rfl, rfl, trivial⟩ hK
def p_cRea_readProgram_23 (x1 : Int32) (σ : jx_S) : Option jx_S := jx_loop 100000000 (fun s => p_cRea_readProgram_23_s s.1 (s.2)) (x1, σ)
theorem x_cRea_readProgram_23 (d : Nat) (hd : 332 ≤ d) (x1 : Int32) (σ : jx_S) (t : jx_S) (res : Option Value × jx_S) (h : p_cRea_readProgram_23 x1 σ = some t) (hK : kkV t res) : jE d 43 23 [(0, .ref 5), (1, .int x1)] [] σ res := by
  refine jx_loop_ok (E := fun s t => ∀ res, kkV t res → jE d 43 23 [(0, .ref 5), (1, .int s.1)] [] s.2 res) (fun s t hs => ?_) _ _ _ h res hK
  cases t with
  | inl s1 => exact fun b hb res hk => x_cRea_readProgram_23_s d hd (s.1) (s.2) _ res hs (hb res hk)
  | inr b => exact fun res hk => x_cRea_readProgram_23_s d hd (s.1) (s.2) _ res hs hk
def p_cRea_readProgram (σ : jx_S) : Option jx_S := (p_cRea_readProgram_23 (0 : Int32) (jx_i (jx_i (jx_i σ 5 6 (0 : Int32)) 3 9 (0 : Int32)) 4 10 (0 : Int32)))
theorem x_cRea_readProgram (d : Nat) (hd : 332 ≤ d) (σ : jx_S) (t : jx_S) (res : Option Value × jx_S) (h : p_cRea_readProgram σ = some t) (hK : kkV t res) : jE d 43 0 [(0, .ref 5)] [] σ res := by
  unfold p_cRea_readProgram at h
  refine jE_blk (bs := [(.aload_n 0, 0, 0), (.iconst (0), 0, 0), (.putfield 36, 5, 6), (.aload_n 0, 0, 0), (.getfield 24, 5, 1), (.iconst (0), 0, 0), (.putfield 40, 3, 9), (.aload_n 0, 0, 0), (.getfield 28, 5, 2), (.iconst (0), 0, 0), (.putfield 45, 4, 10), (.iconst (0), 0, 0), (.istore_n 1, 2, 0)]) (i := .iload_n 1) (a1 := 0) (a2 := 0) (pc1 := 23) (l1 := [(1, .int (0 : Int32)), (0, .ref 5)]) (st1 := []) (σ1 := (jx_i (jx_i (jx_i σ 5 6 (0 : Int32)) 3 9 (0 : Int32)) 4 10 (0 : Int32))) (by decide +kernel) rfl (fun hC => ?_)
  exact jE_loc (l := [(0, .ref 5), (1, .int (0 : Int32))]) (ks := [0, 1]) rfl (by decide) ⟨rfl, rfl, trivial⟩ (x_cRea_readProgram_23 d hd (0 : Int32) (jx_i (jx_i (jx_i σ 5 6 (0 : Int32)) 3 9 (0 : Int32)) 4 10 (0 : Int32)) _ res h hK)
def p_cTyp_tell (x1 : Int32) (x2 : Int32) (σ : jx_S) : Option jx_S := ((p_cFau_tell x1 (jI_at 1201 (σ.1 17) x2) σ).bind fun q1 => (some (q1)))
theorem x_cTyp_tell (d : Nat) (hd : 1 ≤ d) (x1 : Int32) (x2 : Int32) (σ : jx_S) (t : jx_S) (res : Option Value × jx_S) (h : p_cTyp_tell x1 x2 σ = some t) (hK : kkV t res) : jE d 80 0 [(0, .ref 6), (1, .int x1), (2, .int x2)] [] σ res := by
  unfold p_cTyp_tell at h
  refine jE_blk (bs := [(.aload_n 0, 0, 0), (.getfield 23, 6, 3), (.iload_n 1, 0, 0), (.aload_n 0, 0, 0), (.getfield 9, 6, 0), (.getfield 168, 2, 1), (.iload_n 2, 0, 0)]) (i := .invokevirtual 53) (a1 := 136) (a2 := 0) (pc1 := 13) (l1 := [(0, .ref 6), (1, .int x1), (2, .int x2)]) (st1 := [.int x2, .ref 16, .int x1, .ref 1]) (σ1 := σ) (by decide +kernel) rfl (fun hC => ?_)
  refine jE_call (as := [.ref 16, .int x2]) (pc1 := 16) (st1 := [.int x1, .ref 1]) hC rfl (by decide) (by omega) (xI_at (d - 1) 16 1201 x2 σ (by decide) rfl rfl) ?_
  refine jE_blk (bs := []) (i := .invokevirtual 171) (a1 := 18) (a2 := 0) (pc1 := 16) (l1 := [(0, .ref 6), (1, .int x1), (2, .int x2)]) (st1 := [.int (jI_at 1201 (σ.1 17) x2), .int x1, .ref 1]) (σ1 := σ) (by decide +kernel) rfl (fun hC => ?_)
  obtain ⟨q1, hq, h⟩ := Option.bind_eq_some_iff.mp h
  refine jE_call (as := [.ref 1, .int x1, .int (jI_at 1201 (σ.1 17) x2)]) (pc1 := 19) (st1 := []) hC rfl (by decide) (by omega) (x_cFau_tell (d - 1) (by omega) x1 (jI_at 1201 (σ.1 17) x2) σ q1 (none, q1) hq rfl) ?_
  refine jE_blk (bs := []) (i := .return_) (a1 := 0) (a2 := 0) (pc1 := 19) (l1 := [(0, .ref 6), (1, .int x1), (2, .int x2)]) (st1 := []) (σ1 := q1) (by decide +kernel) rfl (fun hC => ?_)
  have h9 := Option.some.inj h
  subst h9
  have e9 : ((none, q1) : Option Value × jx_S) = res := hK
  subst e9
  exact jE_ret hC rfl
def kk_cTyp_checkNames_2 (d : Nat) (t : ((Int32 × Int32 × jx_S) ⊕ jx_S)) (res : Option Value × jx_S) : Prop := match t with
  | .inl s => jE d 69 2 [(0, .ref 6), (1, .int s.1), (2, .int s.2.1)] [] s.2.2 res
  | .inr t => kkV t res
def kk_cTyp_checkNames_60 (d : Nat) (t : ((Int32 × Int32 × jx_S) ⊕ jx_S)) (res : Option Value × jx_S) : Prop := match t with
  | .inl s => jE d 69 60 [(0, .ref 6), (1, .int s.1), (2, .int s.2.1)] [] s.2.2 res
  | .inr t => kkV t res
def kk_cTyp_checkNames_77 (d : Nat) (t : ((Int32 × Int32 × Int32 × jx_S) ⊕ ((Int32 × Int32 × jx_S) ⊕ jx_S))) (res : Option Value × jx_S) : Prop := match t with
  | .inl s => jE d 69 77 [(0, .ref 6), (1, .int s.1), (2, .int s.2.1), (3, .int s.2.2.1)] [] s.2.2.2 res
  | .inr t => kk_cTyp_checkNames_60 d t res
def p_cTyp_checkNames_121 (x1 : Int32) (x2 : Int32) (x3 : Int32) (σ : jx_S) : Option ((Int32 × Int32 × Int32 × jx_S) ⊕ ((Int32 × Int32 × jx_S) ⊕ jx_S)) := (some (.inl (x1, x2, (x3 + 1), σ)))
theorem x_cTyp_checkNames_121 (d : Nat) (hd : 2 ≤ d) (x1 : Int32) (x2 : Int32) (x3 : Int32) (σ : jx_S) (t : ((Int32 × Int32 × Int32 × jx_S) ⊕ ((Int32 × Int32 × jx_S) ⊕ jx_S))) (res : Option Value × jx_S) (h : p_cTyp_checkNames_121 x1 x2 x3 σ = some t) (hK : kk_cTyp_checkNames_77 d t res) : jE d 69 121 [(0, .ref 6), (1, .int x1), (2, .int x2), (3, .int x3)] [] σ res := by
  unfold p_cTyp_checkNames_121 at h
  refine jE_blk (bs := [(.iinc 3 (1), 4, 2), (.goto (-47), 0, 0)]) (i := .iload_n 3) (a1 := 0) (a2 := 0) (pc1 := 77) (l1 := [(3, .int (x3 + 1)), (0, .ref 6), (1, .int x1), (2, .int x2)]) (st1 := []) (σ1 := σ) (by decide +kernel) rfl (fun hC => ?_)
  have h9 := Option.some.inj h
  subst h9
  exact jE_loc (l := [(0, .ref 6), (1, .int x1), (2, .int x2), (3, .int (x3 + 1))]) (ks := [0, 1, 2, 3]) rfl (by decide) ⟨rfl, rfl, rfl, rfl, trivial⟩ hK
def p_cTyp_checkNames_77_s (x1 : Int32) (x2 : Int32) (x3 : Int32) (σ : jx_S) : Option ((Int32 × Int32 × Int32 × jx_S) ⊕ ((Int32 × Int32 × jx_S) ⊕ jx_S)) := (if x2 ≤ x3 then (Option.map Sum.inr (some (.inl (x1, (x2 + 1), σ)))) else (if (v_cTyp_isSameName (v_cFun_nameOf x1 x3 σ) (v_cFun_nameOf x1 x2 σ) σ) = 0 then (p_cTyp_checkNames_121 x1 x2 x3 σ) else ((p_cTyp_tell (5 : Int32) (v_cFun_nameOf x1 x2 σ) σ).bind fun q3 => (p_cTyp_checkNames_121 x1 x2 x3 q3))))
theorem x_cTyp_checkNames_77_s (d : Nat) (hd : 2 ≤ d) (x1 : Int32) (x2 : Int32) (x3 : Int32) (σ : jx_S) (t : ((Int32 × Int32 × Int32 × jx_S) ⊕ ((Int32 × Int32 × jx_S) ⊕ jx_S))) (res : Option Value × jx_S) (h : p_cTyp_checkNames_77_s x1 x2 x3 σ = some t) (hK : kk_cTyp_checkNames_77 d t res) : jE d 69 77 [(0, .ref 6), (1, .int x1), (2, .int x2), (3, .int x3)] [] σ res := by
  unfold p_cTyp_checkNames_77_s at h
  refine jE_blk (bs := [(.iload_n 3, 0, 0), (.iload_n 2, 0, 0)]) (i := .if_icmp .ge (48)) (a1 := 0) (a2 := 0) (pc1 := 79) (l1 := [(0, .ref 6), (1, .int x1), (2, .int x2), (3, .int x3)]) (st1 := [.int x2, .int x3]) (σ1 := σ) (by decide +kernel) rfl (fun hC => ?_)
  rcases Classical.em (x2 ≤ x3) with hc | hc
  · rw [if_pos hc] at h
    refine jE_icT 127 hC (by decide) hc ?_
    obtain ⟨t9_2, h9_2, h8_2⟩ := Option.map_eq_some_iff.mp h
    clear h
    subst h8_2
    have h := h9_2
    clear h9_2
    refine jE_blk (bs := [(.iinc 2 (1), 4, 2), (.goto (-70), 0, 0)]) (i := .iload_n 2) (a1 := 0) (a2 := 0) (pc1 := 60) (l1 := [(2, .int (x2 + 1)), (0, .ref 6), (1, .int x1), (3, .int x3)]) (st1 := []) (σ1 := σ) (by decide +kernel) rfl (fun hC => ?_)
    have h9 := Option.some.inj h
    subst h9
    exact jE_loc (l := [(0, .ref 6), (1, .int x1), (2, .int (x2 + 1))]) (ks := [0, 1, 2]) rfl (by decide) ⟨rfl, rfl, rfl, trivial⟩ hK
  · rw [if_neg hc] at h
    refine jE_icF 127 hC (by decide) hc ?_
    refine jE_blk (bs := [(.aload_n 0, 0, 0), (.aload_n 0, 0, 0), (.getfield 19, 6, 2), (.iload_n 1, 0, 0), (.iload_n 3, 0, 0)]) (i := .invokevirtual 70) (a1 := 39) (a2 := 0) (pc1 := 89) (l1 := [(0, .ref 6), (1, .int x1), (2, .int x2), (3, .int x3)]) (st1 := [.int x3, .int x1, .ref 4, .ref 6]) (σ1 := σ) (by decide +kernel) rfl (fun hC => ?_)
    refine jE_call (as := [.ref 4, .int x1, .int x3]) (pc1 := 92) (st1 := [.ref 6]) hC rfl (by decide) (by omega) (xv_cFun_nameOf (d - 1) (by omega) x1 x3 σ) ?_
    refine jE_blk (bs := [(.aload_n 0, 0, 0), (.getfield 19, 6, 2), (.iload_n 1, 0, 0), (.iload_n 2, 0, 0)]) (i := .invokevirtual 70) (a1 := 39) (a2 := 0) (pc1 := 98) (l1 := [(0, .ref 6), (1, .int x1), (2, .int x2), (3, .int x3)]) (st1 := [.int x2, .int x1, .ref 4, .int (v_cFun_nameOf x1 x3 σ), .ref 6]) (σ1 := σ) (by decide +kernel) rfl (fun hC => ?_)
    refine jE_call (as := [.ref 4, .int x1, .int x2]) (pc1 := 101) (st1 := [.int (v_cFun_nameOf x1 x3 σ), .ref 6]) hC rfl (by decide) (by omega) (xv_cFun_nameOf (d - 1) (by omega) x1 x2 σ) ?_
    refine jE_blk (bs := []) (i := .invokevirtual 59) (a1 := 77) (a2 := 0) (pc1 := 101) (l1 := [(0, .ref 6), (1, .int x1), (2, .int x2), (3, .int x3)]) (st1 := [.int (v_cFun_nameOf x1 x2 σ), .int (v_cFun_nameOf x1 x3 σ), .ref 6]) (σ1 := σ) (by decide +kernel) rfl (fun hC => ?_)
    refine jE_call (as := [.ref 6, .int (v_cFun_nameOf x1 x3 σ), .int (v_cFun_nameOf x1 x2 σ)]) (pc1 := 104) (st1 := []) hC rfl (by decide) (by omega) (xv_cTyp_isSameName (d - 1) (by omega) (v_cFun_nameOf x1 x3 σ) (v_cFun_nameOf x1 x2 σ) σ) ?_
    refine jE_blk (bs := []) (i := .ifCond .eq (17)) (a1 := 0) (a2 := 0) (pc1 := 104) (l1 := [(0, .ref 6), (1, .int x1), (2, .int x2), (3, .int x3)]) (st1 := [.int (v_cTyp_isSameName (v_cFun_nameOf x1 x3 σ) (v_cFun_nameOf x1 x2 σ) σ)]) (σ1 := σ) (by decide +kernel) rfl (fun hC => ?_)
    rcases Classical.em ((v_cTyp_isSameName (v_cFun_nameOf x1 x3 σ) (v_cFun_nameOf x1 x2 σ) σ) = 0) with hc | hc
    · rw [if_pos hc] at h
      refine jE_ifT 121 hC (by decide) hc ?_
      exact jE_loc (l := [(0, .ref 6), (1, .int x1), (2, .int x2), (3, .int x3)]) (ks := [0, 1, 2, 3]) rfl (by decide) ⟨rfl, rfl, rfl, rfl, trivial⟩ (x_cTyp_checkNames_121 d hd x1 x2 x3 σ _ res h hK)
    · rw [if_neg hc] at h
      refine jE_ifF 121 hC (by decide) hc ?_
      refine jE_blk (bs := [(.aload_n 0, 0, 0), (.iconst (5), 5, 0), (.aload_n 0, 0, 0), (.getfield 19, 6, 2), (.iload_n 1, 0, 0), (.iload_n 2, 0, 0)]) (i := .invokevirtual 70) (a1 := 39) (a2 := 0) (pc1 := 115) (l1 := [(0, .ref 6), (1, .int x1), (2, .int x2), (3, .int x3)]) (st1 := [.int x2, .int x1, .ref 4, .int (5 : Int32), .ref 6]) (σ1 := σ) (by decide +kernel) rfl (fun hC => ?_)
      refine jE_call (as := [.ref 4, .int x1, .int x2]) (pc1 := 118) (st1 := [.int (5 : Int32), .ref 6]) hC rfl (by decide) (by omega) (xv_cFun_nameOf (d - 1) (by omega) x1 x2 σ) ?_
      refine jE_blk (bs := []) (i := .invokevirtual 63) (a1 := 80) (a2 := 0) (pc1 := 118) (l1 := [(0, .ref 6), (1, .int x1), (2, .int x2), (3, .int x3)]) (st1 := [.int (v_cFun_nameOf x1 x2 σ), .int (5 : Int32), .ref 6]) (σ1 := σ) (by decide +kernel) rfl (fun hC => ?_)
      obtain ⟨q3, hq, h⟩ := Option.bind_eq_some_iff.mp h
      refine jE_call (as := [.ref 6, .int (5 : Int32), .int (v_cFun_nameOf x1 x2 σ)]) (pc1 := 121) (st1 := []) hC rfl (by decide) (by omega) (x_cTyp_tell (d - 1) (by omega) (5 : Int32) (v_cFun_nameOf x1 x2 σ) σ q3 (none, q3) hq rfl) ?_
      exact jE_loc (l := [(0, .ref 6), (1, .int x1), (2, .int x2), (3, .int x3)]) (ks := [0, 1, 2, 3]) rfl (by decide) ⟨rfl, rfl, rfl, rfl, trivial⟩ (x_cTyp_checkNames_121 d hd x1 x2 x3 q3 _ res h hK)
def p_cTyp_checkNames_77 (x1 : Int32) (x2 : Int32) (x3 : Int32) (σ : jx_S) : Option ((Int32 × Int32 × jx_S) ⊕ jx_S) := jx_loop 100000000 (fun s => p_cTyp_checkNames_77_s s.1 s.2.1 s.2.2.1 (s.2.2.2)) (x1, x2, x3, σ)
theorem x_cTyp_checkNames_77 (d : Nat) (hd : 2 ≤ d) (x1 : Int32) (x2 : Int32) (x3 : Int32) (σ : jx_S) (t : ((Int32 × Int32 × jx_S) ⊕ jx_S)) (res : Option Value × jx_S) (h : p_cTyp_checkNames_77 x1 x2 x3 σ = some t) (hK : kk_cTyp_checkNames_60 d t res) : jE d 69 77 [(0, .ref 6), (1, .int x1), (2, .int x2), (3, .int x3)] [] σ res := by
  refine jx_loop_ok (E := fun s t => ∀ res, kk_cTyp_checkNames_60 d t res → jE d 69 77 [(0, .ref 6), (1, .int s.1), (2, .int s.2.1), (3, .int s.2.2.1)] [] s.2.2.2 res) (fun s t hs => ?_) _ _ _ h res hK
  cases t with
  | inl s1 => exact fun b hb res hk => x_cTyp_checkNames_77_s d hd (s.1) (s.2.1) (s.2.2.1) (s.2.2.2) _ res hs (hb res hk)
  | inr b => exact fun res hk => x_cTyp_checkNames_77_s d hd (s.1) (s.2.1) (s.2.2.1) (s.2.2.2) _ res hs hk
def p_cTyp_checkNames_60_s (x1 : Int32) (x2 : Int32) (σ : jx_S) : Option ((Int32 × Int32 × jx_S) ⊕ jx_S) := (if (jI_at 40 (σ.1 43) x1) ≤ x2 then (Option.map Sum.inr (some (σ))) else (p_cTyp_checkNames_77 x1 x2 (0 : Int32) σ))
theorem x_cTyp_checkNames_60_s (d : Nat) (hd : 2 ≤ d) (x1 : Int32) (x2 : Int32) (σ : jx_S) (t : ((Int32 × Int32 × jx_S) ⊕ jx_S)) (res : Option Value × jx_S) (h : p_cTyp_checkNames_60_s x1 x2 σ = some t) (hK : kk_cTyp_checkNames_60 d t res) : jE d 69 60 [(0, .ref 6), (1, .int x1), (2, .int x2)] [] σ res := by
  unfold p_cTyp_checkNames_60_s at h
  refine jE_blk (bs := [(.iload_n 2, 0, 0), (.aload_n 0, 0, 0), (.getfield 19, 6, 2), (.getfield 67, 4, 1), (.iload_n 1, 0, 0)]) (i := .invokevirtual 53) (a1 := 136) (a2 := 0) (pc1 := 69) (l1 := [(0, .ref 6), (1, .int x1), (2, .int x2)]) (st1 := [.int x1, .ref 42, .int x2]) (σ1 := σ) (by decide +kernel) rfl (fun hC => ?_)
  refine jE_call (as := [.ref 42, .int x1]) (pc1 := 72) (st1 := [.int x2]) hC rfl (by decide) (by omega) (xI_at (d - 1) 42 40 x1 σ (by decide) rfl rfl) ?_
  refine jE_blk (bs := []) (i := .if_icmp .ge (61)) (a1 := 0) (a2 := 0) (pc1 := 72) (l1 := [(0, .ref 6), (1, .int x1), (2, .int x2)]) (st1 := [.int (jI_at 40 (σ.1 43) x1), .int x2]) (σ1 := σ) (by decide +kernel) rfl (fun hC => ?_)
  rcases Classical.em ((jI_at 40 (σ.1 43) x1) ≤ x2) with hc | hc
  · rw [if_pos hc] at h
    refine jE_icT 133 hC (by decide) hc ?_
    obtain ⟨t9_1, h9_1, h8_1⟩ := Option.map_eq_some_iff.mp h
    clear h
    subst h8_1
    have h := h9_1
    clear h9_1
    refine jE_blk (bs := []) (i := .return_) (a1 := 0) (a2 := 0) (pc1 := 133) (l1 := [(0, .ref 6), (1, .int x1), (2, .int x2)]) (st1 := []) (σ1 := σ) (by decide +kernel) rfl (fun hC => ?_)
    have h9 := Option.some.inj h
    subst h9
    have e9 : ((none, σ) : Option Value × jx_S) = res := hK
    subst e9
    exact jE_ret hC rfl
  · rw [if_neg hc] at h
    refine jE_icF 133 hC (by decide) hc ?_
    refine jE_blk (bs := [(.iconst (0), 0, 0), (.istore_n 3, 4, 0)]) (i := .iload_n 3) (a1 := 0) (a2 := 0) (pc1 := 77) (l1 := [(3, .int (0 : Int32)), (0, .ref 6), (1, .int x1), (2, .int x2)]) (st1 := []) (σ1 := σ) (by decide +kernel) rfl (fun hC => ?_)
    exact jE_loc (l := [(0, .ref 6), (1, .int x1), (2, .int x2), (3, .int (0 : Int32))]) (ks := [0, 1, 2, 3]) rfl (by decide) ⟨rfl, rfl, rfl, rfl, trivial⟩ (x_cTyp_checkNames_77 d hd x1 x2 (0 : Int32) σ _ res h hK)
def p_cTyp_checkNames_60 (x1 : Int32) (x2 : Int32) (σ : jx_S) : Option jx_S := jx_loop 100000000 (fun s => p_cTyp_checkNames_60_s s.1 s.2.1 (s.2.2)) (x1, x2, σ)
theorem x_cTyp_checkNames_60 (d : Nat) (hd : 2 ≤ d) (x1 : Int32) (x2 : Int32) (σ : jx_S) (t : jx_S) (res : Option Value × jx_S) (h : p_cTyp_checkNames_60 x1 x2 σ = some t) (hK : kkV t res) : jE d 69 60 [(0, .ref 6), (1, .int x1), (2, .int x2)] [] σ res := by
  refine jx_loop_ok (E := fun s t => ∀ res, kkV t res → jE d 69 60 [(0, .ref 6), (1, .int s.1), (2, .int s.2.1)] [] s.2.2 res) (fun s t hs => ?_) _ _ _ h res hK
  cases t with
  | inl s1 => exact fun b hb res hk => x_cTyp_checkNames_60_s d hd (s.1) (s.2.1) (s.2.2) _ res hs (hb res hk)
  | inr b => exact fun res hk => x_cTyp_checkNames_60_s d hd (s.1) (s.2.1) (s.2.2) _ res hs hk
def p_cTyp_checkNames_52 (x1 : Int32) (x2 : Int32) (σ : jx_S) : Option ((Int32 × Int32 × jx_S) ⊕ jx_S) := (some (.inl (x1, (x2 + 1), σ)))
theorem x_cTyp_checkNames_52 (d : Nat) (hd : 2 ≤ d) (x1 : Int32) (x2 : Int32) (σ : jx_S) (t : ((Int32 × Int32 × jx_S) ⊕ jx_S)) (res : Option Value × jx_S) (h : p_cTyp_checkNames_52 x1 x2 σ = some t) (hK : kk_cTyp_checkNames_2 d t res) : jE d 69 52 [(0, .ref 6), (1, .int x1), (2, .int x2)] [] σ res := by
  unfold p_cTyp_checkNames_52 at h
  refine jE_blk (bs := [(.iinc 2 (1), 4, 2), (.goto (-53), 0, 0)]) (i := .iload_n 2) (a1 := 0) (a2 := 0) (pc1 := 2) (l1 := [(2, .int (x2 + 1)), (0, .ref 6), (1, .int x1)]) (st1 := []) (σ1 := σ) (by decide +kernel) rfl (fun hC => ?_)
  have h9 := Option.some.inj h
  subst h9
  exact jE_loc (l := [(0, .ref 6), (1, .int x1), (2, .int (x2 + 1))]) (ks := [0, 1, 2]) rfl (by decide) ⟨rfl, rfl, rfl, trivial⟩ hK
def p_cTyp_checkNames_2_s (x1 : Int32) (x2 : Int32) (σ : jx_S) : Option ((Int32 × Int32 × jx_S) ⊕ jx_S) := (if x1 ≤ x2 then (Option.map Sum.inr (p_cTyp_checkNames_60 x1 (0 : Int32) σ)) else (if (v_cTyp_isSameName (jI_at 40 (σ.1 41) x2) (jI_at 40 (σ.1 41) x1) σ) = 0 then (p_cTyp_checkNames_52 x1 x2 σ) else ((p_cTyp_tell (5 : Int32) (jI_at 40 (σ.1 41) x1) σ).bind fun q5 => (p_cTyp_checkNames_52 x1 x2 q5))))
theorem x_cTyp_checkNames_2_s (d : Nat) (hd : 2 ≤ d) (x1 : Int32) (x2 : Int32) (σ : jx_S) (t : ((Int32 × Int32 × jx_S) ⊕ jx_S)) (res : Option Value × jx_S) (h : p_cTyp_checkNames_2_s x1 x2 σ = some t) (hK : kk_cTyp_checkNames_2 d t res) : jE d 69 2 [(0, .ref 6), (1, .int x1), (2, .int x2)] [] σ res := by
  unfold p_cTyp_checkNames_2_s at h
  refine jE_blk (bs := [(.iload_n 2, 0, 0), (.iload_n 1, 0, 0)]) (i := .if_icmp .ge (54)) (a1 := 0) (a2 := 0) (pc1 := 4) (l1 := [(0, .ref 6), (1, .int x1), (2, .int x2)]) (st1 := [.int x1, .int x2]) (σ1 := σ) (by decide +kernel) rfl (fun hC => ?_)
  rcases Classical.em (x1 ≤ x2) with hc | hc
  · rw [if_pos hc] at h
    refine jE_icT 58 hC (by decide) hc ?_
    obtain ⟨t9_4, h9_4, h8_4⟩ := Option.map_eq_some_iff.mp h
    clear h
    subst h8_4
    have h := h9_4
    clear h9_4
    refine jE_blk (bs := [(.iconst (0), 0, 0), (.istore_n 2, 4, 0)]) (i := .iload_n 2) (a1 := 0) (a2 := 0) (pc1 := 60) (l1 := [(2, .int (0 : Int32)), (0, .ref 6), (1, .int x1)]) (st1 := []) (σ1 := σ) (by decide +kernel) rfl (fun hC => ?_)
    exact jE_loc (l := [(0, .ref 6), (1, .int x1), (2, .int (0 : Int32))]) (ks := [0, 1, 2]) rfl (by decide) ⟨rfl, rfl, rfl, trivial⟩ (x_cTyp_checkNames_60 d hd x1 (0 : Int32) σ _ res h hK)
  · rw [if_neg hc] at h
    refine jE_icF 58 hC (by decide) hc ?_
    refine jE_blk (bs := [(.aload_n 0, 0, 0), (.aload_n 0, 0, 0), (.getfield 19, 6, 2), (.getfield 49, 4, 0), (.iload_n 2, 0, 0)]) (i := .invokevirtual 53) (a1 := 136) (a2 := 0) (pc1 := 16) (l1 := [(0, .ref 6), (1, .int x1), (2, .int x2)]) (st1 := [.int x2, .ref 40, .ref 6]) (σ1 := σ) (by decide +kernel) rfl (fun hC => ?_)
    refine jE_call (as := [.ref 40, .int x2]) (pc1 := 19) (st1 := [.ref 6]) hC rfl (by decide) (by omega) (xI_at (d - 1) 40 40 x2 σ (by decide) rfl rfl) ?_
    refine jE_blk (bs := [(.aload_n 0, 0, 0), (.getfield 19, 6, 2), (.getfield 49, 4, 0), (.iload_n 1, 0, 0)]) (i := .invokevirtual 53) (a1 := 136) (a2 := 0) (pc1 := 27) (l1 := [(0, .ref 6), (1, .int x1), (2, .int x2)]) (st1 := [.int x1, .ref 40, .int (jI_at 40 (σ.1 41) x2), .ref 6]) (σ1 := σ) (by decide +kernel) rfl (fun hC => ?_)
    refine jE_call (as := [.ref 40, .int x1]) (pc1 := 30) (st1 := [.int (jI_at 40 (σ.1 41) x2), .ref 6]) hC rfl (by decide) (by omega) (xI_at (d - 1) 40 40 x1 σ (by decide) rfl rfl) ?_
    refine jE_blk (bs := []) (i := .invokevirtual 59) (a1 := 77) (a2 := 0) (pc1 := 30) (l1 := [(0, .ref 6), (1, .int x1), (2, .int x2)]) (st1 := [.int (jI_at 40 (σ.1 41) x1), .int (jI_at 40 (σ.1 41) x2), .ref 6]) (σ1 := σ) (by decide +kernel) rfl (fun hC => ?_)
    refine jE_call (as := [.ref 6, .int (jI_at 40 (σ.1 41) x2), .int (jI_at 40 (σ.1 41) x1)]) (pc1 := 33) (st1 := []) hC rfl (by decide) (by omega) (xv_cTyp_isSameName (d - 1) (by omega) (jI_at 40 (σ.1 41) x2) (jI_at 40 (σ.1 41) x1) σ) ?_
    refine jE_blk (bs := []) (i := .ifCond .eq (19)) (a1 := 0) (a2 := 0) (pc1 := 33) (l1 := [(0, .ref 6), (1, .int x1), (2, .int x2)]) (st1 := [.int (v_cTyp_isSameName (jI_at 40 (σ.1 41) x2) (jI_at 40 (σ.1 41) x1) σ)]) (σ1 := σ) (by decide +kernel) rfl (fun hC => ?_)
    rcases Classical.em ((v_cTyp_isSameName (jI_at 40 (σ.1 41) x2) (jI_at 40 (σ.1 41) x1) σ) = 0) with hc | hc
    · rw [if_pos hc] at h
      refine jE_ifT 52 hC (by decide) hc ?_
      exact jE_loc (l := [(0, .ref 6), (1, .int x1), (2, .int x2)]) (ks := [0, 1, 2]) rfl (by decide) ⟨rfl, rfl, rfl, trivial⟩ (x_cTyp_checkNames_52 d hd x1 x2 σ _ res h hK)
    · rw [if_neg hc] at h
      refine jE_ifF 52 hC (by decide) hc ?_
      refine jE_blk (bs := [(.aload_n 0, 0, 0), (.iconst (5), 5, 0), (.aload_n 0, 0, 0), (.getfield 19, 6, 2), (.getfield 49, 4, 0), (.iload_n 1, 0, 0)]) (i := .invokevirtual 53) (a1 := 136) (a2 := 0) (pc1 := 46) (l1 := [(0, .ref 6), (1, .int x1), (2, .int x2)]) (st1 := [.int x1, .ref 40, .int (5 : Int32), .ref 6]) (σ1 := σ) (by decide +kernel) rfl (fun hC => ?_)
      refine jE_call (as := [.ref 40, .int x1]) (pc1 := 49) (st1 := [.int (5 : Int32), .ref 6]) hC rfl (by decide) (by omega) (xI_at (d - 1) 40 40 x1 σ (by decide) rfl rfl) ?_
      refine jE_blk (bs := []) (i := .invokevirtual 63) (a1 := 80) (a2 := 0) (pc1 := 49) (l1 := [(0, .ref 6), (1, .int x1), (2, .int x2)]) (st1 := [.int (jI_at 40 (σ.1 41) x1), .int (5 : Int32), .ref 6]) (σ1 := σ) (by decide +kernel) rfl (fun hC => ?_)
      obtain ⟨q5, hq, h⟩ := Option.bind_eq_some_iff.mp h
      refine jE_call (as := [.ref 6, .int (5 : Int32), .int (jI_at 40 (σ.1 41) x1)]) (pc1 := 52) (st1 := []) hC rfl (by decide) (by omega) (x_cTyp_tell (d - 1) (by omega) (5 : Int32) (jI_at 40 (σ.1 41) x1) σ q5 (none, q5) hq rfl) ?_
      exact jE_loc (l := [(0, .ref 6), (1, .int x1), (2, .int x2)]) (ks := [0, 1, 2]) rfl (by decide) ⟨rfl, rfl, rfl, trivial⟩ (x_cTyp_checkNames_52 d hd x1 x2 q5 _ res h hK)
def p_cTyp_checkNames_2 (x1 : Int32) (x2 : Int32) (σ : jx_S) : Option jx_S := jx_loop 100000000 (fun s => p_cTyp_checkNames_2_s s.1 s.2.1 (s.2.2)) (x1, x2, σ)
theorem x_cTyp_checkNames_2 (d : Nat) (hd : 2 ≤ d) (x1 : Int32) (x2 : Int32) (σ : jx_S) (t : jx_S) (res : Option Value × jx_S) (h : p_cTyp_checkNames_2 x1 x2 σ = some t) (hK : kkV t res) : jE d 69 2 [(0, .ref 6), (1, .int x1), (2, .int x2)] [] σ res := by
  refine jx_loop_ok (E := fun s t => ∀ res, kkV t res → jE d 69 2 [(0, .ref 6), (1, .int s.1), (2, .int s.2.1)] [] s.2.2 res) (fun s t hs => ?_) _ _ _ h res hK
  cases t with
  | inl s1 => exact fun b hb res hk => x_cTyp_checkNames_2_s d hd (s.1) (s.2.1) (s.2.2) _ res hs (hb res hk)
  | inr b => exact fun res hk => x_cTyp_checkNames_2_s d hd (s.1) (s.2.1) (s.2.2) _ res hs hk
def p_cTyp_checkNames (x1 : Int32) (σ : jx_S) : Option jx_S := (p_cTyp_checkNames_2 x1 (0 : Int32) σ)
theorem x_cTyp_checkNames (d : Nat) (hd : 2 ≤ d) (x1 : Int32) (σ : jx_S) (t : jx_S) (res : Option Value × jx_S) (h : p_cTyp_checkNames x1 σ = some t) (hK : kkV t res) : jE d 69 0 [(0, .ref 6), (1, .int x1)] [] σ res := by
  unfold p_cTyp_checkNames at h
  refine jE_blk (bs := [(.iconst (0), 0, 0), (.istore_n 2, 4, 0)]) (i := .iload_n 2) (a1 := 0) (a2 := 0) (pc1 := 2) (l1 := [(2, .int (0 : Int32)), (0, .ref 6), (1, .int x1)]) (st1 := []) (σ1 := σ) (by decide +kernel) rfl (fun hC => ?_)
  exact jE_loc (l := [(0, .ref 6), (1, .int x1), (2, .int (0 : Int32))]) (ks := [0, 1, 2]) rfl (by decide) ⟨rfl, rfl, rfl, trivial⟩ (x_cTyp_checkNames_2 d hd x1 (0 : Int32) σ _ res h hK)
def p_cTyp_require (x1 : Int32) (x2 : Int32) (σ : jx_S) : Option jx_S := (if ¬ x2 = 0 then (some (σ)) else ((p_cTyp_tell (7 : Int32) (jI_at 1201 (σ.1 25) x1) σ).bind fun q1 => (some (q1))))
theorem x_cTyp_require (d : Nat) (hd : 2 ≤ d) (x1 : Int32) (x2 : Int32) (σ : jx_S) (t : jx_S) (res : Option Value × jx_S) (h : p_cTyp_require x1 x2 σ = some t) (hK : kkV t res) : jE d 79 0 [(0, .ref 6), (1, .int x1), (2, .int x2)] [] σ res := by
  unfold p_cTyp_require at h
  refine jE_blk (bs := [(.iload_n 2, 0, 0)]) (i := .ifCond .ne (20)) (a1 := 0) (a2 := 0) (pc1 := 1) (l1 := [(0, .ref 6), (1, .int x1), (2, .int x2)]) (st1 := [.int x2]) (σ1 := σ) (by decide +kernel) rfl (fun hC => ?_)
  rcases Classical.em (¬ x2 = 0) with hc | hc
  · rw [if_pos hc] at h
    refine jE_ifT 21 hC (by decide) hc ?_
    refine jE_blk (bs := []) (i := .return_) (a1 := 0) (a2 := 0) (pc1 := 21) (l1 := [(0, .ref 6), (1, .int x1), (2, .int x2)]) (st1 := []) (σ1 := σ) (by decide +kernel) rfl (fun hC => ?_)
    have h9 := Option.some.inj h
    subst h9
    have e9 : ((none, σ) : Option Value × jx_S) = res := hK
    subst e9
    exact jE_ret hC rfl
  · rw [if_neg hc] at h
    refine jE_ifF 21 hC (by decide) hc ?_
    refine jE_blk (bs := [(.aload_n 0, 0, 0), (.bipush (7), 7, 0), (.aload_n 0, 0, 0), (.getfield 15, 6, 1), (.getfield 139, 3, 1), (.iload_n 1, 0, 0)]) (i := .invokevirtual 53) (a1 := 136) (a2 := 0) (pc1 := 15) (l1 := [(0, .ref 6), (1, .int x1), (2, .int x2)]) (st1 := [.int x1, .ref 24, .int (7 : Int32), .ref 6]) (σ1 := σ) (by decide +kernel) rfl (fun hC => ?_)
    refine jE_call (as := [.ref 24, .int x1]) (pc1 := 18) (st1 := [.int (7 : Int32), .ref 6]) hC rfl (by decide) (by omega) (xI_at (d - 1) 24 1201 x1 σ (by decide) rfl rfl) ?_
    refine jE_blk (bs := []) (i := .invokevirtual 63) (a1 := 80) (a2 := 0) (pc1 := 18) (l1 := [(0, .ref 6), (1, .int x1), (2, .int x2)]) (st1 := [.int (jI_at 1201 (σ.1 25) x1), .int (7 : Int32), .ref 6]) (σ1 := σ) (by decide +kernel) rfl (fun hC => ?_)
    obtain ⟨q1, hq, h⟩ := Option.bind_eq_some_iff.mp h
    refine jE_call (as := [.ref 6, .int (7 : Int32), .int (jI_at 1201 (σ.1 25) x1)]) (pc1 := 21) (st1 := []) hC rfl (by decide) (by omega) (x_cTyp_tell (d - 1) (by omega) (7 : Int32) (jI_at 1201 (σ.1 25) x1) σ q1 (none, q1) hq rfl) ?_
    refine jE_blk (bs := []) (i := .return_) (a1 := 0) (a2 := 0) (pc1 := 21) (l1 := [(0, .ref 6), (1, .int x1), (2, .int x2)]) (st1 := []) (σ1 := q1) (by decide +kernel) rfl (fun hC => ?_)
    have h9 := Option.some.inj h
    subst h9
    have e9 : ((none, q1) : Option Value × jx_S) = res := hK
    subst e9
    exact jE_ret hC rfl
def kk_cTyp_checkLocal_88 (d : Nat) (t : ((Int32 × Int32 × Int32 × Int32 × jx_S) ⊕ jx_S)) (res : Option Value × jx_S) : Prop := match t with
  | .inl s => jE d 72 88 [(0, .ref 6), (3, .int s.1), (4, .int s.2.1), (5, .int s.2.2.1), (6, .int s.2.2.2.1)] [] s.2.2.2.2 res
  | .inr t => kkV t res
def p_cTyp_checkLocal_88_s (x3 : Int32) (x4 : Int32) (x5 : Int32) (x6 : Int32) (σ : jx_S) : Option ((Int32 × Int32 × Int32 × Int32 × jx_S) ⊕ jx_S) := (if x4 ≤ x6 then (Option.map Sum.inr (some (σ))) else (if ¬ (v_cFau_isTold σ) = 0 then (Option.map Sum.inr (some (σ))) else (some (.inl (x3, x4, (jI_at 1201 (σ.1 29) x5), (x6 + 1), (jI_put 1201 σ 37 x5 (v_cTyp_partOf x3 x6 σ)))))))
theorem x_cTyp_checkLocal_88_s (d : Nat) (hd : 3 ≤ d) (x3 : Int32) (x4 : Int32) (x5 : Int32) (x6 : Int32) (σ : jx_S) (t : ((Int32 × Int32 × Int32 × Int32 × jx_S) ⊕ jx_S)) (res : Option Value × jx_S) (h : p_cTyp_checkLocal_88_s x3 x4 x5 x6 σ = some t) (hK : kk_cTyp_checkLocal_88 d t res) : jE d 72 88 [(0, .ref 6), (3, .int x3), (4, .int x4), (5, .int x5), (6, .int x6)] [] σ res := by
  unfold p_cTyp_checkLocal_88_s at h
  refine jE_blk (bs := [(.iload 6, 0, 0), (.iload 4, 0, 0)]) (i := .if_icmp .ge (51)) (a1 := 0) (a2 := 0) (pc1 := 92) (l1 := [(0, .ref 6), (3, .int x3), (4, .int x4), (5, .int x5), (6, .int x6)]) (st1 := [.int x4, .int x6]) (σ1 := σ) (by decide +kernel) rfl (fun hC => ?_)
  rcases Classical.em (x4 ≤ x6) with hc | hc
  · rw [if_pos hc] at h
    refine jE_icT 143 hC (by decide) hc ?_
    obtain ⟨t9_2, h9_2, h8_2⟩ := Option.map_eq_some_iff.mp h
    clear h
    subst h8_2
    have h := h9_2
    clear h9_2
    refine jE_blk (bs := []) (i := .return_) (a1 := 0) (a2 := 0) (pc1 := 143) (l1 := [(0, .ref 6), (3, .int x3), (4, .int x4), (5, .int x5), (6, .int x6)]) (st1 := []) (σ1 := σ) (by decide +kernel) rfl (fun hC => ?_)
    have h9 := Option.some.inj h
    subst h9
    have e9 : ((none, σ) : Option Value × jx_S) = res := hK
    subst e9
    exact jE_ret hC rfl
  · rw [if_neg hc] at h
    refine jE_icF 143 hC (by decide) hc ?_
    refine jE_blk (bs := [(.aload_n 0, 0, 0), (.getfield 23, 6, 3)]) (i := .invokevirtual 27) (a1 := 17) (a2 := 0) (pc1 := 99) (l1 := [(0, .ref 6), (3, .int x3), (4, .int x4), (5, .int x5), (6, .int x6)]) (st1 := [.ref 1]) (σ1 := σ) (by decide +kernel) rfl (fun hC => ?_)
    refine jE_call (as := [.ref 1]) (pc1 := 102) (st1 := []) hC rfl (by decide) (by omega) (xv_cFau_isTold (d - 1) (by omega) σ) ?_
    refine jE_blk (bs := []) (i := .ifCond .ne (41)) (a1 := 0) (a2 := 0) (pc1 := 102) (l1 := [(0, .ref 6), (3, .int x3), (4, .int x4), (5, .int x5), (6, .int x6)]) (st1 := [.int (v_cFau_isTold σ)]) (σ1 := σ) (by decide +kernel) rfl (fun hC => ?_)
    rcases Classical.em (¬ (v_cFau_isTold σ) = 0) with hc | hc
    · rw [if_pos hc] at h
      refine jE_ifT 143 hC (by decide) hc ?_
      obtain ⟨t9_3, h9_3, h8_3⟩ := Option.map_eq_some_iff.mp h
      clear h
      subst h8_3
      have h := h9_3
      clear h9_3
      refine jE_blk (bs := []) (i := .return_) (a1 := 0) (a2 := 0) (pc1 := 143) (l1 := [(0, .ref 6), (3, .int x3), (4, .int x4), (5, .int x5), (6, .int x6)]) (st1 := []) (σ1 := σ) (by decide +kernel) rfl (fun hC => ?_)
      have h9 := Option.some.inj h
      subst h9
      have e9 : ((none, σ) : Option Value × jx_S) = res := hK
      subst e9
      exact jE_ret hC rfl
    · rw [if_neg hc] at h
      refine jE_ifF 143 hC (by decide) hc ?_
      refine jE_blk (bs := [(.aload_n 0, 0, 0), (.getfield 15, 6, 1), (.getfield 77, 3, 7), (.iload 5, 0, 0), (.iload_n 3, 0, 0), (.iload 6, 0, 0)]) (i := .invokestatic 133) (a1 := 84) (a2 := 0) (pc1 := 117) (l1 := [(0, .ref 6), (3, .int x3), (4, .int x4), (5, .int x5), (6, .int x6)]) (st1 := [.int x6, .int x3, .int x5, .ref 36]) (σ1 := σ) (by decide +kernel) rfl (fun hC => ?_)
      refine jE_call (as := [.int x3, .int x6]) (pc1 := 120) (st1 := [.int x5, .ref 36]) hC rfl (by decide) (by omega) (xv_cTyp_partOf (d - 1) (by omega) x3 x6 σ) ?_
      refine jE_blk (bs := []) (i := .invokevirtual 85) (a1 := 137) (a2 := 0) (pc1 := 120) (l1 := [(0, .ref 6), (3, .int x3), (4, .int x4), (5, .int x5), (6, .int x6)]) (st1 := [.int (v_cTyp_partOf x3 x6 σ), .int x5, .ref 36]) (σ1 := σ) (by decide +kernel) rfl (fun hC => ?_)
      refine jE_call (as := [.ref 36, .int x5, .int (v_cTyp_partOf x3 x6 σ)]) (pc1 := 123) (st1 := []) hC rfl (by decide) (by omega) (xI_put (d - 1) 36 1201 x5 (v_cTyp_partOf x3 x6 σ) σ (by decide) rfl rfl) ?_
      refine jE_blk (bs := [(.aload_n 0, 0, 0), (.getfield 15, 6, 1), (.getfield 136, 3, 3), (.iload 5, 0, 0)]) (i := .invokevirtual 53) (a1 := 136) (a2 := 0) (pc1 := 132) (l1 := [(0, .ref 6), (3, .int x3), (4, .int x4), (5, .int x5), (6, .int x6)]) (st1 := [.int x5, .ref 28]) (σ1 := (jI_put 1201 σ 37 x5 (v_cTyp_partOf x3 x6 σ))) (by decide +kernel) rfl (fun hC => ?_)
      refine jE_call (as := [.ref 28, .int x5]) (pc1 := 135) (st1 := []) hC rfl (by decide) (by omega) (xI_at (d - 1) 28 1201 x5 (jI_put 1201 σ 37 x5 (v_cTyp_partOf x3 x6 σ)) (by decide) rfl rfl) ?_
      refine jE_blk (bs := [(.istore 5, 7, 0), (.iinc 6 (1), 7, 2), (.goto (-52), 0, 0)]) (i := .iload 6) (a1 := 0) (a2 := 0) (pc1 := 88) (l1 := [(6, .int (x6 + 1)), (5, .int (jI_at 1201 (σ.1 29) x5)), (0, .ref 6), (3, .int x3), (4, .int x4)]) (st1 := []) (σ1 := (jI_put 1201 σ 37 x5 (v_cTyp_partOf x3 x6 σ))) (by decide +kernel) rfl (fun hC => ?_)
      have h9 := Option.some.inj h
      subst h9
      exact jE_loc (l := [(0, .ref 6), (3, .int x3), (4, .int x4), (5, .int (jI_at 1201 (σ.1 29) x5)), (6, .int (x6 + 1))]) (ks := [0, 3, 4, 5, 6]) rfl (by decide) ⟨rfl, rfl, rfl, rfl, rfl, trivial⟩ hK
def p_cTyp_checkLocal_88 (x3 : Int32) (x4 : Int32) (x5 : Int32) (x6 : Int32) (σ : jx_S) : Option jx_S := jx_loop 100000000 (fun s => p_cTyp_checkLocal_88_s s.1 s.2.1 s.2.2.1 s.2.2.2.1 (s.2.2.2.2)) (x3, x4, x5, x6, σ)
theorem x_cTyp_checkLocal_88 (d : Nat) (hd : 3 ≤ d) (x3 : Int32) (x4 : Int32) (x5 : Int32) (x6 : Int32) (σ : jx_S) (t : jx_S) (res : Option Value × jx_S) (h : p_cTyp_checkLocal_88 x3 x4 x5 x6 σ = some t) (hK : kkV t res) : jE d 72 88 [(0, .ref 6), (3, .int x3), (4, .int x4), (5, .int x5), (6, .int x6)] [] σ res := by
  refine jx_loop_ok (E := fun s t => ∀ res, kkV t res → jE d 72 88 [(0, .ref 6), (3, .int s.1), (4, .int s.2.1), (5, .int s.2.2.1), (6, .int s.2.2.2.1)] [] s.2.2.2.2 res) (fun s t hs => ?_) _ _ _ h res hK
  cases t with
  | inl s1 => exact fun b hb res hk => x_cTyp_checkLocal_88_s d hd (s.1) (s.2.1) (s.2.2.1) (s.2.2.2.1) (s.2.2.2.2) _ res hs (hb res hk)
  | inr b => exact fun res hk => x_cTyp_checkLocal_88_s d hd (s.1) (s.2.1) (s.2.2.1) (s.2.2.2.1) (s.2.2.2.2) _ res hs hk
def p_cTyp_checkLocal_69 (x2 : Int32) (x3 : Int32) (x4 : Int32) (y0 : Int32) (y1 : Int32) (σ : jx_S) : Option jx_S := ((p_cTyp_require y1 y0 σ).bind fun q1 => (p_cTyp_checkLocal_88 x3 x4 (jI_at 1201 (q1.1 27) x2) (0 : Int32) q1))
theorem x_cTyp_checkLocal_69 (d : Nat) (hd : 3 ≤ d) (x2 : Int32) (x3 : Int32) (x4 : Int32) (y0 : Int32) (y1 : Int32) (σ : jx_S) (t : jx_S) (res : Option Value × jx_S) (h : p_cTyp_checkLocal_69 x2 x3 x4 y0 y1 σ = some t) (hK : kkV t res) : jE d 72 69 [(0, .ref 6), (2, .int x2), (3, .int x3), (4, .int x4)] [.int y0, .int y1, .ref 6] σ res := by
  unfold p_cTyp_checkLocal_69 at h
  refine jE_blk (bs := []) (i := .invokevirtual 107) (a1 := 79) (a2 := 0) (pc1 := 69) (l1 := [(0, .ref 6), (2, .int x2), (3, .int x3), (4, .int x4)]) (st1 := [.int y0, .int y1, .ref 6]) (σ1 := σ) (by decide +kernel) rfl (fun hC => ?_)
  obtain ⟨q1, hq, h⟩ := Option.bind_eq_some_iff.mp h
  refine jE_call (as := [.ref 6, .int y1, .int y0]) (pc1 := 72) (st1 := []) hC rfl (by decide) (by omega) (x_cTyp_require (d - 1) (by omega) y1 y0 σ q1 (none, q1) hq rfl) ?_
  refine jE_blk (bs := [(.aload_n 0, 0, 0), (.getfield 15, 6, 1), (.getfield 130, 3, 2), (.iload_n 2, 0, 0)]) (i := .invokevirtual 53) (a1 := 136) (a2 := 0) (pc1 := 80) (l1 := [(0, .ref 6), (2, .int x2), (3, .int x3), (4, .int x4)]) (st1 := [.int x2, .ref 26]) (σ1 := q1) (by decide +kernel) rfl (fun hC => ?_)
  refine jE_call (as := [.ref 26, .int x2]) (pc1 := 83) (st1 := []) hC rfl (by decide) (by omega) (xI_at (d - 1) 26 1201 x2 q1 (by decide) rfl rfl) ?_
  refine jE_blk (bs := [(.istore 5, 7, 0), (.iconst (0), 0, 0), (.istore 6, 7, 0)]) (i := .iload 6) (a1 := 0) (a2 := 0) (pc1 := 88) (l1 := [(6, .int (0 : Int32)), (5, .int (jI_at 1201 (q1.1 27) x2)), (0, .ref 6), (2, .int x2), (3, .int x3), (4, .int x4)]) (st1 := []) (σ1 := q1) (by decide +kernel) rfl (fun hC => ?_)
  exact jE_loc (l := [(0, .ref 6), (3, .int x3), (4, .int x4), (5, .int (jI_at 1201 (q1.1 27) x2)), (6, .int (0 : Int32))]) (ks := [0, 3, 4, 5, 6]) rfl (by decide) ⟨rfl, rfl, rfl, rfl, rfl, trivial⟩ (x_cTyp_checkLocal_88 d hd x3 x4 (jI_at 1201 (q1.1 27) x2) (0 : Int32) q1 _ res h hK)
def p_cTyp_checkLocal_68 (x2 : Int32) (x3 : Int32) (x4 : Int32) (y0 : Int32) (σ : jx_S) : Option jx_S := (p_cTyp_checkLocal_69 x2 x3 x4 (0 : Int32) y0 σ)
theorem x_cTyp_checkLocal_68 (d : Nat) (hd : 3 ≤ d) (x2 : Int32) (x3 : Int32) (x4 : Int32) (y0 : Int32) (σ : jx_S) (t : jx_S) (res : Option Value × jx_S) (h : p_cTyp_checkLocal_68 x2 x3 x4 y0 σ = some t) (hK : kkV t res) : jE d 72 68 [(0, .ref 6), (2, .int x2), (3, .int x3), (4, .int x4)] [.int y0, .ref 6] σ res := by
  unfold p_cTyp_checkLocal_68 at h
  refine jE_blk (bs := [(.iconst (0), 0, 0)]) (i := .invokevirtual 107) (a1 := 79) (a2 := 0) (pc1 := 69) (l1 := [(0, .ref 6), (2, .int x2), (3, .int x3), (4, .int x4)]) (st1 := [.int (0 : Int32), .int y0, .ref 6]) (σ1 := σ) (by decide +kernel) rfl (fun hC => ?_)
  exact jE_loc (l := [(0, .ref 6), (2, .int x2), (3, .int x3), (4, .int x4)]) (ks := [0, 2, 3, 4]) rfl (by decide) ⟨rfl, rfl, rfl, rfl, trivial⟩ (x_cTyp_checkLocal_69 d hd x2 x3 x4 (0 : Int32) y0 σ _ res h hK)
def p_cTyp_checkLocal (x1 : Int32) (x2 : Int32) (σ : jx_S) : Option jx_S := (if (v_cTyp_takenBy (v_cFun_typeOf x1 (jI_at 1201 (σ.1 33) x2) σ) σ) < (jI_at 1201 (σ.1 35) x2) then (p_cTyp_checkLocal_68 x2 (v_cFun_typeOf x1 (jI_at 1201 (σ.1 33) x2) σ) (jI_at 1201 (σ.1 35) x2) x2 σ) else (if ¬ (v_cTyp_leftOf (v_cFun_typeOf x1 (jI_at 1201 (σ.1 33) x2) σ) (jI_at 1201 (σ.1 35) x2) σ) = (jI_at 1201 (σ.1 37) x2) then (p_cTyp_checkLocal_68 x2 (v_cFun_typeOf x1 (jI_at 1201 (σ.1 33) x2) σ) (jI_at 1201 (σ.1 35) x2) x2 σ) else (p_cTyp_checkLocal_69 x2 (v_cFun_typeOf x1 (jI_at 1201 (σ.1 33) x2) σ) (jI_at 1201 (σ.1 35) x2) (1 : Int32) x2 σ)))
theorem x_cTyp_checkLocal (d : Nat) (hd : 3 ≤ d) (x1 : Int32) (x2 : Int32) (σ : jx_S) (t : jx_S) (res : Option Value × jx_S) (h : p_cTyp_checkLocal x1 x2 σ = some t) (hK : kkV t res) : jE d 72 0 [(0, .ref 6), (1, .int x1), (2, .int x2)] [] σ res := by
  unfold p_cTyp_checkLocal at h
  refine jE_blk (bs := [(.aload_n 0, 0, 0), (.getfield 19, 6, 2), (.iload_n 1, 0, 0), (.aload_n 0, 0, 0), (.getfield 15, 6, 1), (.getfield 111, 3, 5), (.iload_n 2, 0, 0)]) (i := .invokevirtual 53) (a1 := 136) (a2 := 0) (pc1 := 13) (l1 := [(0, .ref 6), (1, .int x1), (2, .int x2)]) (st1 := [.int x2, .ref 32, .int x1, .ref 4]) (σ1 := σ) (by decide +kernel) rfl (fun hC => ?_)
  refine jE_call (as := [.ref 32, .int x2]) (pc1 := 16) (st1 := [.int x1, .ref 4]) hC rfl (by decide) (by omega) (xI_at (d - 1) 32 1201 x2 σ (by decide) rfl rfl) ?_
  refine jE_blk (bs := []) (i := .invokevirtual 114) (a1 := 40) (a2 := 0) (pc1 := 16) (l1 := [(0, .ref 6), (1, .int x1), (2, .int x2)]) (st1 := [.int (jI_at 1201 (σ.1 33) x2), .int x1, .ref 4]) (σ1 := σ) (by decide +kernel) rfl (fun hC => ?_)
  refine jE_call (as := [.ref 4, .int x1, .int (jI_at 1201 (σ.1 33) x2)]) (pc1 := 19) (st1 := []) hC rfl (by decide) (by omega) (xv_cFun_typeOf (d - 1) (by omega) x1 (jI_at 1201 (σ.1 33) x2) σ) ?_
  refine jE_blk (bs := [(.istore_n 3, 7, 0), (.aload_n 0, 0, 0), (.getfield 15, 6, 1), (.getfield 121, 3, 6), (.iload_n 2, 0, 0)]) (i := .invokevirtual 53) (a1 := 136) (a2 := 0) (pc1 := 28) (l1 := [(3, .int (v_cFun_typeOf x1 (jI_at 1201 (σ.1 33) x2) σ)), (0, .ref 6), (1, .int x1), (2, .int x2)]) (st1 := [.int x2, .ref 34]) (σ1 := σ) (by decide +kernel) rfl (fun hC => ?_)
  refine jE_call (as := [.ref 34, .int x2]) (pc1 := 31) (st1 := []) hC rfl (by decide) (by omega) (xI_at (d - 1) 34 1201 x2 σ (by decide) rfl rfl) ?_
  refine jE_blk (bs := [(.istore 4, 7, 0), (.aload_n 0, 0, 0), (.iload_n 2, 0, 0), (.iload 4, 0, 0), (.iload_n 3, 0, 0)]) (i := .invokestatic 124) (a1 := 82) (a2 := 0) (pc1 := 38) (l1 := [(4, .int (jI_at 1201 (σ.1 35) x2)), (3, .int (v_cFun_typeOf x1 (jI_at 1201 (σ.1 33) x2) σ)), (0, .ref 6), (1, .int x1), (2, .int x2)]) (st1 := [.int (v_cFun_typeOf x1 (jI_at 1201 (σ.1 33) x2) σ), .int (jI_at 1201 (σ.1 35) x2), .int x2, .ref 6]) (σ1 := σ) (by decide +kernel) rfl (fun hC => ?_)
  refine jE_call (as := [.int (v_cFun_typeOf x1 (jI_at 1201 (σ.1 33) x2) σ)]) (pc1 := 41) (st1 := [.int (jI_at 1201 (σ.1 35) x2), .int x2, .ref 6]) hC rfl (by decide) (by omega) (xv_cTyp_takenBy (d - 1) (by omega) (v_cFun_typeOf x1 (jI_at 1201 (σ.1 33) x2) σ) σ) ?_
  refine jE_blk (bs := []) (i := .if_icmp .gt (27)) (a1 := 0) (a2 := 0) (pc1 := 41) (l1 := [(4, .int (jI_at 1201 (σ.1 35) x2)), (3, .int (v_cFun_typeOf x1 (jI_at 1201 (σ.1 33) x2) σ)), (0, .ref 6), (1, .int x1), (2, .int x2)]) (st1 := [.int (v_cTyp_takenBy (v_cFun_typeOf x1 (jI_at 1201 (σ.1 33) x2) σ) σ), .int (jI_at 1201 (σ.1 35) x2), .int x2, .ref 6]) (σ1 := σ) (by decide +kernel) rfl (fun hC => ?_)
  rcases Classical.em ((v_cTyp_takenBy (v_cFun_typeOf x1 (jI_at 1201 (σ.1 33) x2) σ) σ) < (jI_at 1201 (σ.1 35) x2)) with hc | hc
  · rw [if_pos hc] at h
    refine jE_icT 68 hC (by decide) hc ?_
    exact jE_loc (l := [(0, .ref 6), (2, .int x2), (3, .int (v_cFun_typeOf x1 (jI_at 1201 (σ.1 33) x2) σ)), (4, .int (jI_at 1201 (σ.1 35) x2))]) (ks := [0, 2, 3, 4]) rfl (by decide) ⟨rfl, rfl, rfl, rfl, trivial⟩ (x_cTyp_checkLocal_68 d hd x2 (v_cFun_typeOf x1 (jI_at 1201 (σ.1 33) x2) σ) (jI_at 1201 (σ.1 35) x2) x2 σ _ res h hK)
  · rw [if_neg hc] at h
    refine jE_icF 68 hC (by decide) hc ?_
    refine jE_blk (bs := [(.iload_n 3, 0, 0), (.iload 4, 0, 0)]) (i := .invokestatic 127) (a1 := 85) (a2 := 0) (pc1 := 47) (l1 := [(4, .int (jI_at 1201 (σ.1 35) x2)), (3, .int (v_cFun_typeOf x1 (jI_at 1201 (σ.1 33) x2) σ)), (0, .ref 6), (1, .int x1), (2, .int x2)]) (st1 := [.int (jI_at 1201 (σ.1 35) x2), .int (v_cFun_typeOf x1 (jI_at 1201 (σ.1 33) x2) σ), .int x2, .ref 6]) (σ1 := σ) (by decide +kernel) rfl (fun hC => ?_)
    refine jE_call (as := [.int (v_cFun_typeOf x1 (jI_at 1201 (σ.1 33) x2) σ), .int (jI_at 1201 (σ.1 35) x2)]) (pc1 := 50) (st1 := [.int x2, .ref 6]) hC rfl (by decide) (by omega) (xv_cTyp_leftOf (d - 1) (by omega) (v_cFun_typeOf x1 (jI_at 1201 (σ.1 33) x2) σ) (jI_at 1201 (σ.1 35) x2) σ) ?_
    refine jE_blk (bs := [(.aload_n 0, 0, 0), (.getfield 15, 6, 1), (.getfield 77, 3, 7), (.iload_n 2, 0, 0)]) (i := .invokevirtual 53) (a1 := 136) (a2 := 0) (pc1 := 58) (l1 := [(4, .int (jI_at 1201 (σ.1 35) x2)), (3, .int (v_cFun_typeOf x1 (jI_at 1201 (σ.1 33) x2) σ)), (0, .ref 6), (1, .int x1), (2, .int x2)]) (st1 := [.int x2, .ref 36, .int (v_cTyp_leftOf (v_cFun_typeOf x1 (jI_at 1201 (σ.1 33) x2) σ) (jI_at 1201 (σ.1 35) x2) σ), .int x2, .ref 6]) (σ1 := σ) (by decide +kernel) rfl (fun hC => ?_)
    refine jE_call (as := [.ref 36, .int x2]) (pc1 := 61) (st1 := [.int (v_cTyp_leftOf (v_cFun_typeOf x1 (jI_at 1201 (σ.1 33) x2) σ) (jI_at 1201 (σ.1 35) x2) σ), .int x2, .ref 6]) hC rfl (by decide) (by omega) (xI_at (d - 1) 36 1201 x2 σ (by decide) rfl rfl) ?_
    refine jE_blk (bs := []) (i := .if_icmp .ne (7)) (a1 := 0) (a2 := 0) (pc1 := 61) (l1 := [(4, .int (jI_at 1201 (σ.1 35) x2)), (3, .int (v_cFun_typeOf x1 (jI_at 1201 (σ.1 33) x2) σ)), (0, .ref 6), (1, .int x1), (2, .int x2)]) (st1 := [.int (jI_at 1201 (σ.1 37) x2), .int (v_cTyp_leftOf (v_cFun_typeOf x1 (jI_at 1201 (σ.1 33) x2) σ) (jI_at 1201 (σ.1 35) x2) σ), .int x2, .ref 6]) (σ1 := σ) (by decide +kernel) rfl (fun hC => ?_)
    rcases Classical.em (¬ (v_cTyp_leftOf (v_cFun_typeOf x1 (jI_at 1201 (σ.1 33) x2) σ) (jI_at 1201 (σ.1 35) x2) σ) = (jI_at 1201 (σ.1 37) x2)) with hc | hc
    · rw [if_pos hc] at h
      refine jE_icT 68 hC (by decide) hc ?_
      exact jE_loc (l := [(0, .ref 6), (2, .int x2), (3, .int (v_cFun_typeOf x1 (jI_at 1201 (σ.1 33) x2) σ)), (4, .int (jI_at 1201 (σ.1 35) x2))]) (ks := [0, 2, 3, 4]) rfl (by decide) ⟨rfl, rfl, rfl, rfl, trivial⟩ (x_cTyp_checkLocal_68 d hd x2 (v_cFun_typeOf x1 (jI_at 1201 (σ.1 33) x2) σ) (jI_at 1201 (σ.1 35) x2) x2 σ _ res h hK)
    · rw [if_neg hc] at h
      refine jE_icF 68 hC (by decide) hc ?_
      refine jE_blk (bs := [(.iconst (1), 1, 0), (.goto (4), 0, 0)]) (i := .invokevirtual 107) (a1 := 79) (a2 := 0) (pc1 := 69) (l1 := [(4, .int (jI_at 1201 (σ.1 35) x2)), (3, .int (v_cFun_typeOf x1 (jI_at 1201 (σ.1 33) x2) σ)), (0, .ref 6), (1, .int x1), (2, .int x2)]) (st1 := [.int (1 : Int32), .int x2, .ref 6]) (σ1 := σ) (by decide +kernel) rfl (fun hC => ?_)
      exact jE_loc (l := [(0, .ref 6), (2, .int x2), (3, .int (v_cFun_typeOf x1 (jI_at 1201 (σ.1 33) x2) σ)), (4, .int (jI_at 1201 (σ.1 35) x2))]) (ks := [0, 2, 3, 4]) rfl (by decide) ⟨rfl, rfl, rfl, rfl, trivial⟩ (x_cTyp_checkLocal_69 d hd x2 (v_cFun_typeOf x1 (jI_at 1201 (σ.1 33) x2) σ) (jI_at 1201 (σ.1 35) x2) (1 : Int32) x2 σ _ res h hK)
def kk_cTyp_findFunction_2 (d : Nat) (t : ((Int32 × Int32 × jx_S) ⊕ (Int32 × jx_S))) (res : Option Value × jx_S) : Prop := match t with
  | .inl s => jE d 76 2 [(0, .ref 6), (1, .int s.1), (2, .int s.2.1)] [] s.2.2 res
  | .inr t => kkI t res
def p_cTyp_findFunction_2_s (x1 : Int32) (x2 : Int32) (σ : jx_S) : Option ((Int32 × Int32 × jx_S) ⊕ (Int32 × jx_S)) := (if (σ.1 4 10) ≤ x2 then (Option.map Sum.inr (some (((-1 : Int32), σ)))) else (if (v_cTyp_isSameName (jI_at 40 (σ.1 41) x2) x1 σ) = 0 then (some (.inl (x1, (x2 + 1), σ))) else (Option.map Sum.inr (some ((x2, σ))))))
theorem x_cTyp_findFunction_2_s (d : Nat) (hd : 2 ≤ d) (x1 : Int32) (x2 : Int32) (σ : jx_S) (t : ((Int32 × Int32 × jx_S) ⊕ (Int32 × jx_S))) (res : Option Value × jx_S) (h : p_cTyp_findFunction_2_s x1 x2 σ = some t) (hK : kk_cTyp_findFunction_2 d t res) : jE d 76 2 [(0, .ref 6), (1, .int x1), (2, .int x2)] [] σ res := by
  unfold p_cTyp_findFunction_2_s at h
  refine jE_blk (bs := [(.iload_n 2, 0, 0), (.aload_n 0, 0, 0), (.getfield 19, 6, 2), (.getfield 33, 4, 10)]) (i := .if_icmp .ge (30)) (a1 := 0) (a2 := 0) (pc1 := 10) (l1 := [(0, .ref 6), (1, .int x1), (2, .int x2)]) (st1 := [.int (σ.1 4 10), .int x2]) (σ1 := σ) (by decide +kernel) rfl (fun hC => ?_)
  rcases Classical.em ((σ.1 4 10) ≤ x2) with hc | hc
  · rw [if_pos hc] at h
    refine jE_icT 40 hC (by decide) hc ?_
    obtain ⟨t9_1, h9_1, h8_1⟩ := Option.map_eq_some_iff.mp h
    clear h
    subst h8_1
    have h := h9_1
    clear h9_1
    refine jE_blk (bs := [(.iconst (-1), 1, 1)]) (i := .ireturn) (a1 := 0) (a2 := 0) (pc1 := 41) (l1 := [(0, .ref 6), (1, .int x1), (2, .int x2)]) (st1 := [.int (-1 : Int32)]) (σ1 := σ) (by decide +kernel) rfl (fun hC => ?_)
    have h9 := Option.some.inj h
    subst h9
    have e9 : ((some (.int (-1 : Int32)), σ) : Option Value × jx_S) = res := hK
    subst e9
    exact jE_ret hC rfl
  · rw [if_neg hc] at h
    refine jE_icF 40 hC (by decide) hc ?_
    refine jE_blk (bs := [(.aload_n 0, 0, 0), (.aload_n 0, 0, 0), (.getfield 19, 6, 2), (.getfield 49, 4, 0), (.iload_n 2, 0, 0)]) (i := .invokevirtual 53) (a1 := 136) (a2 := 0) (pc1 := 22) (l1 := [(0, .ref 6), (1, .int x1), (2, .int x2)]) (st1 := [.int x2, .ref 40, .ref 6]) (σ1 := σ) (by decide +kernel) rfl (fun hC => ?_)
    refine jE_call (as := [.ref 40, .int x2]) (pc1 := 25) (st1 := [.ref 6]) hC rfl (by decide) (by omega) (xI_at (d - 1) 40 40 x2 σ (by decide) rfl rfl) ?_
    refine jE_blk (bs := [(.iload_n 1, 0, 0)]) (i := .invokevirtual 59) (a1 := 77) (a2 := 0) (pc1 := 26) (l1 := [(0, .ref 6), (1, .int x1), (2, .int x2)]) (st1 := [.int x1, .int (jI_at 40 (σ.1 41) x2), .ref 6]) (σ1 := σ) (by decide +kernel) rfl (fun hC => ?_)
    refine jE_call (as := [.ref 6, .int (jI_at 40 (σ.1 41) x2), .int x1]) (pc1 := 29) (st1 := []) hC rfl (by decide) (by omega) (xv_cTyp_isSameName (d - 1) (by omega) (jI_at 40 (σ.1 41) x2) x1 σ) ?_
    refine jE_blk (bs := []) (i := .ifCond .eq (5)) (a1 := 0) (a2 := 0) (pc1 := 29) (l1 := [(0, .ref 6), (1, .int x1), (2, .int x2)]) (st1 := [.int (v_cTyp_isSameName (jI_at 40 (σ.1 41) x2) x1 σ)]) (σ1 := σ) (by decide +kernel) rfl (fun hC => ?_)
    rcases Classical.em ((v_cTyp_isSameName (jI_at 40 (σ.1 41) x2) x1 σ) = 0) with hc | hc
    · rw [if_pos hc] at h
      refine jE_ifT 34 hC (by decide) hc ?_
      refine jE_blk (bs := [(.iinc 2 (1), 3, 2), (.goto (-35), 0, 0)]) (i := .iload_n 2) (a1 := 0) (a2 := 0) (pc1 := 2) (l1 := [(2, .int (x2 + 1)), (0, .ref 6), (1, .int x1)]) (st1 := []) (σ1 := σ) (by decide +kernel) rfl (fun hC => ?_)
      have h9 := Option.some.inj h
      subst h9
      exact jE_loc (l := [(0, .ref 6), (1, .int x1), (2, .int (x2 + 1))]) (ks := [0, 1, 2]) rfl (by decide) ⟨rfl, rfl, rfl, trivial⟩ hK
    · rw [if_neg hc] at h
      refine jE_ifF 34 hC (by decide) hc ?_
      obtain ⟨t9_2, h9_2, h8_2⟩ := Option.map_eq_some_iff.mp h
      clear h
      subst h8_2
      have h := h9_2
      clear h9_2
      refine jE_blk (bs := [(.iload_n 2, 0, 0)]) (i := .ireturn) (a1 := 0) (a2 := 0) (pc1 := 33) (l1 := [(0, .ref 6), (1, .int x1), (2, .int x2)]) (st1 := [.int x2]) (σ1 := σ) (by decide +kernel) rfl (fun hC => ?_)
      have h9 := Option.some.inj h
      subst h9
      have e9 : ((some (.int x2), σ) : Option Value × jx_S) = res := hK
      subst e9
      exact jE_ret hC rfl
def p_cTyp_findFunction_2 (x1 : Int32) (x2 : Int32) (σ : jx_S) : Option (Int32 × jx_S) := jx_loop 100000000 (fun s => p_cTyp_findFunction_2_s s.1 s.2.1 (s.2.2)) (x1, x2, σ)
theorem x_cTyp_findFunction_2 (d : Nat) (hd : 2 ≤ d) (x1 : Int32) (x2 : Int32) (σ : jx_S) (t : (Int32 × jx_S)) (res : Option Value × jx_S) (h : p_cTyp_findFunction_2 x1 x2 σ = some t) (hK : kkI t res) : jE d 76 2 [(0, .ref 6), (1, .int x1), (2, .int x2)] [] σ res := by
  refine jx_loop_ok (E := fun s t => ∀ res, kkI t res → jE d 76 2 [(0, .ref 6), (1, .int s.1), (2, .int s.2.1)] [] s.2.2 res) (fun s t hs => ?_) _ _ _ h res hK
  cases t with
  | inl s1 => exact fun b hb res hk => x_cTyp_findFunction_2_s d hd (s.1) (s.2.1) (s.2.2) _ res hs (hb res hk)
  | inr b => exact fun res hk => x_cTyp_findFunction_2_s d hd (s.1) (s.2.1) (s.2.2) _ res hs hk
def p_cTyp_findFunction (x1 : Int32) (σ : jx_S) : Option (Int32 × jx_S) := (p_cTyp_findFunction_2 x1 (0 : Int32) σ)
theorem x_cTyp_findFunction (d : Nat) (hd : 2 ≤ d) (x1 : Int32) (σ : jx_S) (t : (Int32 × jx_S)) (res : Option Value × jx_S) (h : p_cTyp_findFunction x1 σ = some t) (hK : kkI t res) : jE d 76 0 [(0, .ref 6), (1, .int x1)] [] σ res := by
  unfold p_cTyp_findFunction at h
  refine jE_blk (bs := [(.iconst (0), 0, 0), (.istore_n 2, 3, 0)]) (i := .iload_n 2) (a1 := 0) (a2 := 0) (pc1 := 2) (l1 := [(2, .int (0 : Int32)), (0, .ref 6), (1, .int x1)]) (st1 := []) (σ1 := σ) (by decide +kernel) rfl (fun hC => ?_)
  exact jE_loc (l := [(0, .ref 6), (1, .int x1), (2, .int (0 : Int32))]) (ks := [0, 1, 2]) rfl (by decide) ⟨rfl, rfl, rfl, trivial⟩ (x_cTyp_findFunction_2 d hd x1 (0 : Int32) σ _ res h hK)
def kk_cTyp_checkCall_124 (d : Nat) (t : ((Int32 × Int32 × Int32 × Int32 × jx_S) ⊕ jx_S)) (res : Option Value × jx_S) : Prop := match t with
  | .inl s => jE d 73 124 [(0, .ref 6), (2, .int s.1), (3, .int s.2.1), (4, .int s.2.2.1), (5, .int s.2.2.2.1)] [] s.2.2.2.2 res
  | .inr t => kkV t res
def p_cTyp_checkCall_124_s (x2 : Int32) (x3 : Int32) (x4 : Int32) (x5 : Int32) (σ : jx_S) : Option ((Int32 × Int32 × Int32 × Int32 × jx_S) ⊕ jx_S) := (if x3 ≤ x5 then (Option.map Sum.inr (some (σ))) else (if ¬ (v_cFau_isTold σ) = 0 then (Option.map Sum.inr (some (σ))) else (some (.inl (x2, x3, (jI_at 1201 (σ.1 29) x4), (x5 + 1), (jI_put 1201 σ 37 x4 (v_cFun_typeOf x2 x5 σ)))))))
theorem x_cTyp_checkCall_124_s (d : Nat) (hd : 3 ≤ d) (x2 : Int32) (x3 : Int32) (x4 : Int32) (x5 : Int32) (σ : jx_S) (t : ((Int32 × Int32 × Int32 × Int32 × jx_S) ⊕ jx_S)) (res : Option Value × jx_S) (h : p_cTyp_checkCall_124_s x2 x3 x4 x5 σ = some t) (hK : kk_cTyp_checkCall_124 d t res) : jE d 73 124 [(0, .ref 6), (2, .int x2), (3, .int x3), (4, .int x4), (5, .int x5)] [] σ res := by
  unfold p_cTyp_checkCall_124_s at h
  refine jE_blk (bs := [(.iload 5, 0, 0), (.iload_n 3, 0, 0)]) (i := .if_icmp .ge (55)) (a1 := 0) (a2 := 0) (pc1 := 127) (l1 := [(0, .ref 6), (2, .int x2), (3, .int x3), (4, .int x4), (5, .int x5)]) (st1 := [.int x3, .int x5]) (σ1 := σ) (by decide +kernel) rfl (fun hC => ?_)
  rcases Classical.em (x3 ≤ x5) with hc | hc
  · rw [if_pos hc] at h
    refine jE_icT 182 hC (by decide) hc ?_
    obtain ⟨t9_3, h9_3, h8_3⟩ := Option.map_eq_some_iff.mp h
    clear h
    subst h8_3
    have h := h9_3
    clear h9_3
    refine jE_blk (bs := []) (i := .return_) (a1 := 0) (a2 := 0) (pc1 := 182) (l1 := [(0, .ref 6), (2, .int x2), (3, .int x3), (4, .int x4), (5, .int x5)]) (st1 := []) (σ1 := σ) (by decide +kernel) rfl (fun hC => ?_)
    have h9 := Option.some.inj h
    subst h9
    have e9 : ((none, σ) : Option Value × jx_S) = res := hK
    subst e9
    exact jE_ret hC rfl
  · rw [if_neg hc] at h
    refine jE_icF 182 hC (by decide) hc ?_
    refine jE_blk (bs := [(.aload_n 0, 0, 0), (.getfield 23, 6, 3)]) (i := .invokevirtual 27) (a1 := 17) (a2 := 0) (pc1 := 134) (l1 := [(0, .ref 6), (2, .int x2), (3, .int x3), (4, .int x4), (5, .int x5)]) (st1 := [.ref 1]) (σ1 := σ) (by decide +kernel) rfl (fun hC => ?_)
    refine jE_call (as := [.ref 1]) (pc1 := 137) (st1 := []) hC rfl (by decide) (by omega) (xv_cFau_isTold (d - 1) (by omega) σ) ?_
    refine jE_blk (bs := []) (i := .ifCond .ne (45)) (a1 := 0) (a2 := 0) (pc1 := 137) (l1 := [(0, .ref 6), (2, .int x2), (3, .int x3), (4, .int x4), (5, .int x5)]) (st1 := [.int (v_cFau_isTold σ)]) (σ1 := σ) (by decide +kernel) rfl (fun hC => ?_)
    rcases Classical.em (¬ (v_cFau_isTold σ) = 0) with hc | hc
    · rw [if_pos hc] at h
      refine jE_ifT 182 hC (by decide) hc ?_
      obtain ⟨t9_4, h9_4, h8_4⟩ := Option.map_eq_some_iff.mp h
      clear h
      subst h8_4
      have h := h9_4
      clear h9_4
      refine jE_blk (bs := []) (i := .return_) (a1 := 0) (a2 := 0) (pc1 := 182) (l1 := [(0, .ref 6), (2, .int x2), (3, .int x3), (4, .int x4), (5, .int x5)]) (st1 := []) (σ1 := σ) (by decide +kernel) rfl (fun hC => ?_)
      have h9 := Option.some.inj h
      subst h9
      have e9 : ((none, σ) : Option Value × jx_S) = res := hK
      subst e9
      exact jE_ret hC rfl
    · rw [if_neg hc] at h
      refine jE_ifF 182 hC (by decide) hc ?_
      refine jE_blk (bs := [(.aload_n 0, 0, 0), (.getfield 15, 6, 1), (.getfield 77, 3, 7), (.iload 4, 0, 0), (.aload_n 0, 0, 0), (.getfield 19, 6, 2), (.iload_n 2, 0, 0), (.iload 5, 0, 0)]) (i := .invokevirtual 114) (a1 := 40) (a2 := 0) (pc1 := 156) (l1 := [(0, .ref 6), (2, .int x2), (3, .int x3), (4, .int x4), (5, .int x5)]) (st1 := [.int x5, .int x2, .ref 4, .int x4, .ref 36]) (σ1 := σ) (by decide +kernel) rfl (fun hC => ?_)
      refine jE_call (as := [.ref 4, .int x2, .int x5]) (pc1 := 159) (st1 := [.int x4, .ref 36]) hC rfl (by decide) (by omega) (xv_cFun_typeOf (d - 1) (by omega) x2 x5 σ) ?_
      refine jE_blk (bs := []) (i := .invokevirtual 85) (a1 := 137) (a2 := 0) (pc1 := 159) (l1 := [(0, .ref 6), (2, .int x2), (3, .int x3), (4, .int x4), (5, .int x5)]) (st1 := [.int (v_cFun_typeOf x2 x5 σ), .int x4, .ref 36]) (σ1 := σ) (by decide +kernel) rfl (fun hC => ?_)
      refine jE_call (as := [.ref 36, .int x4, .int (v_cFun_typeOf x2 x5 σ)]) (pc1 := 162) (st1 := []) hC rfl (by decide) (by omega) (xI_put (d - 1) 36 1201 x4 (v_cFun_typeOf x2 x5 σ) σ (by decide) rfl rfl) ?_
      refine jE_blk (bs := [(.aload_n 0, 0, 0), (.getfield 15, 6, 1), (.getfield 136, 3, 3), (.iload 4, 0, 0)]) (i := .invokevirtual 53) (a1 := 136) (a2 := 0) (pc1 := 171) (l1 := [(0, .ref 6), (2, .int x2), (3, .int x3), (4, .int x4), (5, .int x5)]) (st1 := [.int x4, .ref 28]) (σ1 := (jI_put 1201 σ 37 x4 (v_cFun_typeOf x2 x5 σ))) (by decide +kernel) rfl (fun hC => ?_)
      refine jE_call (as := [.ref 28, .int x4]) (pc1 := 174) (st1 := []) hC rfl (by decide) (by omega) (xI_at (d - 1) 28 1201 x4 (jI_put 1201 σ 37 x4 (v_cFun_typeOf x2 x5 σ)) (by decide) rfl rfl) ?_
      refine jE_blk (bs := [(.istore 4, 6, 0), (.iinc 5 (1), 6, 2), (.goto (-55), 0, 0)]) (i := .iload 5) (a1 := 0) (a2 := 0) (pc1 := 124) (l1 := [(5, .int (x5 + 1)), (4, .int (jI_at 1201 (σ.1 29) x4)), (0, .ref 6), (2, .int x2), (3, .int x3)]) (st1 := []) (σ1 := (jI_put 1201 σ 37 x4 (v_cFun_typeOf x2 x5 σ))) (by decide +kernel) rfl (fun hC => ?_)
      have h9 := Option.some.inj h
      subst h9
      exact jE_loc (l := [(0, .ref 6), (2, .int x2), (3, .int x3), (4, .int (jI_at 1201 (σ.1 29) x4)), (5, .int (x5 + 1))]) (ks := [0, 2, 3, 4, 5]) rfl (by decide) ⟨rfl, rfl, rfl, rfl, rfl, trivial⟩ hK
def p_cTyp_checkCall_124 (x2 : Int32) (x3 : Int32) (x4 : Int32) (x5 : Int32) (σ : jx_S) : Option jx_S := jx_loop 100000000 (fun s => p_cTyp_checkCall_124_s s.1 s.2.1 s.2.2.1 s.2.2.2.1 (s.2.2.2.2)) (x2, x3, x4, x5, σ)
theorem x_cTyp_checkCall_124 (d : Nat) (hd : 3 ≤ d) (x2 : Int32) (x3 : Int32) (x4 : Int32) (x5 : Int32) (σ : jx_S) (t : jx_S) (res : Option Value × jx_S) (h : p_cTyp_checkCall_124 x2 x3 x4 x5 σ = some t) (hK : kkV t res) : jE d 73 124 [(0, .ref 6), (2, .int x2), (3, .int x3), (4, .int x4), (5, .int x5)] [] σ res := by
  refine jx_loop_ok (E := fun s t => ∀ res, kkV t res → jE d 73 124 [(0, .ref 6), (2, .int s.1), (3, .int s.2.1), (4, .int s.2.2.1), (5, .int s.2.2.2.1)] [] s.2.2.2.2 res) (fun s t hs => ?_) _ _ _ h res hK
  cases t with
  | inl s1 => exact fun b hb res hk => x_cTyp_checkCall_124_s d hd (s.1) (s.2.1) (s.2.2.1) (s.2.2.2.1) (s.2.2.2.2) _ res hs (hb res hk)
  | inr b => exact fun res hk => x_cTyp_checkCall_124_s d hd (s.1) (s.2.1) (s.2.2.1) (s.2.2.2.1) (s.2.2.2.2) _ res hs hk
def p_cTyp_checkCall_105 (x1 : Int32) (x2 : Int32) (x3 : Int32) (y0 : Int32) (y1 : Int32) (σ : jx_S) : Option jx_S := ((p_cTyp_require y1 y0 σ).bind fun q2 => (p_cTyp_checkCall_124 x2 x3 (jI_at 1201 (q2.1 27) x1) (0 : Int32) q2))
theorem x_cTyp_checkCall_105 (d : Nat) (hd : 3 ≤ d) (x1 : Int32) (x2 : Int32) (x3 : Int32) (y0 : Int32) (y1 : Int32) (σ : jx_S) (t : jx_S) (res : Option Value × jx_S) (h : p_cTyp_checkCall_105 x1 x2 x3 y0 y1 σ = some t) (hK : kkV t res) : jE d 73 105 [(0, .ref 6), (1, .int x1), (2, .int x2), (3, .int x3)] [.int y0, .int y1, .ref 6] σ res := by
  unfold p_cTyp_checkCall_105 at h
  refine jE_blk (bs := []) (i := .invokevirtual 107) (a1 := 79) (a2 := 0) (pc1 := 105) (l1 := [(0, .ref 6), (1, .int x1), (2, .int x2), (3, .int x3)]) (st1 := [.int y0, .int y1, .ref 6]) (σ1 := σ) (by decide +kernel) rfl (fun hC => ?_)
  obtain ⟨q2, hq, h⟩ := Option.bind_eq_some_iff.mp h
  refine jE_call (as := [.ref 6, .int y1, .int y0]) (pc1 := 108) (st1 := []) hC rfl (by decide) (by omega) (x_cTyp_require (d - 1) (by omega) y1 y0 σ q2 (none, q2) hq rfl) ?_
  refine jE_blk (bs := [(.aload_n 0, 0, 0), (.getfield 15, 6, 1), (.getfield 130, 3, 2), (.iload_n 1, 0, 0)]) (i := .invokevirtual 53) (a1 := 136) (a2 := 0) (pc1 := 116) (l1 := [(0, .ref 6), (1, .int x1), (2, .int x2), (3, .int x3)]) (st1 := [.int x1, .ref 26]) (σ1 := q2) (by decide +kernel) rfl (fun hC => ?_)
  refine jE_call (as := [.ref 26, .int x1]) (pc1 := 119) (st1 := []) hC rfl (by decide) (by omega) (xI_at (d - 1) 26 1201 x1 q2 (by decide) rfl rfl) ?_
  refine jE_blk (bs := [(.istore 4, 6, 0), (.iconst (0), 0, 0), (.istore 5, 6, 0)]) (i := .iload 5) (a1 := 0) (a2 := 0) (pc1 := 124) (l1 := [(5, .int (0 : Int32)), (4, .int (jI_at 1201 (q2.1 27) x1)), (0, .ref 6), (1, .int x1), (2, .int x2), (3, .int x3)]) (st1 := []) (σ1 := q2) (by decide +kernel) rfl (fun hC => ?_)
  exact jE_loc (l := [(0, .ref 6), (2, .int x2), (3, .int x3), (4, .int (jI_at 1201 (q2.1 27) x1)), (5, .int (0 : Int32))]) (ks := [0, 2, 3, 4, 5]) rfl (by decide) ⟨rfl, rfl, rfl, rfl, rfl, trivial⟩ (x_cTyp_checkCall_124 d hd x2 x3 (jI_at 1201 (q2.1 27) x1) (0 : Int32) q2 _ res h hK)
def p_cTyp_checkCall_104 (x1 : Int32) (x2 : Int32) (x3 : Int32) (y0 : Int32) (σ : jx_S) : Option jx_S := (p_cTyp_checkCall_105 x1 x2 x3 (0 : Int32) y0 σ)
theorem x_cTyp_checkCall_104 (d : Nat) (hd : 3 ≤ d) (x1 : Int32) (x2 : Int32) (x3 : Int32) (y0 : Int32) (σ : jx_S) (t : jx_S) (res : Option Value × jx_S) (h : p_cTyp_checkCall_104 x1 x2 x3 y0 σ = some t) (hK : kkV t res) : jE d 73 104 [(0, .ref 6), (1, .int x1), (2, .int x2), (3, .int x3)] [.int y0, .ref 6] σ res := by
  unfold p_cTyp_checkCall_104 at h
  refine jE_blk (bs := [(.iconst (0), 0, 0)]) (i := .invokevirtual 107) (a1 := 79) (a2 := 0) (pc1 := 105) (l1 := [(0, .ref 6), (1, .int x1), (2, .int x2), (3, .int x3)]) (st1 := [.int (0 : Int32), .int y0, .ref 6]) (σ1 := σ) (by decide +kernel) rfl (fun hC => ?_)
  exact jE_loc (l := [(0, .ref 6), (1, .int x1), (2, .int x2), (3, .int x3)]) (ks := [0, 1, 2, 3]) rfl (by decide) ⟨rfl, rfl, rfl, rfl, trivial⟩ (x_cTyp_checkCall_105 d hd x1 x2 x3 (0 : Int32) y0 σ _ res h hK)
def p_cTyp_checkCall (x1 : Int32) (σ : jx_S) : Option jx_S := ((p_cTyp_findFunction (jI_at 1201 (σ.1 25) x1) σ).bind fun q1 => (if ¬ q1.1 = (-1 : Int32) then (if (jI_at 40 (q1.2.1 43) q1.1) < (jI_at 1201 (q1.2.1 35) x1) then (p_cTyp_checkCall_104 x1 q1.1 (jI_at 1201 (q1.2.1 35) x1) x1 (jI_put 1201 q1.2 33 x1 q1.1)) else (if ¬ (v_cTyp_leftOfFunction q1.1 (jI_at 1201 (q1.2.1 35) x1) (jI_put 1201 q1.2 33 x1 q1.1)) = (jI_at 1201 (q1.2.1 37) x1) then (p_cTyp_checkCall_104 x1 q1.1 (jI_at 1201 (q1.2.1 35) x1) x1 (jI_put 1201 q1.2 33 x1 q1.1)) else (p_cTyp_checkCall_105 x1 q1.1 (jI_at 1201 (q1.2.1 35) x1) (1 : Int32) x1 (jI_put 1201 q1.2 33 x1 q1.1)))) else ((p_cTyp_tell (6 : Int32) (jI_at 1201 (q1.2.1 25) x1) q1.2).bind fun q5 => (some (q5)))))
theorem x_cTyp_checkCall (d : Nat) (hd : 3 ≤ d) (x1 : Int32) (σ : jx_S) (t : jx_S) (res : Option Value × jx_S) (h : p_cTyp_checkCall x1 σ = some t) (hK : kkV t res) : jE d 73 0 [(0, .ref 6), (1, .int x1)] [] σ res := by
  unfold p_cTyp_checkCall at h
  refine jE_blk (bs := [(.aload_n 0, 0, 0), (.aload_n 0, 0, 0), (.getfield 15, 6, 1), (.getfield 139, 3, 1), (.iload_n 1, 0, 0)]) (i := .invokevirtual 53) (a1 := 136) (a2 := 0) (pc1 := 9) (l1 := [(0, .ref 6), (1, .int x1)]) (st1 := [.int x1, .ref 24, .ref 6]) (σ1 := σ) (by decide +kernel) rfl (fun hC => ?_)
  refine jE_call (as := [.ref 24, .int x1]) (pc1 := 12) (st1 := [.ref 6]) hC rfl (by decide) (by omega) (xI_at (d - 1) 24 1201 x1 σ (by decide) rfl rfl) ?_
  refine jE_blk (bs := []) (i := .invokevirtual 142) (a1 := 76) (a2 := 0) (pc1 := 12) (l1 := [(0, .ref 6), (1, .int x1)]) (st1 := [.int (jI_at 1201 (σ.1 25) x1), .ref 6]) (σ1 := σ) (by decide +kernel) rfl (fun hC => ?_)
  obtain ⟨q1, hq, h⟩ := Option.bind_eq_some_iff.mp h
  refine jE_call (as := [.ref 6, .int (jI_at 1201 (σ.1 25) x1)]) (pc1 := 15) (st1 := []) hC rfl (by decide) (by omega) (x_cTyp_findFunction (d - 1) (by omega) (jI_at 1201 (σ.1 25) x1) σ q1 (some (.int q1.1), q1.2) hq rfl) ?_
  refine jE_blk (bs := [(.istore_n 2, 6, 0), (.iload_n 2, 0, 0), (.iconst (-1), 1, 1)]) (i := .if_icmp .ne (21)) (a1 := 0) (a2 := 0) (pc1 := 18) (l1 := [(2, .int q1.1), (0, .ref 6), (1, .int x1)]) (st1 := [.int (-1 : Int32), .int q1.1]) (σ1 := q1.2) (by decide +kernel) rfl (fun hC => ?_)
  rcases Classical.em (¬ q1.1 = (-1 : Int32)) with hc | hc
  · rw [if_pos hc] at h
    refine jE_icT 39 hC (by decide) hc ?_
    refine jE_blk (bs := [(.aload_n 0, 0, 0), (.getfield 15, 6, 1), (.getfield 121, 3, 6), (.iload_n 1, 0, 0)]) (i := .invokevirtual 53) (a1 := 136) (a2 := 0) (pc1 := 47) (l1 := [(2, .int q1.1), (0, .ref 6), (1, .int x1)]) (st1 := [.int x1, .ref 34]) (σ1 := q1.2) (by decide +kernel) rfl (fun hC => ?_)
    refine jE_call (as := [.ref 34, .int x1]) (pc1 := 50) (st1 := []) hC rfl (by decide) (by omega) (xI_at (d - 1) 34 1201 x1 q1.2 (by decide) rfl rfl) ?_
    refine jE_blk (bs := [(.istore_n 3, 6, 0), (.aload_n 0, 0, 0), (.getfield 15, 6, 1), (.getfield 111, 3, 5), (.iload_n 1, 0, 0), (.iload_n 2, 0, 0)]) (i := .invokevirtual 85) (a1 := 137) (a2 := 0) (pc1 := 60) (l1 := [(3, .int (jI_at 1201 (q1.2.1 35) x1)), (2, .int q1.1), (0, .ref 6), (1, .int x1)]) (st1 := [.int q1.1, .int x1, .ref 32]) (σ1 := q1.2) (by decide +kernel) rfl (fun hC => ?_)
    refine jE_call (as := [.ref 32, .int x1, .int q1.1]) (pc1 := 63) (st1 := []) hC rfl (by decide) (by omega) (xI_put (d - 1) 32 1201 x1 q1.1 q1.2 (by decide) rfl rfl) ?_
    refine jE_blk (bs := [(.aload_n 0, 0, 0), (.iload_n 1, 0, 0), (.iload_n 3, 0, 0), (.aload_n 0, 0, 0), (.getfield 19, 6, 2), (.getfield 67, 4, 1), (.iload_n 2, 0, 0)]) (i := .invokevirtual 53) (a1 := 136) (a2 := 0) (pc1 := 74) (l1 := [(3, .int (jI_at 1201 (q1.2.1 35) x1)), (2, .int q1.1), (0, .ref 6), (1, .int x1)]) (st1 := [.int q1.1, .ref 42, .int (jI_at 1201 (q1.2.1 35) x1), .int x1, .ref 6]) (σ1 := (jI_put 1201 q1.2 33 x1 q1.1)) (by decide +kernel) rfl (fun hC => ?_)
    refine jE_call (as := [.ref 42, .int q1.1]) (pc1 := 77) (st1 := [.int (jI_at 1201 (q1.2.1 35) x1), .int x1, .ref 6]) hC rfl (by decide) (by omega) (xI_at (d - 1) 42 40 q1.1 (jI_put 1201 q1.2 33 x1 q1.1) (by decide) rfl rfl) ?_
    refine jE_blk (bs := []) (i := .if_icmp .gt (27)) (a1 := 0) (a2 := 0) (pc1 := 77) (l1 := [(3, .int (jI_at 1201 (q1.2.1 35) x1)), (2, .int q1.1), (0, .ref 6), (1, .int x1)]) (st1 := [.int (jI_at 40 (q1.2.1 43) q1.1), .int (jI_at 1201 (q1.2.1 35) x1), .int x1, .ref 6]) (σ1 := (jI_put 1201 q1.2 33 x1 q1.1)) (by decide +kernel) rfl (fun hC => ?_)
    rcases Classical.em ((jI_at 40 (q1.2.1 43) q1.1) < (jI_at 1201 (q1.2.1 35) x1)) with hc | hc
    · rw [if_pos hc] at h
      refine jE_icT 104 hC (by decide) hc ?_
      exact jE_loc (l := [(0, .ref 6), (1, .int x1), (2, .int q1.1), (3, .int (jI_at 1201 (q1.2.1 35) x1))]) (ks := [0, 1, 2, 3]) rfl (by decide) ⟨rfl, rfl, rfl, rfl, trivial⟩ (x_cTyp_checkCall_104 d hd x1 q1.1 (jI_at 1201 (q1.2.1 35) x1) x1 (jI_put 1201 q1.2 33 x1 q1.1) _ res h hK)
    · rw [if_neg hc] at h
      refine jE_icF 104 hC (by decide) hc ?_
      refine jE_blk (bs := [(.aload_n 0, 0, 0), (.iload_n 2, 0, 0), (.iload_n 3, 0, 0)]) (i := .invokevirtual 145) (a1 := 74) (a2 := 0) (pc1 := 83) (l1 := [(3, .int (jI_at 1201 (q1.2.1 35) x1)), (2, .int q1.1), (0, .ref 6), (1, .int x1)]) (st1 := [.int (jI_at 1201 (q1.2.1 35) x1), .int q1.1, .ref 6, .int x1, .ref 6]) (σ1 := (jI_put 1201 q1.2 33 x1 q1.1)) (by decide +kernel) rfl (fun hC => ?_)
      refine jE_call (as := [.ref 6, .int q1.1, .int (jI_at 1201 (q1.2.1 35) x1)]) (pc1 := 86) (st1 := [.int x1, .ref 6]) hC rfl (by decide) (by omega) (xv_cTyp_leftOfFunction (d - 1) (by omega) q1.1 (jI_at 1201 (q1.2.1 35) x1) (jI_put 1201 q1.2 33 x1 q1.1)) ?_
      refine jE_blk (bs := [(.aload_n 0, 0, 0), (.getfield 15, 6, 1), (.getfield 77, 3, 7), (.iload_n 1, 0, 0)]) (i := .invokevirtual 53) (a1 := 136) (a2 := 0) (pc1 := 94) (l1 := [(3, .int (jI_at 1201 (q1.2.1 35) x1)), (2, .int q1.1), (0, .ref 6), (1, .int x1)]) (st1 := [.int x1, .ref 36, .int (v_cTyp_leftOfFunction q1.1 (jI_at 1201 (q1.2.1 35) x1) (jI_put 1201 q1.2 33 x1 q1.1)), .int x1, .ref 6]) (σ1 := (jI_put 1201 q1.2 33 x1 q1.1)) (by decide +kernel) rfl (fun hC => ?_)
      refine jE_call (as := [.ref 36, .int x1]) (pc1 := 97) (st1 := [.int (v_cTyp_leftOfFunction q1.1 (jI_at 1201 (q1.2.1 35) x1) (jI_put 1201 q1.2 33 x1 q1.1)), .int x1, .ref 6]) hC rfl (by decide) (by omega) (xI_at (d - 1) 36 1201 x1 (jI_put 1201 q1.2 33 x1 q1.1) (by decide) rfl rfl) ?_
      refine jE_blk (bs := []) (i := .if_icmp .ne (7)) (a1 := 0) (a2 := 0) (pc1 := 97) (l1 := [(3, .int (jI_at 1201 (q1.2.1 35) x1)), (2, .int q1.1), (0, .ref 6), (1, .int x1)]) (st1 := [.int (jI_at 1201 (q1.2.1 37) x1), .int (v_cTyp_leftOfFunction q1.1 (jI_at 1201 (q1.2.1 35) x1) (jI_put 1201 q1.2 33 x1 q1.1)), .int x1, .ref 6]) (σ1 := (jI_put 1201 q1.2 33 x1 q1.1)) (by decide +kernel) rfl (fun hC => ?_)
      rcases Classical.em (¬ (v_cTyp_leftOfFunction q1.1 (jI_at 1201 (q1.2.1 35) x1) (jI_put 1201 q1.2 33 x1 q1.1)) = (jI_at 1201 (q1.2.1 37) x1)) with hc | hc
      · rw [if_pos hc] at h
        refine jE_icT 104 hC (by decide) hc ?_
        exact jE_loc (l := [(0, .ref 6), (1, .int x1), (2, .int q1.1), (3, .int (jI_at 1201 (q1.2.1 35) x1))]) (ks := [0, 1, 2, 3]) rfl (by decide) ⟨rfl, rfl, rfl, rfl, trivial⟩ (x_cTyp_checkCall_104 d hd x1 q1.1 (jI_at 1201 (q1.2.1 35) x1) x1 (jI_put 1201 q1.2 33 x1 q1.1) _ res h hK)
      · rw [if_neg hc] at h
        refine jE_icF 104 hC (by decide) hc ?_
        refine jE_blk (bs := [(.iconst (1), 1, 0), (.goto (4), 0, 0)]) (i := .invokevirtual 107) (a1 := 79) (a2 := 0) (pc1 := 105) (l1 := [(3, .int (jI_at 1201 (q1.2.1 35) x1)), (2, .int q1.1), (0, .ref 6), (1, .int x1)]) (st1 := [.int (1 : Int32), .int x1, .ref 6]) (σ1 := (jI_put 1201 q1.2 33 x1 q1.1)) (by decide +kernel) rfl (fun hC => ?_)
        exact jE_loc (l := [(0, .ref 6), (1, .int x1), (2, .int q1.1), (3, .int (jI_at 1201 (q1.2.1 35) x1))]) (ks := [0, 1, 2, 3]) rfl (by decide) ⟨rfl, rfl, rfl, rfl, trivial⟩ (x_cTyp_checkCall_105 d hd x1 q1.1 (jI_at 1201 (q1.2.1 35) x1) (1 : Int32) x1 (jI_put 1201 q1.2 33 x1 q1.1) _ res h hK)
  · rw [if_neg hc] at h
    refine jE_icF 39 hC (by decide) hc ?_
    refine jE_blk (bs := [(.aload_n 0, 0, 0), (.bipush (6), 6, 0), (.aload_n 0, 0, 0), (.getfield 15, 6, 1), (.getfield 139, 3, 1), (.iload_n 1, 0, 0)]) (i := .invokevirtual 53) (a1 := 136) (a2 := 0) (pc1 := 32) (l1 := [(2, .int q1.1), (0, .ref 6), (1, .int x1)]) (st1 := [.int x1, .ref 24, .int (6 : Int32), .ref 6]) (σ1 := q1.2) (by decide +kernel) rfl (fun hC => ?_)
    refine jE_call (as := [.ref 24, .int x1]) (pc1 := 35) (st1 := [.int (6 : Int32), .ref 6]) hC rfl (by decide) (by omega) (xI_at (d - 1) 24 1201 x1 q1.2 (by decide) rfl rfl) ?_
    refine jE_blk (bs := []) (i := .invokevirtual 63) (a1 := 80) (a2 := 0) (pc1 := 35) (l1 := [(2, .int q1.1), (0, .ref 6), (1, .int x1)]) (st1 := [.int (jI_at 1201 (q1.2.1 25) x1), .int (6 : Int32), .ref 6]) (σ1 := q1.2) (by decide +kernel) rfl (fun hC => ?_)
    obtain ⟨q5, hq, h⟩ := Option.bind_eq_some_iff.mp h
    refine jE_call (as := [.ref 6, .int (6 : Int32), .int (jI_at 1201 (q1.2.1 25) x1)]) (pc1 := 38) (st1 := []) hC rfl (by decide) (by omega) (x_cTyp_tell (d - 1) (by omega) (6 : Int32) (jI_at 1201 (q1.2.1 25) x1) q1.2 q5 (none, q5) hq rfl) ?_
    refine jE_blk (bs := []) (i := .return_) (a1 := 0) (a2 := 0) (pc1 := 38) (l1 := [(2, .int q1.1), (0, .ref 6), (1, .int x1)]) (st1 := []) (σ1 := q5) (by decide +kernel) rfl (fun hC => ?_)
    have h9 := Option.some.inj h
    subst h9
    have e9 : ((none, q5) : Option Value × jx_S) = res := hK
    subst e9
    exact jE_ret hC rfl
def kk_cTre_part_12 (d : Nat) (t : ((Int32 × Int32 × Int32 × jx_S) ⊕ (Int32 × jx_S))) (res : Option Value × jx_S) : Prop := match t with
  | .inl s => jE d 31 12 [(0, .ref 3), (2, .int s.1), (3, .int s.2.1), (4, .int s.2.2.1)] [] s.2.2.2 res
  | .inr t => kkI t res
def p_cTre_part_12_s (x2 : Int32) (x3 : Int32) (x4 : Int32) (σ : jx_S) : Option ((Int32 × Int32 × Int32 × jx_S) ⊕ (Int32 × jx_S)) := (if x2 ≤ x4 then (Option.map Sum.inr (some ((x3, σ)))) else (if x3 = 0 then (Option.map Sum.inr (some ((x3, σ)))) else (some (.inl (x2, (jI_at 1201 (σ.1 29) x3), (x4 + 1), σ)))))
theorem x_cTre_part_12_s (d : Nat) (hd : 1 ≤ d) (x2 : Int32) (x3 : Int32) (x4 : Int32) (σ : jx_S) (t : ((Int32 × Int32 × Int32 × jx_S) ⊕ (Int32 × jx_S))) (res : Option Value × jx_S) (h : p_cTre_part_12_s x2 x3 x4 σ = some t) (hK : kk_cTre_part_12 d t res) : jE d 31 12 [(0, .ref 3), (2, .int x2), (3, .int x3), (4, .int x4)] [] σ res := by
  unfold p_cTre_part_12_s at h
  refine jE_blk (bs := [(.iload 4, 0, 0), (.iload_n 2, 0, 0)]) (i := .if_icmp .ge (22)) (a1 := 0) (a2 := 0) (pc1 := 15) (l1 := [(0, .ref 3), (2, .int x2), (3, .int x3), (4, .int x4)]) (st1 := [.int x2, .int x4]) (σ1 := σ) (by decide +kernel) rfl (fun hC => ?_)
  rcases Classical.em (x2 ≤ x4) with hc | hc
  · rw [if_pos hc] at h
    refine jE_icT 37 hC (by decide) hc ?_
    obtain ⟨t9_1, h9_1, h8_1⟩ := Option.map_eq_some_iff.mp h
    clear h
    subst h8_1
    have h := h9_1
    clear h9_1
    refine jE_blk (bs := [(.iload_n 3, 0, 0)]) (i := .ireturn) (a1 := 0) (a2 := 0) (pc1 := 38) (l1 := [(0, .ref 3), (2, .int x2), (3, .int x3), (4, .int x4)]) (st1 := [.int x3]) (σ1 := σ) (by decide +kernel) rfl (fun hC => ?_)
    have h9 := Option.some.inj h
    subst h9
    have e9 : ((some (.int x3), σ) : Option Value × jx_S) = res := hK
    subst e9
    exact jE_ret hC rfl
  · rw [if_neg hc] at h
    refine jE_icF 37 hC (by decide) hc ?_
    refine jE_blk (bs := [(.iload_n 3, 0, 0)]) (i := .ifCond .eq (18)) (a1 := 0) (a2 := 0) (pc1 := 19) (l1 := [(0, .ref 3), (2, .int x2), (3, .int x3), (4, .int x4)]) (st1 := [.int x3]) (σ1 := σ) (by decide +kernel) rfl (fun hC => ?_)
    rcases Classical.em (x3 = 0) with hc | hc
    · rw [if_pos hc] at h
      refine jE_ifT 37 hC (by decide) hc ?_
      obtain ⟨t9_2, h9_2, h8_2⟩ := Option.map_eq_some_iff.mp h
      clear h
      subst h8_2
      have h := h9_2
      clear h9_2
      refine jE_blk (bs := [(.iload_n 3, 0, 0)]) (i := .ireturn) (a1 := 0) (a2 := 0) (pc1 := 38) (l1 := [(0, .ref 3), (2, .int x2), (3, .int x3), (4, .int x4)]) (st1 := [.int x3]) (σ1 := σ) (by decide +kernel) rfl (fun hC => ?_)
      have h9 := Option.some.inj h
      subst h9
      have e9 : ((some (.int x3), σ) : Option Value × jx_S) = res := hK
      subst e9
      exact jE_ret hC rfl
    · rw [if_neg hc] at h
      refine jE_ifF 37 hC (by decide) hc ?_
      refine jE_blk (bs := [(.aload_n 0, 0, 0), (.getfield 26, 3, 3), (.iload_n 3, 0, 0)]) (i := .invokevirtual 55) (a1 := 136) (a2 := 0) (pc1 := 27) (l1 := [(0, .ref 3), (2, .int x2), (3, .int x3), (4, .int x4)]) (st1 := [.int x3, .ref 28]) (σ1 := σ) (by decide +kernel) rfl (fun hC => ?_)
      refine jE_call (as := [.ref 28, .int x3]) (pc1 := 30) (st1 := []) hC rfl (by decide) (by omega) (xI_at (d - 1) 28 1201 x3 σ (by decide) rfl rfl) ?_
      refine jE_blk (bs := [(.istore_n 3, 5, 0), (.iinc 4 (1), 5, 2), (.goto (-22), 0, 0)]) (i := .iload 4) (a1 := 0) (a2 := 0) (pc1 := 12) (l1 := [(4, .int (x4 + 1)), (3, .int (jI_at 1201 (σ.1 29) x3)), (0, .ref 3), (2, .int x2)]) (st1 := []) (σ1 := σ) (by decide +kernel) rfl (fun hC => ?_)
      have h9 := Option.some.inj h
      subst h9
      exact jE_loc (l := [(0, .ref 3), (2, .int x2), (3, .int (jI_at 1201 (σ.1 29) x3)), (4, .int (x4 + 1))]) (ks := [0, 2, 3, 4]) rfl (by decide) ⟨rfl, rfl, rfl, rfl, trivial⟩ hK
def p_cTre_part_12 (x2 : Int32) (x3 : Int32) (x4 : Int32) (σ : jx_S) : Option (Int32 × jx_S) := jx_loop 100000000 (fun s => p_cTre_part_12_s s.1 s.2.1 s.2.2.1 (s.2.2.2)) (x2, x3, x4, σ)
theorem x_cTre_part_12 (d : Nat) (hd : 1 ≤ d) (x2 : Int32) (x3 : Int32) (x4 : Int32) (σ : jx_S) (t : (Int32 × jx_S)) (res : Option Value × jx_S) (h : p_cTre_part_12 x2 x3 x4 σ = some t) (hK : kkI t res) : jE d 31 12 [(0, .ref 3), (2, .int x2), (3, .int x3), (4, .int x4)] [] σ res := by
  refine jx_loop_ok (E := fun s t => ∀ res, kkI t res → jE d 31 12 [(0, .ref 3), (2, .int s.1), (3, .int s.2.1), (4, .int s.2.2.1)] [] s.2.2.2 res) (fun s t hs => ?_) _ _ _ h res hK
  cases t with
  | inl s1 => exact fun b hb res hk => x_cTre_part_12_s d hd (s.1) (s.2.1) (s.2.2.1) (s.2.2.2) _ res hs (hb res hk)
  | inr b => exact fun res hk => x_cTre_part_12_s d hd (s.1) (s.2.1) (s.2.2.1) (s.2.2.2) _ res hs hk
def p_cTre_part (x1 : Int32) (x2 : Int32) (σ : jx_S) : Option (Int32 × jx_S) := (p_cTre_part_12 x2 (jI_at 1201 (σ.1 27) x1) (0 : Int32) σ)
theorem x_cTre_part (d : Nat) (hd : 1 ≤ d) (x1 : Int32) (x2 : Int32) (σ : jx_S) (t : (Int32 × jx_S)) (res : Option Value × jx_S) (h : p_cTre_part x1 x2 σ = some t) (hK : kkI t res) : jE d 31 0 [(0, .ref 3), (1, .int x1), (2, .int x2)] [] σ res := by
  unfold p_cTre_part at h
  refine jE_blk (bs := [(.aload_n 0, 0, 0), (.getfield 23, 3, 2), (.iload_n 1, 0, 0)]) (i := .invokevirtual 55) (a1 := 136) (a2 := 0) (pc1 := 5) (l1 := [(0, .ref 3), (1, .int x1), (2, .int x2)]) (st1 := [.int x1, .ref 26]) (σ1 := σ) (by decide +kernel) rfl (fun hC => ?_)
  refine jE_call (as := [.ref 26, .int x1]) (pc1 := 8) (st1 := []) hC rfl (by decide) (by omega) (xI_at (d - 1) 26 1201 x1 σ (by decide) rfl rfl) ?_
  refine jE_blk (bs := [(.istore_n 3, 5, 0), (.iconst (0), 0, 0), (.istore 4, 5, 0)]) (i := .iload 4) (a1 := 0) (a2 := 0) (pc1 := 12) (l1 := [(4, .int (0 : Int32)), (3, .int (jI_at 1201 (σ.1 27) x1)), (0, .ref 3), (1, .int x1), (2, .int x2)]) (st1 := []) (σ1 := σ) (by decide +kernel) rfl (fun hC => ?_)
  exact jE_loc (l := [(0, .ref 3), (2, .int x2), (3, .int (jI_at 1201 (σ.1 27) x1)), (4, .int (0 : Int32))]) (ks := [0, 2, 3, 4]) rfl (by decide) ⟨rfl, rfl, rfl, rfl, trivial⟩ (x_cTre_part_12 d hd x2 (jI_at 1201 (σ.1 27) x1) (0 : Int32) σ _ res h hK)
