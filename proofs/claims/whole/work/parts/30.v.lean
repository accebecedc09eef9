def v_cFau_isTold (σ : jx_S) : Int32 := (if (σ.1 1 0) = 0 then (0 : Int32) else (1 : Int32))
theorem xv_cFau_isTold (d : Nat) (hd : 0 ≤ d) (σ : jx_S) : jE d 17 0 [(0, .ref 1)] [] σ (some (.int (v_cFau_isTold σ)), σ) := by
  unfold v_cFau_isTold
  refine jE_blk (bs := [(.aload_n 0, 0, 0), (.getfield 7, 1, 0)]) (i := .ifCond .eq (7)) (a1 := 0) (a2 := 0) (pc1 := 4) (l1 := [(0, .ref 1)]) (st1 := [.int (σ.1 1 0)]) (σ1 := σ) (by decide +kernel) rfl (fun hC => ?_)
  rcases Classical.em ((σ.1 1 0) = 0) with hc | hc
  · rw [if_pos hc]
    refine jE_ifT 11 hC (by decide) hc ?_
    refine jE_blk (bs := [(.iconst (0), 0, 0)]) (i := .ireturn) (a1 := 1) (a2 := 0) (pc1 := 12) (l1 := [(0, .ref 1)]) (st1 := [.int (0 : Int32)]) (σ1 := σ) (by decide +kernel) rfl (fun hC => ?_)
    exact jE_ret hC rfl
  · rw [if_neg hc]
    refine jE_ifF 11 hC (by decide) hc ?_
    refine jE_blk (bs := [(.iconst (1), 1, 0), (.goto (4), 0, 0)]) (i := .ireturn) (a1 := 1) (a2 := 0) (pc1 := 12) (l1 := [(0, .ref 1)]) (st1 := [.int (1 : Int32)]) (σ1 := σ) (by decide +kernel) rfl (fun hC => ?_)
    exact jE_ret hC rfl
def v_cTok_isDigit (x0 : Int32) (σ : jx_S) : Int32 := (if x0 < (48 : Int32) then (0 : Int32) else (if (57 : Int32) < x0 then (0 : Int32) else (1 : Int32)))
theorem xv_cTok_isDigit (d : Nat) (hd : 0 ≤ d) (x0 : Int32) (σ : jx_S) : jE d 27 0 [(0, .int x0)] [] σ (some (.int (v_cTok_isDigit x0 σ)), σ) := by
  unfold v_cTok_isDigit
  refine jE_blk (bs := [(.iload_n 0, 0, 0), (.bipush (48), 48, 0)]) (i := .if_icmp .lt (13)) (a1 := 0) (a2 := 0) (pc1 := 3) (l1 := [(0, .int x0)]) (st1 := [.int (48 : Int32), .int x0]) (σ1 := σ) (by decide +kernel) rfl (fun hC => ?_)
  rcases Classical.em (x0 < (48 : Int32)) with hc | hc
  · rw [if_pos hc]
    refine jE_icT 16 hC (by decide) hc ?_
    refine jE_blk (bs := [(.iconst (0), 0, 0)]) (i := .ireturn) (a1 := 1) (a2 := 0) (pc1 := 17) (l1 := [(0, .int x0)]) (st1 := [.int (0 : Int32)]) (σ1 := σ) (by decide +kernel) rfl (fun hC => ?_)
    exact jE_ret hC rfl
  · rw [if_neg hc]
    refine jE_icF 16 hC (by decide) hc ?_
    refine jE_blk (bs := [(.iload_n 0, 0, 0), (.bipush (57), 57, 0)]) (i := .if_icmp .gt (7)) (a1 := 0) (a2 := 0) (pc1 := 9) (l1 := [(0, .int x0)]) (st1 := [.int (57 : Int32), .int x0]) (σ1 := σ) (by decide +kernel) rfl (fun hC => ?_)
    rcases Classical.em ((57 : Int32) < x0) with hc | hc
    · rw [if_pos hc]
      refine jE_icT 16 hC (by decide) hc ?_
      refine jE_blk (bs := [(.iconst (0), 0, 0)]) (i := .ireturn) (a1 := 1) (a2 := 0) (pc1 := 17) (l1 := [(0, .int x0)]) (st1 := [.int (0 : Int32)]) (σ1 := σ) (by decide +kernel) rfl (fun hC => ?_)
      exact jE_ret hC rfl
    · rw [if_neg hc]
      refine jE_icF 16 hC (by decide) hc ?_
      refine jE_blk (bs := [(.iconst (1), 1, 0), (.goto (4), 0, 0)]) (i := .ireturn) (a1 := 1) (a2 := 0) (pc1 := 17) (l1 := [(0, .int x0)]) (st1 := [.int (1 : Int32)]) (σ1 := σ) (by decide +kernel) rfl (fun hC => ?_)
      exact jE_ret hC rfl
def v_cTok_letterCode (x0 : Int32) (σ : jx_S) : Int32 := (if x0 < (97 : Int32) then (if (v_cTok_isDigit x0 σ) = 0 then (0 : Int32) else ((x0 - (48 : Int32)) + (27 : Int32))) else (if (122 : Int32) < x0 then (if (v_cTok_isDigit x0 σ) = 0 then (0 : Int32) else ((x0 - (48 : Int32)) + (27 : Int32))) else ((x0 - (97 : Int32)) + (1 : Int32))))
theorem xv_cTok_letterCode (d : Nat) (hd : 1 ≤ d) (x0 : Int32) (σ : jx_S) : jE d 28 0 [(0, .int x0)] [] σ (some (.int (v_cTok_letterCode x0 σ)), σ) := by
  unfold v_cTok_letterCode
  refine jE_blk (bs := [(.iload_n 0, 0, 0), (.bipush (97), 97, 0)]) (i := .if_icmp .lt (16)) (a1 := 0) (a2 := 0) (pc1 := 3) (l1 := [(0, .int x0)]) (st1 := [.int (97 : Int32), .int x0]) (σ1 := σ) (by decide +kernel) rfl (fun hC => ?_)
  rcases Classical.em (x0 < (97 : Int32)) with hc | hc
  · rw [if_pos hc]
    refine jE_icT 19 hC (by decide) hc ?_
    refine jE_blk (bs := [(.iload_n 0, 0, 0)]) (i := .invokestatic 81) (a1 := 27) (a2 := 0) (pc1 := 20) (l1 := [(0, .int x0)]) (st1 := [.int x0]) (σ1 := σ) (by decide +kernel) rfl (fun hC => ?_)
    refine jE_call (as := [.int x0]) (pc1 := 23) (st1 := []) hC rfl (by decide) (by omega) (xv_cTok_isDigit (d - 1) (by omega) x0 σ) ?_
    refine jE_blk (bs := []) (i := .ifCond .eq (13)) (a1 := 0) (a2 := 0) (pc1 := 23) (l1 := [(0, .int x0)]) (st1 := [.int (v_cTok_isDigit x0 σ)]) (σ1 := σ) (by decide +kernel) rfl (fun hC => ?_)
    rcases Classical.em ((v_cTok_isDigit x0 σ) = 0) with hc | hc
    · rw [if_pos hc]
      refine jE_ifT 36 hC (by decide) hc ?_
      refine jE_blk (bs := [(.iconst (0), 0, 0)]) (i := .ireturn) (a1 := 0) (a2 := 0) (pc1 := 37) (l1 := [(0, .int x0)]) (st1 := [.int (0 : Int32)]) (σ1 := σ) (by decide +kernel) rfl (fun hC => ?_)
      exact jE_ret hC rfl
    · rw [if_neg hc]
      refine jE_ifF 36 hC (by decide) hc ?_
      refine jE_blk (bs := [(.iload_n 0, 0, 0), (.bipush (48), 48, 0), (.isub, 0, 0), (.bipush (27), 27, 0), (.iadd, 0, 0), (.goto (4), 0, 0)]) (i := .ireturn) (a1 := 0) (a2 := 0) (pc1 := 37) (l1 := [(0, .int x0)]) (st1 := [.int ((x0 - (48 : Int32)) + (27 : Int32))]) (σ1 := σ) (by decide +kernel) rfl (fun hC => ?_)
      exact jE_ret hC rfl
  · rw [if_neg hc]
    refine jE_icF 19 hC (by decide) hc ?_
    refine jE_blk (bs := [(.iload_n 0, 0, 0), (.bipush (122), 122, 0)]) (i := .if_icmp .gt (10)) (a1 := 0) (a2 := 0) (pc1 := 9) (l1 := [(0, .int x0)]) (st1 := [.int (122 : Int32), .int x0]) (σ1 := σ) (by decide +kernel) rfl (fun hC => ?_)
    rcases Classical.em ((122 : Int32) < x0) with hc | hc
    · rw [if_pos hc]
      refine jE_icT 19 hC (by decide) hc ?_
      refine jE_blk (bs := [(.iload_n 0, 0, 0)]) (i := .invokestatic 81) (a1 := 27) (a2 := 0) (pc1 := 20) (l1 := [(0, .int x0)]) (st1 := [.int x0]) (σ1 := σ) (by decide +kernel) rfl (fun hC => ?_)
      refine jE_call (as := [.int x0]) (pc1 := 23) (st1 := []) hC rfl (by decide) (by omega) (xv_cTok_isDigit (d - 1) (by omega) x0 σ) ?_
      refine jE_blk (bs := []) (i := .ifCond .eq (13)) (a1 := 0) (a2 := 0) (pc1 := 23) (l1 := [(0, .int x0)]) (st1 := [.int (v_cTok_isDigit x0 σ)]) (σ1 := σ) (by decide +kernel) rfl (fun hC => ?_)
      rcases Classical.em ((v_cTok_isDigit x0 σ) = 0) with hc | hc
      · rw [if_pos hc]
        refine jE_ifT 36 hC (by decide) hc ?_
        refine jE_blk (bs := [(.iconst (0), 0, 0)]) (i := .ireturn) (a1 := 0) (a2 := 0) (pc1 := 37) (l1 := [(0, .int x0)]) (st1 := [.int (0 : Int32)]) (σ1 := σ) (by decide +kernel) rfl (fun hC => ?_)
        exact jE_ret hC rfl
      · rw [if_neg hc]
        refine jE_ifF 36 hC (by decide) hc ?_
        refine jE_blk (bs := [(.iload_n 0, 0, 0), (.bipush (48), 48, 0), (.isub, 0, 0), (.bipush (27), 27, 0), (.iadd, 0, 0), (.goto (4), 0, 0)]) (i := .ireturn) (a1 := 0) (a2 := 0) (pc1 := 37) (l1 := [(0, .int x0)]) (st1 := [.int ((x0 - (48 : Int32)) + (27 : Int32))]) (σ1 := σ) (by decide +kernel) rfl (fun hC => ?_)
        exact jE_ret hC rfl
    · rw [if_neg hc]
      refine jE_icF 19 hC (by decide) hc ?_
      refine jE_blk (bs := [(.iload_n 0, 0, 0), (.bipush (97), 97, 0), (.isub, 0, 0), (.iconst (1), 1, 0), (.iadd, 0, 0)]) (i := .ireturn) (a1 := 0) (a2 := 0) (pc1 := 18) (l1 := [(0, .int x0)]) (st1 := [.int ((x0 - (97 : Int32)) + (1 : Int32))]) (σ1 := σ) (by decide +kernel) rfl (fun hC => ?_)
      exact jE_ret hC rfl
def v_cTok_signKind (x0 : Int32) (σ : jx_S) : Int32 := (if x0 = 40 then (16 : Int32) else (if x0 = 41 then (17 : Int32) else (if x0 = 42 then (25 : Int32) else (if x0 = 43 then (23 : Int32) else (if x0 = 45 then (24 : Int32) else (if x0 = 47 then (26 : Int32) else (if x0 = 58 then (18 : Int32) else (if x0 = 59 then (20 : Int32) else (if x0 = 60 then (27 : Int32) else (if x0 = 61 then (19 : Int32) else (if x0 = 124 then (22 : Int32) else (0 : Int32))))))))))))
theorem xv_cTok_signKind (d : Nat) (hd : 0 ≤ d) (x0 : Int32) (σ : jx_S) : jE d 29 0 [(0, .int x0)] [] σ (some (.int (v_cTok_signKind x0 σ)), σ) := by
  unfold v_cTok_signKind
  refine jE_blk (bs := [(.iload_n 0, 0, 0)]) (i := .lookupswitch (132) #[(40, 99), (41, 102), (42, 123), (43, 117), (45, 120), (47, 126), (58, 105), (59, 111), (60, 129), (61, 108), (124, 114)]) (a1 := 0) (a2 := 0) (pc1 := 1) (l1 := [(0, .int x0)]) (st1 := [.int x0]) (σ1 := σ) (by decide +kernel) rfl (fun hC => ?_)
  rcases Classical.em (x0 = 40) with hc0 | hc0
  · rw [if_pos hc0]
    refine jE_lsw 100 40 hC hc0 (by decide +kernel) ?_
    refine jE_blk (bs := [(.bipush (16), 16, 0)]) (i := .ireturn) (a1 := 0) (a2 := 0) (pc1 := 102) (l1 := [(0, .int x0)]) (st1 := [.int (16 : Int32)]) (σ1 := σ) (by decide +kernel) rfl (fun hC => ?_)
    exact jE_ret hC rfl
  · rw [if_neg hc0]
    rcases Classical.em (x0 = 41) with hc1 | hc1
    · rw [if_pos hc1]
      refine jE_lsw 103 41 hC hc1 (by decide +kernel) ?_
      refine jE_blk (bs := [(.bipush (17), 17, 0)]) (i := .ireturn) (a1 := 0) (a2 := 0) (pc1 := 105) (l1 := [(0, .int x0)]) (st1 := [.int (17 : Int32)]) (σ1 := σ) (by decide +kernel) rfl (fun hC => ?_)
      exact jE_ret hC rfl
    · rw [if_neg hc1]
      rcases Classical.em (x0 = 42) with hc2 | hc2
      · rw [if_pos hc2]
        refine jE_lsw 124 42 hC hc2 (by decide +kernel) ?_
        refine jE_blk (bs := [(.bipush (25), 25, 0)]) (i := .ireturn) (a1 := 0) (a2 := 0) (pc1 := 126) (l1 := [(0, .int x0)]) (st1 := [.int (25 : Int32)]) (σ1 := σ) (by decide +kernel) rfl (fun hC => ?_)
        exact jE_ret hC rfl
      · rw [if_neg hc2]
        rcases Classical.em (x0 = 43) with hc3 | hc3
        · rw [if_pos hc3]
          refine jE_lsw 118 43 hC hc3 (by decide +kernel) ?_
          refine jE_blk (bs := [(.bipush (23), 23, 0)]) (i := .ireturn) (a1 := 0) (a2 := 0) (pc1 := 120) (l1 := [(0, .int x0)]) (st1 := [.int (23 : Int32)]) (σ1 := σ) (by decide +kernel) rfl (fun hC => ?_)
          exact jE_ret hC rfl
        · rw [if_neg hc3]
          rcases Classical.em (x0 = 45) with hc4 | hc4
          · rw [if_pos hc4]
            refine jE_lsw 121 45 hC hc4 (by decide +kernel) ?_
            refine jE_blk (bs := [(.bipush (24), 24, 0)]) (i := .ireturn) (a1 := 0) (a2 := 0) (pc1 := 123) (l1 := [(0, .int x0)]) (st1 := [.int (24 : Int32)]) (σ1 := σ) (by decide +kernel) rfl (fun hC => ?_)
            exact jE_ret hC rfl
          · rw [if_neg hc4]
            rcases Classical.em (x0 = 47) with hc5 | hc5
            · rw [if_pos hc5]
              refine jE_lsw 127 47 hC hc5 (by decide +kernel) ?_
              refine jE_blk (bs := [(.bipush (26), 26, 0)]) (i := .ireturn) (a1 := 0) (a2 := 0) (pc1 := 129) (l1 := [(0, .int x0)]) (st1 := [.int (26 : Int32)]) (σ1 := σ) (by decide +kernel) rfl (fun hC => ?_)
              exact jE_ret hC rfl
            · rw [if_neg hc5]
              rcases Classical.em (x0 = 58) with hc6 | hc6
              · rw [if_pos hc6]
                refine jE_lsw 106 58 hC hc6 (by decide +kernel) ?_
                refine jE_blk (bs := [(.bipush (18), 18, 0)]) (i := .ireturn) (a1 := 0) (a2 := 0) (pc1 := 108) (l1 := [(0, .int x0)]) (st1 := [.int (18 : Int32)]) (σ1 := σ) (by decide +kernel) rfl (fun hC => ?_)
                exact jE_ret hC rfl
              · rw [if_neg hc6]
                rcases Classical.em (x0 = 59) with hc7 | hc7
                · rw [if_pos hc7]
                  refine jE_lsw 112 59 hC hc7 (by decide +kernel) ?_
                  refine jE_blk (bs := [(.bipush (20), 20, 0)]) (i := .ireturn) (a1 := 0) (a2 := 0) (pc1 := 114) (l1 := [(0, .int x0)]) (st1 := [.int (20 : Int32)]) (σ1 := σ) (by decide +kernel) rfl (fun hC => ?_)
                  exact jE_ret hC rfl
                · rw [if_neg hc7]
                  rcases Classical.em (x0 = 60) with hc8 | hc8
                  · rw [if_pos hc8]
                    refine jE_lsw 130 60 hC hc8 (by decide +kernel) ?_
                    refine jE_blk (bs := [(.bipush (27), 27, 0)]) (i := .ireturn) (a1 := 0) (a2 := 0) (pc1 := 132) (l1 := [(0, .int x0)]) (st1 := [.int (27 : Int32)]) (σ1 := σ) (by decide +kernel) rfl (fun hC => ?_)
                    exact jE_ret hC rfl
                  · rw [if_neg hc8]
                    rcases Classical.em (x0 = 61) with hc9 | hc9
                    · rw [if_pos hc9]
                      refine jE_lsw 109 61 hC hc9 (by decide +kernel) ?_
                      refine jE_blk (bs := [(.bipush (19), 19, 0)]) (i := .ireturn) (a1 := 0) (a2 := 0) (pc1 := 111) (l1 := [(0, .int x0)]) (st1 := [.int (19 : Int32)]) (σ1 := σ) (by decide +kernel) rfl (fun hC => ?_)
                      exact jE_ret hC rfl
                    · rw [if_neg hc9]
                      rcases Classical.em (x0 = 124) with hc10 | hc10
                      · rw [if_pos hc10]
                        refine jE_lsw 115 124 hC hc10 (by decide +kernel) ?_
                        refine jE_blk (bs := [(.bipush (22), 22, 0)]) (i := .ireturn) (a1 := 0) (a2 := 0) (pc1 := 117) (l1 := [(0, .int x0)]) (st1 := [.int (22 : Int32)]) (σ1 := σ) (by decide +kernel) rfl (fun hC => ?_)
                        exact jE_ret hC rfl
                      · rw [if_neg hc10]
                        refine jE_lswD 133 [40, 41, 42, 43, 45, 47, 58, 59, 60, 61, 124] hC (by decide +kernel) ⟨hc0, hc1, hc2, hc3, hc4, hc5, hc6, hc7, hc8, hc9, hc10, trivial⟩ ?_
                        refine jE_blk (bs := [(.iconst (0), 0, 0)]) (i := .ireturn) (a1 := 0) (a2 := 0) (pc1 := 134) (l1 := [(0, .int x0)]) (st1 := [.int (0 : Int32)]) (σ1 := σ) (by decide +kernel) rfl (fun hC => ?_)
                        exact jE_ret hC rfl
def v_cRea_kind (σ : jx_S) : Int32 := (if (v_cFau_isTold σ) = 0 then (jI_at 1201 (σ.1 15) (σ.1 5 6)) else (0 : Int32))
theorem xv_cRea_kind (d : Nat) (hd : 1 ≤ d) (σ : jx_S) : jE d 64 0 [(0, .ref 5)] [] σ (some (.int (v_cRea_kind σ)), σ) := by
  unfold v_cRea_kind
  refine jE_blk (bs := [(.aload_n 0, 0, 0), (.getfield 32, 5, 3)]) (i := .invokevirtual 111) (a1 := 17) (a2 := 0) (pc1 := 4) (l1 := [(0, .ref 5)]) (st1 := [.ref 1]) (σ1 := σ) (by decide +kernel) rfl (fun hC => ?_)
  refine jE_call (as := [.ref 1]) (pc1 := 7) (st1 := []) hC rfl (by decide) (by omega) (xv_cFau_isTold (d - 1) (by omega) σ) ?_
  refine jE_blk (bs := []) (i := .ifCond .eq (7)) (a1 := 0) (a2 := 0) (pc1 := 7) (l1 := [(0, .ref 5)]) (st1 := [.int (v_cFau_isTold σ)]) (σ1 := σ) (by decide +kernel) rfl (fun hC => ?_)
  rcases Classical.em ((v_cFau_isTold σ) = 0) with hc | hc
  · rw [if_pos hc]
    refine jE_ifT 14 hC (by decide) hc ?_
    refine jE_blk (bs := [(.aload_n 0, 0, 0), (.getfield 20, 5, 0), (.getfield 192, 2, 0), (.aload_n 0, 0, 0), (.getfield 36, 5, 6)]) (i := .invokevirtual 109) (a1 := 136) (a2 := 0) (pc1 := 25) (l1 := [(0, .ref 5)]) (st1 := [.int (σ.1 5 6), .ref 14]) (σ1 := σ) (by decide +kernel) rfl (fun hC => ?_)
    refine jE_call (as := [.ref 14, .int (σ.1 5 6)]) (pc1 := 28) (st1 := []) hC rfl (by decide) (by omega) (xI_at (d - 1) 14 1201 (σ.1 5 6) σ (by decide) rfl rfl) ?_
    refine jE_blk (bs := []) (i := .ireturn) (a1 := 0) (a2 := 0) (pc1 := 28) (l1 := [(0, .ref 5)]) (st1 := [.int (jI_at 1201 (σ.1 15) (σ.1 5 6))]) (σ1 := σ) (by decide +kernel) rfl (fun hC => ?_)
    exact jE_ret hC rfl
  · rw [if_neg hc]
    refine jE_ifF 14 hC (by decide) hc ?_
    refine jE_blk (bs := [(.iconst (0), 0, 0), (.goto (17), 0, 0)]) (i := .ireturn) (a1 := 0) (a2 := 0) (pc1 := 28) (l1 := [(0, .ref 5)]) (st1 := [.int (0 : Int32)]) (σ1 := σ) (by decide +kernel) rfl (fun hC => ?_)
    exact jE_ret hC rfl
def v_cFun_nameOf (x1 : Int32) (x2 : Int32) (σ : jx_S) : Int32 := (jI_at 1200 (σ.1 55) ((x1 * (30 : Int32)) + x2))
theorem xv_cFun_nameOf (d : Nat) (hd : 1 ≤ d) (x1 : Int32) (x2 : Int32) (σ : jx_S) : jE d 39 0 [(0, .ref 4), (1, .int x1), (2, .int x2)] [] σ (some (.int (v_cFun_nameOf x1 x2 σ)), σ) := by
  unfold v_cFun_nameOf
  refine jE_blk (bs := [(.aload_n 0, 0, 0), (.getfield 38, 4, 7), (.iload_n 1, 0, 0), (.bipush (30), 30, 0), (.imul, 0, 0), (.iload_n 2, 0, 0), (.iadd, 0, 0)]) (i := .invokevirtual 55) (a1 := 136) (a2 := 0) (pc1 := 10) (l1 := [(0, .ref 4), (1, .int x1), (2, .int x2)]) (st1 := [.int ((x1 * (30 : Int32)) + x2), .ref 54]) (σ1 := σ) (by decide +kernel) rfl (fun hC => ?_)
  refine jE_call (as := [.ref 54, .int ((x1 * (30 : Int32)) + x2)]) (pc1 := 13) (st1 := []) hC rfl (by decide) (by omega) (xI_at (d - 1) 54 1200 ((x1 * (30 : Int32)) + x2) σ (by decide) rfl rfl) ?_
  refine jE_blk (bs := []) (i := .ireturn) (a1 := 0) (a2 := 0) (pc1 := 13) (l1 := [(0, .ref 4), (1, .int x1), (2, .int x2)]) (st1 := [.int (jI_at 1200 (σ.1 55) ((x1 * (30 : Int32)) + x2))]) (σ1 := σ) (by decide +kernel) rfl (fun hC => ?_)
  exact jE_ret hC rfl
def v_cRea_beginsAtom (x0 : Int32) (σ : jx_S) : Int32 := (if x0 = (16 : Int32) then (1 : Int32) else (if x0 = (1 : Int32) then (1 : Int32) else (if x0 = (2 : Int32) then (1 : Int32) else (if x0 = (13 : Int32) then (1 : Int32) else (if ¬ x0 = (15 : Int32) then (0 : Int32) else (1 : Int32))))))
theorem xv_cRea_beginsAtom (d : Nat) (hd : 0 ≤ d) (x0 : Int32) (σ : jx_S) : jE d 58 0 [(0, .int x0)] [] σ (some (.int (v_cRea_beginsAtom x0 σ)), σ) := by
  unfold v_cRea_beginsAtom
  refine jE_blk (bs := [(.iload_n 0, 0, 0), (.bipush (16), 16, 0)]) (i := .if_icmp .eq (25)) (a1 := 0) (a2 := 0) (pc1 := 3) (l1 := [(0, .int x0)]) (st1 := [.int (16 : Int32), .int x0]) (σ1 := σ) (by decide +kernel) rfl (fun hC => ?_)
  rcases Classical.em (x0 = (16 : Int32)) with hc | hc
  · rw [if_pos hc]
    refine jE_icT 28 hC (by decide) hc ?_
    refine jE_blk (bs := [(.iconst (1), 1, 0), (.goto (4), 0, 0)]) (i := .ireturn) (a1 := 1) (a2 := 0) (pc1 := 33) (l1 := [(0, .int x0)]) (st1 := [.int (1 : Int32)]) (σ1 := σ) (by decide +kernel) rfl (fun hC => ?_)
    exact jE_ret hC rfl
  · rw [if_neg hc]
    refine jE_icF 28 hC (by decide) hc ?_
    refine jE_blk (bs := [(.iload_n 0, 0, 0), (.iconst (1), 1, 0)]) (i := .if_icmp .eq (20)) (a1 := 0) (a2 := 0) (pc1 := 8) (l1 := [(0, .int x0)]) (st1 := [.int (1 : Int32), .int x0]) (σ1 := σ) (by decide +kernel) rfl (fun hC => ?_)
    rcases Classical.em (x0 = (1 : Int32)) with hc | hc
    · rw [if_pos hc]
      refine jE_icT 28 hC (by decide) hc ?_
      refine jE_blk (bs := [(.iconst (1), 1, 0), (.goto (4), 0, 0)]) (i := .ireturn) (a1 := 1) (a2 := 0) (pc1 := 33) (l1 := [(0, .int x0)]) (st1 := [.int (1 : Int32)]) (σ1 := σ) (by decide +kernel) rfl (fun hC => ?_)
      exact jE_ret hC rfl
    · rw [if_neg hc]
      refine jE_icF 28 hC (by decide) hc ?_
      refine jE_blk (bs := [(.iload_n 0, 0, 0), (.iconst (2), 2, 0)]) (i := .if_icmp .eq (15)) (a1 := 0) (a2 := 0) (pc1 := 13) (l1 := [(0, .int x0)]) (st1 := [.int (2 : Int32), .int x0]) (σ1 := σ) (by decide +kernel) rfl (fun hC => ?_)
      rcases Classical.em (x0 = (2 : Int32)) with hc | hc
      · rw [if_pos hc]
        refine jE_icT 28 hC (by decide) hc ?_
        refine jE_blk (bs := [(.iconst (1), 1, 0), (.goto (4), 0, 0)]) (i := .ireturn) (a1 := 1) (a2 := 0) (pc1 := 33) (l1 := [(0, .int x0)]) (st1 := [.int (1 : Int32)]) (σ1 := σ) (by decide +kernel) rfl (fun hC => ?_)
        exact jE_ret hC rfl
      · rw [if_neg hc]
        refine jE_icF 28 hC (by decide) hc ?_
        refine jE_blk (bs := [(.iload_n 0, 0, 0), (.bipush (13), 13, 0)]) (i := .if_icmp .eq (9)) (a1 := 0) (a2 := 0) (pc1 := 19) (l1 := [(0, .int x0)]) (st1 := [.int (13 : Int32), .int x0]) (σ1 := σ) (by decide +kernel) rfl (fun hC => ?_)
        rcases Classical.em (x0 = (13 : Int32)) with hc | hc
        · rw [if_pos hc]
          refine jE_icT 28 hC (by decide) hc ?_
          refine jE_blk (bs := [(.iconst (1), 1, 0), (.goto (4), 0, 0)]) (i := .ireturn) (a1 := 1) (a2 := 0) (pc1 := 33) (l1 := [(0, .int x0)]) (st1 := [.int (1 : Int32)]) (σ1 := σ) (by decide +kernel) rfl (fun hC => ?_)
          exact jE_ret hC rfl
        · rw [if_neg hc]
          refine jE_icF 28 hC (by decide) hc ?_
          refine jE_blk (bs := [(.iload_n 0, 0, 0), (.bipush (15), 15, 0)]) (i := .if_icmp .ne (7)) (a1 := 0) (a2 := 0) (pc1 := 25) (l1 := [(0, .int x0)]) (st1 := [.int (15 : Int32), .int x0]) (σ1 := σ) (by decide +kernel) rfl (fun hC => ?_)
          rcases Classical.em (¬ x0 = (15 : Int32)) with hc | hc
          · rw [if_pos hc]
            refine jE_icT 32 hC (by decide) hc ?_
            refine jE_blk (bs := [(.iconst (0), 0, 0)]) (i := .ireturn) (a1 := 1) (a2 := 0) (pc1 := 33) (l1 := [(0, .int x0)]) (st1 := [.int (0 : Int32)]) (σ1 := σ) (by decide +kernel) rfl (fun hC => ?_)
            exact jE_ret hC rfl
          · rw [if_neg hc]
            refine jE_icF 32 hC (by decide) hc ?_
            refine jE_blk (bs := [(.iconst (1), 1, 0), (.goto (4), 0, 0)]) (i := .ireturn) (a1 := 1) (a2 := 0) (pc1 := 33) (l1 := [(0, .int x0)]) (st1 := [.int (1 : Int32)]) (σ1 := σ) (by decide +kernel) rfl (fun hC => ?_)
            exact jE_ret hC rfl
def v_cTyp_isSameName (x1 : Int32) (x2 : Int32) (σ : jx_S) : Int32 := (if ¬ (lg_cmp (jL_at 1201 (σ.2 19) x1) (jL_at 1201 (σ.2 19) x2)) = 0 then (0 : Int32) else (1 : Int32))
theorem xv_cTyp_isSameName (d : Nat) (hd : 1 ≤ d) (x1 : Int32) (x2 : Int32) (σ : jx_S) : jE d 77 0 [(0, .ref 6), (1, .int x1), (2, .int x2)] [] σ (some (.int (v_cTyp_isSameName x1 x2 σ)), σ) := by
  unfold v_cTyp_isSameName
  refine jE_blk (bs := [(.aload_n 0, 0, 0), (.getfield 9, 6, 0), (.getfield 154, 2, 2), (.iload_n 1, 0, 0)]) (i := .invokevirtual 160) (a1 := 140) (a2 := 0) (pc1 := 8) (l1 := [(0, .ref 6), (1, .int x1), (2, .int x2)]) (st1 := [.int x1, .ref 18]) (σ1 := σ) (by decide +kernel) rfl (fun hC => ?_)
  refine jE_call (as := [.ref 18, .int x1]) (pc1 := 11) (st1 := []) hC rfl (by decide) (by omega) (xL_at (d - 1) 18 1201 x1 σ (by decide) rfl rfl) ?_
  refine jE_blk (bs := [(.aload_n 0, 0, 0), (.getfield 9, 6, 0), (.getfield 154, 2, 2), (.iload_n 2, 0, 0)]) (i := .invokevirtual 160) (a1 := 140) (a2 := 0) (pc1 := 19) (l1 := [(0, .ref 6), (1, .int x1), (2, .int x2)]) (st1 := [.int x2, .ref 18, .long (jL_at 1201 (σ.2 19) x1)]) (σ1 := σ) (by decide +kernel) rfl (fun hC => ?_)
  refine jE_call (as := [.ref 18, .int x2]) (pc1 := 22) (st1 := [.long (jL_at 1201 (σ.2 19) x1)]) hC rfl (by decide) (by omega) (xL_at (d - 1) 18 1201 x2 σ (by decide) rfl rfl) ?_
  refine jE_blk (bs := [(.lcmp, 0, 0)]) (i := .ifCond .ne (7)) (a1 := 0) (a2 := 0) (pc1 := 23) (l1 := [(0, .ref 6), (1, .int x1), (2, .int x2)]) (st1 := [.int (lg_cmp (jL_at 1201 (σ.2 19) x1) (jL_at 1201 (σ.2 19) x2))]) (σ1 := σ) (by decide +kernel) rfl (fun hC => ?_)
  rcases Classical.em (¬ (lg_cmp (jL_at 1201 (σ.2 19) x1) (jL_at 1201 (σ.2 19) x2)) = 0) with hc | hc
  · rw [if_pos hc]
    refine jE_ifT 30 hC (by decide) hc ?_
    refine jE_blk (bs := [(.iconst (0), 0, 0)]) (i := .ireturn) (a1 := 1) (a2 := 0) (pc1 := 31) (l1 := [(0, .ref 6), (1, .int x1), (2, .int x2)]) (st1 := [.int (0 : Int32)]) (σ1 := σ) (by decide +kernel) rfl (fun hC => ?_)
    exact jE_ret hC rfl
  · rw [if_neg hc]
    refine jE_ifF 30 hC (by decide) hc ?_
    refine jE_blk (bs := [(.iconst (1), 1, 0), (.goto (4), 0, 0)]) (i := .ireturn) (a1 := 1) (a2 := 0) (pc1 := 31) (l1 := [(0, .ref 6), (1, .int x1), (2, .int x2)]) (st1 := [.int (1 : Int32)]) (σ1 := σ) (by decide +kernel) rfl (fun hC => ?_)
    exact jE_ret hC rfl
def v_cFun_typeOf (x1 : Int32) (x2 : Int32) (σ : jx_S) : Int32 := (jI_at 1200 (σ.1 57) ((x1 * (30 : Int32)) + x2))
theorem xv_cFun_typeOf (d : Nat) (hd : 1 ≤ d) (x1 : Int32) (x2 : Int32) (σ : jx_S) : jE d 40 0 [(0, .ref 4), (1, .int x1), (2, .int x2)] [] σ (some (.int (v_cFun_typeOf x1 x2 σ)), σ) := by
  unfold v_cFun_typeOf
  refine jE_blk (bs := [(.aload_n 0, 0, 0), (.getfield 41, 4, 8), (.iload_n 1, 0, 0), (.bipush (30), 30, 0), (.imul, 0, 0), (.iload_n 2, 0, 0), (.iadd, 0, 0)]) (i := .invokevirtual 55) (a1 := 136) (a2 := 0) (pc1 := 10) (l1 := [(0, .ref 4), (1, .int x1), (2, .int x2)]) (st1 := [.int ((x1 * (30 : Int32)) + x2), .ref 56]) (σ1 := σ) (by decide +kernel) rfl (fun hC => ?_)
  refine jE_call (as := [.ref 56, .int ((x1 * (30 : Int32)) + x2)]) (pc1 := 13) (st1 := []) hC rfl (by decide) (by omega) (xI_at (d - 1) 56 1200 ((x1 * (30 : Int32)) + x2) σ (by decide) rfl rfl) ?_
  refine jE_blk (bs := []) (i := .ireturn) (a1 := 0) (a2 := 0) (pc1 := 13) (l1 := [(0, .ref 4), (1, .int x1), (2, .int x2)]) (st1 := [.int (jI_at 1200 (σ.1 57) ((x1 * (30 : Int32)) + x2))]) (σ1 := σ) (by decide +kernel) rfl (fun hC => ?_)
  exact jE_ret hC rfl
def v_cTyp_takenBy (x0 : Int32) (σ : jx_S) : Int32 := (if (2 : Int32) ≤ x0 then (if (6 : Int32) ≤ x0 then (2 : Int32) else (1 : Int32)) else (0 : Int32))
theorem xv_cTyp_takenBy (d : Nat) (hd : 0 ≤ d) (x0 : Int32) (σ : jx_S) : jE d 82 0 [(0, .int x0)] [] σ (some (.int (v_cTyp_takenBy x0 σ)), σ) := by
  unfold v_cTyp_takenBy
  refine jE_blk (bs := [(.iload_n 0, 0, 0), (.iconst (2), 2, 0)]) (i := .if_icmp .ge (5)) (a1 := 0) (a2 := 0) (pc1 := 2) (l1 := [(0, .int x0)]) (st1 := [.int (2 : Int32), .int x0]) (σ1 := σ) (by decide +kernel) rfl (fun hC => ?_)
  rcases Classical.em ((2 : Int32) ≤ x0) with hc | hc
  · rw [if_pos hc]
    refine jE_icT 7 hC (by decide) hc ?_
    refine jE_blk (bs := [(.iload_n 0, 0, 0), (.bipush (6), 6, 0)]) (i := .if_icmp .ge (7)) (a1 := 0) (a2 := 0) (pc1 := 10) (l1 := [(0, .int x0)]) (st1 := [.int (6 : Int32), .int x0]) (σ1 := σ) (by decide +kernel) rfl (fun hC => ?_)
    rcases Classical.em ((6 : Int32) ≤ x0) with hc | hc
    · rw [if_pos hc]
      refine jE_icT 17 hC (by decide) hc ?_
      refine jE_blk (bs := [(.iconst (2), 2, 0)]) (i := .ireturn) (a1 := 0) (a2 := 0) (pc1 := 18) (l1 := [(0, .int x0)]) (st1 := [.int (2 : Int32)]) (σ1 := σ) (by decide +kernel) rfl (fun hC => ?_)
      exact jE_ret hC rfl
    · rw [if_neg hc]
      refine jE_icF 17 hC (by decide) hc ?_
      refine jE_blk (bs := [(.iconst (1), 1, 0), (.goto (4), 0, 0)]) (i := .ireturn) (a1 := 0) (a2 := 0) (pc1 := 18) (l1 := [(0, .int x0)]) (st1 := [.int (1 : Int32)]) (σ1 := σ) (by decide +kernel) rfl (fun hC => ?_)
      exact jE_ret hC rfl
  · rw [if_neg hc]
    refine jE_icF 7 hC (by decide) hc ?_
    refine jE_blk (bs := [(.iconst (0), 0, 0)]) (i := .ireturn) (a1 := 0) (a2 := 0) (pc1 := 6) (l1 := [(0, .int x0)]) (st1 := [.int (0 : Int32)]) (σ1 := σ) (by decide +kernel) rfl (fun hC => ?_)
    exact jE_ret hC rfl
def v_cTyp_leftOf (x0 : Int32) (x1 : Int32) (σ : jx_S) : Int32 := (if ¬ x1 = 0 then (if ¬ x1 = (v_cTyp_takenBy x0 σ) then ((2 : Int32) + ((x0 - (6 : Int32)) &&& (3 : Int32))) else (x0 &&& (1 : Int32))) else x0)
theorem xv_cTyp_leftOf (d : Nat) (hd : 1 ≤ d) (x0 : Int32) (x1 : Int32) (σ : jx_S) : jE d 85 0 [(0, .int x0), (1, .int x1)] [] σ (some (.int (v_cTyp_leftOf x0 x1 σ)), σ) := by
  unfold v_cTyp_leftOf
  refine jE_blk (bs := [(.iload_n 1, 0, 0)]) (i := .ifCond .ne (5)) (a1 := 0) (a2 := 0) (pc1 := 1) (l1 := [(0, .int x0), (1, .int x1)]) (st1 := [.int x1]) (σ1 := σ) (by decide +kernel) rfl (fun hC => ?_)
  rcases Classical.em (¬ x1 = 0) with hc | hc
  · rw [if_pos hc]
    refine jE_ifT 6 hC (by decide) hc ?_
    refine jE_blk (bs := [(.iload_n 1, 0, 0), (.iload_n 0, 0, 0)]) (i := .invokestatic 124) (a1 := 82) (a2 := 0) (pc1 := 8) (l1 := [(0, .int x0), (1, .int x1)]) (st1 := [.int x0, .int x1]) (σ1 := σ) (by decide +kernel) rfl (fun hC => ?_)
    refine jE_call (as := [.int x0]) (pc1 := 11) (st1 := [.int x1]) hC rfl (by decide) (by omega) (xv_cTyp_takenBy (d - 1) (by omega) x0 σ) ?_
    refine jE_blk (bs := []) (i := .if_icmp .ne (9)) (a1 := 0) (a2 := 0) (pc1 := 11) (l1 := [(0, .int x0), (1, .int x1)]) (st1 := [.int (v_cTyp_takenBy x0 σ), .int x1]) (σ1 := σ) (by decide +kernel) rfl (fun hC => ?_)
    rcases Classical.em (¬ x1 = (v_cTyp_takenBy x0 σ)) with hc | hc
    · rw [if_pos hc]
      refine jE_icT 20 hC (by decide) hc ?_
      refine jE_blk (bs := [(.iconst (2), 2, 0), (.iload_n 0, 0, 0), (.bipush (6), 6, 0), (.isub, 0, 0), (.iconst (3), 3, 0), (.iand, 0, 0), (.iadd, 0, 0)]) (i := .ireturn) (a1 := 0) (a2 := 0) (pc1 := 28) (l1 := [(0, .int x0), (1, .int x1)]) (st1 := [.int ((2 : Int32) + ((x0 - (6 : Int32)) &&& (3 : Int32)))]) (σ1 := σ) (by decide +kernel) rfl (fun hC => ?_)
      exact jE_ret hC rfl
    · rw [if_neg hc]
      refine jE_icF 20 hC (by decide) hc ?_
      refine jE_blk (bs := [(.iload_n 0, 0, 0), (.iconst (1), 1, 0), (.iand, 0, 0), (.goto (11), 0, 0)]) (i := .ireturn) (a1 := 0) (a2 := 0) (pc1 := 28) (l1 := [(0, .int x0), (1, .int x1)]) (st1 := [.int (x0 &&& (1 : Int32))]) (σ1 := σ) (by decide +kernel) rfl (fun hC => ?_)
      exact jE_ret hC rfl
  · rw [if_neg hc]
    refine jE_ifF 6 hC (by decide) hc ?_
    refine jE_blk (bs := [(.iload_n 0, 0, 0)]) (i := .ireturn) (a1 := 0) (a2 := 0) (pc1 := 5) (l1 := [(0, .int x0), (1, .int x1)]) (st1 := [.int x0]) (σ1 := σ) (by decide +kernel) rfl (fun hC => ?_)
    exact jE_ret hC rfl
def v_cTyp_partOf (x0 : Int32) (x1 : Int32) (σ : jx_S) : Int32 := (if ¬ (v_cTyp_takenBy x0 σ) = (1 : Int32) then (if ¬ x1 = 0 then (((x0 - (6 : Int32)) >>> ((1 : Int32) &&& 31)) &&& (1 : Int32)) else ((x0 - (6 : Int32)) >>> ((2 : Int32) &&& 31))) else ((x0 - (2 : Int32)) >>> ((1 : Int32) &&& 31)))
theorem xv_cTyp_partOf (d : Nat) (hd : 1 ≤ d) (x0 : Int32) (x1 : Int32) (σ : jx_S) : jE d 84 0 [(0, .int x0), (1, .int x1)] [] σ (some (.int (v_cTyp_partOf x0 x1 σ)), σ) := by
  unfold v_cTyp_partOf
  refine jE_blk (bs := [(.iload_n 0, 0, 0)]) (i := .invokestatic 124) (a1 := 82) (a2 := 0) (pc1 := 1) (l1 := [(0, .int x0), (1, .int x1)]) (st1 := [.int x0]) (σ1 := σ) (by decide +kernel) rfl (fun hC => ?_)
  refine jE_call (as := [.int x0]) (pc1 := 4) (st1 := []) hC rfl (by decide) (by omega) (xv_cTyp_takenBy (d - 1) (by omega) x0 σ) ?_
  refine jE_blk (bs := [(.iconst (1), 1, 0)]) (i := .if_icmp .ne (9)) (a1 := 0) (a2 := 0) (pc1 := 5) (l1 := [(0, .int x0), (1, .int x1)]) (st1 := [.int (1 : Int32), .int (v_cTyp_takenBy x0 σ)]) (σ1 := σ) (by decide +kernel) rfl (fun hC => ?_)
  rcases Classical.em (¬ (v_cTyp_takenBy x0 σ) = (1 : Int32)) with hc | hc
  · rw [if_pos hc]
    refine jE_icT 14 hC (by decide) hc ?_
    refine jE_blk (bs := [(.iload_n 1, 0, 0)]) (i := .ifCond .ne (12)) (a1 := 0) (a2 := 0) (pc1 := 15) (l1 := [(0, .int x0), (1, .int x1)]) (st1 := [.int x1]) (σ1 := σ) (by decide +kernel) rfl (fun hC => ?_)
    rcases Classical.em (¬ x1 = 0) with hc | hc
    · rw [if_pos hc]
      refine jE_ifT 27 hC (by decide) hc ?_
      refine jE_blk (bs := [(.iload_n 0, 0, 0), (.bipush (6), 6, 0), (.isub, 0, 0), (.iconst (1), 1, 0), (.ishr, 0, 0), (.iconst (1), 1, 0), (.iand, 0, 0)]) (i := .ireturn) (a1 := 0) (a2 := 0) (pc1 := 35) (l1 := [(0, .int x0), (1, .int x1)]) (st1 := [.int (((x0 - (6 : Int32)) >>> ((1 : Int32) &&& 31)) &&& (1 : Int32))]) (σ1 := σ) (by decide +kernel) rfl (fun hC => ?_)
      exact jE_ret hC rfl
    · rw [if_neg hc]
      refine jE_ifF 27 hC (by decide) hc ?_
      refine jE_blk (bs := [(.iload_n 0, 0, 0), (.bipush (6), 6, 0), (.isub, 0, 0), (.iconst (2), 2, 0), (.ishr, 0, 0), (.goto (11), 0, 0)]) (i := .ireturn) (a1 := 0) (a2 := 0) (pc1 := 35) (l1 := [(0, .int x0), (1, .int x1)]) (st1 := [.int ((x0 - (6 : Int32)) >>> ((2 : Int32) &&& 31))]) (σ1 := σ) (by decide +kernel) rfl (fun hC => ?_)
      exact jE_ret hC rfl
  · rw [if_neg hc]
    refine jE_icF 14 hC (by decide) hc ?_
    refine jE_blk (bs := [(.iload_n 0, 0, 0), (.iconst (2), 2, 0), (.isub, 0, 0), (.iconst (1), 1, 0), (.ishr, 0, 0)]) (i := .ireturn) (a1 := 0) (a2 := 0) (pc1 := 13) (l1 := [(0, .int x0), (1, .int x1)]) (st1 := [.int ((x0 - (2 : Int32)) >>> ((1 : Int32) &&& 31))]) (σ1 := σ) (by decide +kernel) rfl (fun hC => ?_)
    exact jE_ret hC rfl
def v_cTyp_isBase (x0 : Int32) (σ : jx_S) : Int32 := (if x0 = 0 then (1 : Int32) else (if ¬ x0 = (1 : Int32) then (0 : Int32) else (1 : Int32)))
theorem xv_cTyp_isBase (d : Nat) (hd : 0 ≤ d) (x0 : Int32) (σ : jx_S) : jE d 81 0 [(0, .int x0)] [] σ (some (.int (v_cTyp_isBase x0 σ)), σ) := by
  unfold v_cTyp_isBase
  refine jE_blk (bs := [(.iload_n 0, 0, 0)]) (i := .ifCond .eq (8)) (a1 := 0) (a2 := 0) (pc1 := 1) (l1 := [(0, .int x0)]) (st1 := [.int x0]) (σ1 := σ) (by decide +kernel) rfl (fun hC => ?_)
  rcases Classical.em (x0 = 0) with hc | hc
  · rw [if_pos hc]
    refine jE_ifT 9 hC (by decide) hc ?_
    refine jE_blk (bs := [(.iconst (1), 1, 0), (.goto (4), 0, 0)]) (i := .ireturn) (a1 := 1) (a2 := 0) (pc1 := 14) (l1 := [(0, .int x0)]) (st1 := [.int (1 : Int32)]) (σ1 := σ) (by decide +kernel) rfl (fun hC => ?_)
    exact jE_ret hC rfl
  · rw [if_neg hc]
    refine jE_ifF 9 hC (by decide) hc ?_
    refine jE_blk (bs := [(.iload_n 0, 0, 0), (.iconst (1), 1, 0)]) (i := .if_icmp .ne (7)) (a1 := 0) (a2 := 0) (pc1 := 6) (l1 := [(0, .int x0)]) (st1 := [.int (1 : Int32), .int x0]) (σ1 := σ) (by decide +kernel) rfl (fun hC => ?_)
    rcases Classical.em (¬ x0 = (1 : Int32)) with hc | hc
    · rw [if_pos hc]
      refine jE_icT 13 hC (by decide) hc ?_
      refine jE_blk (bs := [(.iconst (0), 0, 0)]) (i := .ireturn) (a1 := 1) (a2 := 0) (pc1 := 14) (l1 := [(0, .int x0)]) (st1 := [.int (0 : Int32)]) (σ1 := σ) (by decide +kernel) rfl (fun hC => ?_)
      exact jE_ret hC rfl
    · rw [if_neg hc]
      refine jE_icF 13 hC (by decide) hc ?_
      refine jE_blk (bs := [(.iconst (1), 1, 0), (.goto (4), 0, 0)]) (i := .ireturn) (a1 := 1) (a2 := 0) (pc1 := 14) (l1 := [(0, .int x0)]) (st1 := [.int (1 : Int32)]) (σ1 := σ) (by decide +kernel) rfl (fun hC => ?_)
      exact jE_ret hC rfl
def v_cTyp_leftOfFunction (x1 : Int32) (x2 : Int32) (σ : jx_S) : Int32 := (if ¬ ((jI_at 40 (σ.1 43) x1) - x2) = 0 then (if ¬ ((jI_at 40 (σ.1 43) x1) - x2) = (1 : Int32) then (if ¬ ((jI_at 40 (σ.1 43) x1) - x2) = (2 : Int32) then (-1 : Int32) else (if (v_cTyp_isBase (v_cFun_typeOf x1 x2 σ) σ) = 0 then (-1 : Int32) else (if (v_cTyp_isBase (v_cFun_typeOf x1 (x2 + (1 : Int32)) σ) σ) = 0 then (-1 : Int32) else ((((6 : Int32) + ((4 : Int32) * (v_cFun_typeOf x1 x2 σ))) + ((2 : Int32) * (v_cFun_typeOf x1 (x2 + (1 : Int32)) σ))) + (jI_at 40 (σ.1 45) x1))))) else (if (v_cTyp_isBase (v_cFun_typeOf x1 x2 σ) σ) = 0 then (if ¬ ((jI_at 40 (σ.1 43) x1) - x2) = (2 : Int32) then (-1 : Int32) else (if (v_cTyp_isBase (v_cFun_typeOf x1 x2 σ) σ) = 0 then (-1 : Int32) else (if (v_cTyp_isBase (v_cFun_typeOf x1 (x2 + (1 : Int32)) σ) σ) = 0 then (-1 : Int32) else ((((6 : Int32) + ((4 : Int32) * (v_cFun_typeOf x1 x2 σ))) + ((2 : Int32) * (v_cFun_typeOf x1 (x2 + (1 : Int32)) σ))) + (jI_at 40 (σ.1 45) x1))))) else (((2 : Int32) + ((2 : Int32) * (v_cFun_typeOf x1 x2 σ))) + (jI_at 40 (σ.1 45) x1)))) else (jI_at 40 (σ.1 45) x1))
theorem xv_cTyp_leftOfFunction (d : Nat) (hd : 2 ≤ d) (x1 : Int32) (x2 : Int32) (σ : jx_S) : jE d 74 0 [(0, .ref 6), (1, .int x1), (2, .int x2)] [] σ (some (.int (v_cTyp_leftOfFunction x1 x2 σ)), σ) := by
  unfold v_cTyp_leftOfFunction
  refine jE_blk (bs := [(.aload_n 0, 0, 0), (.getfield 19, 6, 2), (.getfield 82, 4, 2), (.iload_n 1, 0, 0)]) (i := .invokevirtual 53) (a1 := 136) (a2 := 0) (pc1 := 8) (l1 := [(0, .ref 6), (1, .int x1), (2, .int x2)]) (st1 := [.int x1, .ref 44]) (σ1 := σ) (by decide +kernel) rfl (fun hC => ?_)
  refine jE_call (as := [.ref 44, .int x1]) (pc1 := 11) (st1 := []) hC rfl (by decide) (by omega) (xI_at (d - 1) 44 40 x1 σ (by decide) rfl rfl) ?_
  refine jE_blk (bs := [(.istore_n 3, 7, 0), (.aload_n 0, 0, 0), (.getfield 19, 6, 2), (.getfield 67, 4, 1), (.iload_n 1, 0, 0)]) (i := .invokevirtual 53) (a1 := 136) (a2 := 0) (pc1 := 20) (l1 := [(3, .int (jI_at 40 (σ.1 45) x1)), (0, .ref 6), (1, .int x1), (2, .int x2)]) (st1 := [.int x1, .ref 42]) (σ1 := σ) (by decide +kernel) rfl (fun hC => ?_)
  refine jE_call (as := [.ref 42, .int x1]) (pc1 := 23) (st1 := []) hC rfl (by decide) (by omega) (xI_at (d - 1) 42 40 x1 σ (by decide) rfl rfl) ?_
  refine jE_blk (bs := [(.iload_n 2, 0, 0), (.isub, 0, 0), (.istore 4, 7, 0), (.aload_n 0, 0, 0), (.getfield 19, 6, 2), (.iload_n 1, 0, 0), (.iload_n 2, 0, 0)]) (i := .invokevirtual 114) (a1 := 40) (a2 := 0) (pc1 := 33) (l1 := [(4, .int ((jI_at 40 (σ.1 43) x1) - x2)), (3, .int (jI_at 40 (σ.1 45) x1)), (0, .ref 6), (1, .int x1), (2, .int x2)]) (st1 := [.int x2, .int x1, .ref 4]) (σ1 := σ) (by decide +kernel) rfl (fun hC => ?_)
  refine jE_call (as := [.ref 4, .int x1, .int x2]) (pc1 := 36) (st1 := []) hC rfl (by decide) (by omega) (xv_cFun_typeOf (d - 1) (by omega) x1 x2 σ) ?_
  refine jE_blk (bs := [(.istore 5, 7, 0), (.aload_n 0, 0, 0), (.getfield 19, 6, 2), (.iload_n 1, 0, 0), (.iload_n 2, 0, 0), (.iconst (1), 1, 0), (.iadd, 0, 0)]) (i := .invokevirtual 114) (a1 := 40) (a2 := 0) (pc1 := 46) (l1 := [(5, .int (v_cFun_typeOf x1 x2 σ)), (4, .int ((jI_at 40 (σ.1 43) x1) - x2)), (3, .int (jI_at 40 (σ.1 45) x1)), (0, .ref 6), (1, .int x1), (2, .int x2)]) (st1 := [.int (x2 + (1 : Int32)), .int x1, .ref 4]) (σ1 := σ) (by decide +kernel) rfl (fun hC => ?_)
  refine jE_call (as := [.ref 4, .int x1, .int (x2 + (1 : Int32))]) (pc1 := 49) (st1 := []) hC rfl (by decide) (by omega) (xv_cFun_typeOf (d - 1) (by omega) x1 (x2 + (1 : Int32)) σ) ?_
  refine jE_blk (bs := [(.istore 6, 7, 0), (.iload 4, 0, 0)]) (i := .ifCond .ne (5)) (a1 := 0) (a2 := 0) (pc1 := 53) (l1 := [(6, .int (v_cFun_typeOf x1 (x2 + (1 : Int32)) σ)), (5, .int (v_cFun_typeOf x1 x2 σ)), (4, .int ((jI_at 40 (σ.1 43) x1) - x2)), (3, .int (jI_at 40 (σ.1 45) x1)), (0, .ref 6), (1, .int x1), (2, .int x2)]) (st1 := [.int ((jI_at 40 (σ.1 43) x1) - x2)]) (σ1 := σ) (by decide +kernel) rfl (fun hC => ?_)
  rcases Classical.em (¬ ((jI_at 40 (σ.1 43) x1) - x2) = 0) with hc | hc
  · rw [if_pos hc]
    refine jE_ifT 58 hC (by decide) hc ?_
    refine jE_blk (bs := [(.iload 4, 0, 0), (.iconst (1), 1, 0)]) (i := .if_icmp .ne (20)) (a1 := 0) (a2 := 0) (pc1 := 61) (l1 := [(6, .int (v_cFun_typeOf x1 (x2 + (1 : Int32)) σ)), (5, .int (v_cFun_typeOf x1 x2 σ)), (4, .int ((jI_at 40 (σ.1 43) x1) - x2)), (3, .int (jI_at 40 (σ.1 45) x1)), (0, .ref 6), (1, .int x1), (2, .int x2)]) (st1 := [.int (1 : Int32), .int ((jI_at 40 (σ.1 43) x1) - x2)]) (σ1 := σ) (by decide +kernel) rfl (fun hC => ?_)
    rcases Classical.em (¬ ((jI_at 40 (σ.1 43) x1) - x2) = (1 : Int32)) with hc | hc
    · rw [if_pos hc]
      refine jE_icT 81 hC (by decide) hc ?_
      refine jE_blk (bs := [(.iload 4, 0, 0), (.iconst (2), 2, 0)]) (i := .if_icmp .ne (34)) (a1 := 0) (a2 := 0) (pc1 := 84) (l1 := [(6, .int (v_cFun_typeOf x1 (x2 + (1 : Int32)) σ)), (5, .int (v_cFun_typeOf x1 x2 σ)), (4, .int ((jI_at 40 (σ.1 43) x1) - x2)), (3, .int (jI_at 40 (σ.1 45) x1)), (0, .ref 6), (1, .int x1), (2, .int x2)]) (st1 := [.int (2 : Int32), .int ((jI_at 40 (σ.1 43) x1) - x2)]) (σ1 := σ) (by decide +kernel) rfl (fun hC => ?_)
      rcases Classical.em (¬ ((jI_at 40 (σ.1 43) x1) - x2) = (2 : Int32)) with hc | hc
      · rw [if_pos hc]
        refine jE_icT 118 hC (by decide) hc ?_
        refine jE_blk (bs := [(.iconst (-1), 1, 1)]) (i := .ireturn) (a1 := 0) (a2 := 0) (pc1 := 119) (l1 := [(6, .int (v_cFun_typeOf x1 (x2 + (1 : Int32)) σ)), (5, .int (v_cFun_typeOf x1 x2 σ)), (4, .int ((jI_at 40 (σ.1 43) x1) - x2)), (3, .int (jI_at 40 (σ.1 45) x1)), (0, .ref 6), (1, .int x1), (2, .int x2)]) (st1 := [.int (-1 : Int32)]) (σ1 := σ) (by decide +kernel) rfl (fun hC => ?_)
        exact jE_ret hC rfl
      · rw [if_neg hc]
        refine jE_icF 118 hC (by decide) hc ?_
        refine jE_blk (bs := [(.iload 5, 0, 0)]) (i := .invokestatic 103) (a1 := 81) (a2 := 0) (pc1 := 89) (l1 := [(6, .int (v_cFun_typeOf x1 (x2 + (1 : Int32)) σ)), (5, .int (v_cFun_typeOf x1 x2 σ)), (4, .int ((jI_at 40 (σ.1 43) x1) - x2)), (3, .int (jI_at 40 (σ.1 45) x1)), (0, .ref 6), (1, .int x1), (2, .int x2)]) (st1 := [.int (v_cFun_typeOf x1 x2 σ)]) (σ1 := σ) (by decide +kernel) rfl (fun hC => ?_)
        refine jE_call (as := [.int (v_cFun_typeOf x1 x2 σ)]) (pc1 := 92) (st1 := []) hC rfl (by decide) (by omega) (xv_cTyp_isBase (d - 1) (by omega) (v_cFun_typeOf x1 x2 σ) σ) ?_
        refine jE_blk (bs := []) (i := .ifCond .eq (26)) (a1 := 0) (a2 := 0) (pc1 := 92) (l1 := [(6, .int (v_cFun_typeOf x1 (x2 + (1 : Int32)) σ)), (5, .int (v_cFun_typeOf x1 x2 σ)), (4, .int ((jI_at 40 (σ.1 43) x1) - x2)), (3, .int (jI_at 40 (σ.1 45) x1)), (0, .ref 6), (1, .int x1), (2, .int x2)]) (st1 := [.int (v_cTyp_isBase (v_cFun_typeOf x1 x2 σ) σ)]) (σ1 := σ) (by decide +kernel) rfl (fun hC => ?_)
        rcases Classical.em ((v_cTyp_isBase (v_cFun_typeOf x1 x2 σ) σ) = 0) with hc | hc
        · rw [if_pos hc]
          refine jE_ifT 118 hC (by decide) hc ?_
          refine jE_blk (bs := [(.iconst (-1), 1, 1)]) (i := .ireturn) (a1 := 0) (a2 := 0) (pc1 := 119) (l1 := [(6, .int (v_cFun_typeOf x1 (x2 + (1 : Int32)) σ)), (5, .int (v_cFun_typeOf x1 x2 σ)), (4, .int ((jI_at 40 (σ.1 43) x1) - x2)), (3, .int (jI_at 40 (σ.1 45) x1)), (0, .ref 6), (1, .int x1), (2, .int x2)]) (st1 := [.int (-1 : Int32)]) (σ1 := σ) (by decide +kernel) rfl (fun hC => ?_)
          exact jE_ret hC rfl
        · rw [if_neg hc]
          refine jE_ifF 118 hC (by decide) hc ?_
          refine jE_blk (bs := [(.iload 6, 0, 0)]) (i := .invokestatic 103) (a1 := 81) (a2 := 0) (pc1 := 97) (l1 := [(6, .int (v_cFun_typeOf x1 (x2 + (1 : Int32)) σ)), (5, .int (v_cFun_typeOf x1 x2 σ)), (4, .int ((jI_at 40 (σ.1 43) x1) - x2)), (3, .int (jI_at 40 (σ.1 45) x1)), (0, .ref 6), (1, .int x1), (2, .int x2)]) (st1 := [.int (v_cFun_typeOf x1 (x2 + (1 : Int32)) σ)]) (σ1 := σ) (by decide +kernel) rfl (fun hC => ?_)
          refine jE_call (as := [.int (v_cFun_typeOf x1 (x2 + (1 : Int32)) σ)]) (pc1 := 100) (st1 := []) hC rfl (by decide) (by omega) (xv_cTyp_isBase (d - 1) (by omega) (v_cFun_typeOf x1 (x2 + (1 : Int32)) σ) σ) ?_
          refine jE_blk (bs := []) (i := .ifCond .eq (18)) (a1 := 0) (a2 := 0) (pc1 := 100) (l1 := [(6, .int (v_cFun_typeOf x1 (x2 + (1 : Int32)) σ)), (5, .int (v_cFun_typeOf x1 x2 σ)), (4, .int ((jI_at 40 (σ.1 43) x1) - x2)), (3, .int (jI_at 40 (σ.1 45) x1)), (0, .ref 6), (1, .int x1), (2, .int x2)]) (st1 := [.int (v_cTyp_isBase (v_cFun_typeOf x1 (x2 + (1 : Int32)) σ) σ)]) (σ1 := σ) (by decide +kernel) rfl (fun hC => ?_)
          rcases Classical.em ((v_cTyp_isBase (v_cFun_typeOf x1 (x2 + (1 : Int32)) σ) σ) = 0) with hc | hc
          · rw [if_pos hc]
            refine jE_ifT 118 hC (by decide) hc ?_
            refine jE_blk (bs := [(.iconst (-1), 1, 1)]) (i := .ireturn) (a1 := 0) (a2 := 0) (pc1 := 119) (l1 := [(6, .int (v_cFun_typeOf x1 (x2 + (1 : Int32)) σ)), (5, .int (v_cFun_typeOf x1 x2 σ)), (4, .int ((jI_at 40 (σ.1 43) x1) - x2)), (3, .int (jI_at 40 (σ.1 45) x1)), (0, .ref 6), (1, .int x1), (2, .int x2)]) (st1 := [.int (-1 : Int32)]) (σ1 := σ) (by decide +kernel) rfl (fun hC => ?_)
            exact jE_ret hC rfl
          · rw [if_neg hc]
            refine jE_ifF 118 hC (by decide) hc ?_
            refine jE_blk (bs := [(.bipush (6), 6, 0), (.iconst (4), 4, 0), (.iload 5, 0, 0), (.imul, 0, 0), (.iadd, 0, 0), (.iconst (2), 2, 0), (.iload 6, 0, 0), (.imul, 0, 0), (.iadd, 0, 0), (.iload_n 3, 0, 0), (.iadd, 0, 0)]) (i := .ireturn) (a1 := 0) (a2 := 0) (pc1 := 117) (l1 := [(6, .int (v_cFun_typeOf x1 (x2 + (1 : Int32)) σ)), (5, .int (v_cFun_typeOf x1 x2 σ)), (4, .int ((jI_at 40 (σ.1 43) x1) - x2)), (3, .int (jI_at 40 (σ.1 45) x1)), (0, .ref 6), (1, .int x1), (2, .int x2)]) (st1 := [.int ((((6 : Int32) + ((4 : Int32) * (v_cFun_typeOf x1 x2 σ))) + ((2 : Int32) * (v_cFun_typeOf x1 (x2 + (1 : Int32)) σ))) + (jI_at 40 (σ.1 45) x1))]) (σ1 := σ) (by decide +kernel) rfl (fun hC => ?_)
            exact jE_ret hC rfl
    · rw [if_neg hc]
      refine jE_icF 81 hC (by decide) hc ?_
      refine jE_blk (bs := [(.iload 5, 0, 0)]) (i := .invokestatic 103) (a1 := 81) (a2 := 0) (pc1 := 66) (l1 := [(6, .int (v_cFun_typeOf x1 (x2 + (1 : Int32)) σ)), (5, .int (v_cFun_typeOf x1 x2 σ)), (4, .int ((jI_at 40 (σ.1 43) x1) - x2)), (3, .int (jI_at 40 (σ.1 45) x1)), (0, .ref 6), (1, .int x1), (2, .int x2)]) (st1 := [.int (v_cFun_typeOf x1 x2 σ)]) (σ1 := σ) (by decide +kernel) rfl (fun hC => ?_)
      refine jE_call (as := [.int (v_cFun_typeOf x1 x2 σ)]) (pc1 := 69) (st1 := []) hC rfl (by decide) (by omega) (xv_cTyp_isBase (d - 1) (by omega) (v_cFun_typeOf x1 x2 σ) σ) ?_
      refine jE_blk (bs := []) (i := .ifCond .eq (12)) (a1 := 0) (a2 := 0) (pc1 := 69) (l1 := [(6, .int (v_cFun_typeOf x1 (x2 + (1 : Int32)) σ)), (5, .int (v_cFun_typeOf x1 x2 σ)), (4, .int ((jI_at 40 (σ.1 43) x1) - x2)), (3, .int (jI_at 40 (σ.1 45) x1)), (0, .ref 6), (1, .int x1), (2, .int x2)]) (st1 := [.int (v_cTyp_isBase (v_cFun_typeOf x1 x2 σ) σ)]) (σ1 := σ) (by decide +kernel) rfl (fun hC => ?_)
      rcases Classical.em ((v_cTyp_isBase (v_cFun_typeOf x1 x2 σ) σ) = 0) with hc | hc
      · rw [if_pos hc]
        refine jE_ifT 81 hC (by decide) hc ?_
        refine jE_blk (bs := [(.iload 4, 0, 0), (.iconst (2), 2, 0)]) (i := .if_icmp .ne (34)) (a1 := 0) (a2 := 0) (pc1 := 84) (l1 := [(6, .int (v_cFun_typeOf x1 (x2 + (1 : Int32)) σ)), (5, .int (v_cFun_typeOf x1 x2 σ)), (4, .int ((jI_at 40 (σ.1 43) x1) - x2)), (3, .int (jI_at 40 (σ.1 45) x1)), (0, .ref 6), (1, .int x1), (2, .int x2)]) (st1 := [.int (2 : Int32), .int ((jI_at 40 (σ.1 43) x1) - x2)]) (σ1 := σ) (by decide +kernel) rfl (fun hC => ?_)
        rcases Classical.em (¬ ((jI_at 40 (σ.1 43) x1) - x2) = (2 : Int32)) with hc | hc
        · rw [if_pos hc]
          refine jE_icT 118 hC (by decide) hc ?_
          refine jE_blk (bs := [(.iconst (-1), 1, 1)]) (i := .ireturn) (a1 := 0) (a2 := 0) (pc1 := 119) (l1 := [(6, .int (v_cFun_typeOf x1 (x2 + (1 : Int32)) σ)), (5, .int (v_cFun_typeOf x1 x2 σ)), (4, .int ((jI_at 40 (σ.1 43) x1) - x2)), (3, .int (jI_at 40 (σ.1 45) x1)), (0, .ref 6), (1, .int x1), (2, .int x2)]) (st1 := [.int (-1 : Int32)]) (σ1 := σ) (by decide +kernel) rfl (fun hC => ?_)
          exact jE_ret hC rfl
        · rw [if_neg hc]
          refine jE_icF 118 hC (by decide) hc ?_
          refine jE_blk (bs := [(.iload 5, 0, 0)]) (i := .invokestatic 103) (a1 := 81) (a2 := 0) (pc1 := 89) (l1 := [(6, .int (v_cFun_typeOf x1 (x2 + (1 : Int32)) σ)), (5, .int (v_cFun_typeOf x1 x2 σ)), (4, .int ((jI_at 40 (σ.1 43) x1) - x2)), (3, .int (jI_at 40 (σ.1 45) x1)), (0, .ref 6), (1, .int x1), (2, .int x2)]) (st1 := [.int (v_cFun_typeOf x1 x2 σ)]) (σ1 := σ) (by decide +kernel) rfl (fun hC => ?_)
          refine jE_call (as := [.int (v_cFun_typeOf x1 x2 σ)]) (pc1 := 92) (st1 := []) hC rfl (by decide) (by omega) (xv_cTyp_isBase (d - 1) (by omega) (v_cFun_typeOf x1 x2 σ) σ) ?_
          refine jE_blk (bs := []) (i := .ifCond .eq (26)) (a1 := 0) (a2 := 0) (pc1 := 92) (l1 := [(6, .int (v_cFun_typeOf x1 (x2 + (1 : Int32)) σ)), (5, .int (v_cFun_typeOf x1 x2 σ)), (4, .int ((jI_at 40 (σ.1 43) x1) - x2)), (3, .int (jI_at 40 (σ.1 45) x1)), (0, .ref 6), (1, .int x1), (2, .int x2)]) (st1 := [.int (v_cTyp_isBase (v_cFun_typeOf x1 x2 σ) σ)]) (σ1 := σ) (by decide +kernel) rfl (fun hC => ?_)
          rcases Classical.em ((v_cTyp_isBase (v_cFun_typeOf x1 x2 σ) σ) = 0) with hc | hc
          · rw [if_pos hc]
            refine jE_ifT 118 hC (by decide) hc ?_
            refine jE_blk (bs := [(.iconst (-1), 1, 1)]) (i := .ireturn) (a1 := 0) (a2 := 0) (pc1 := 119) (l1 := [(6, .int (v_cFun_typeOf x1 (x2 + (1 : Int32)) σ)), (5, .int (v_cFun_typeOf x1 x2 σ)), (4, .int ((jI_at 40 (σ.1 43) x1) - x2)), (3, .int (jI_at 40 (σ.1 45) x1)), (0, .ref 6), (1, .int x1), (2, .int x2)]) (st1 := [.int (-1 : Int32)]) (σ1 := σ) (by decide +kernel) rfl (fun hC => ?_)
            exact jE_ret hC rfl
          · rw [if_neg hc]
            refine jE_ifF 118 hC (by decide) hc ?_
            refine jE_blk (bs := [(.iload 6, 0, 0)]) (i := .invokestatic 103) (a1 := 81) (a2 := 0) (pc1 := 97) (l1 := [(6, .int (v_cFun_typeOf x1 (x2 + (1 : Int32)) σ)), (5, .int (v_cFun_typeOf x1 x2 σ)), (4, .int ((jI_at 40 (σ.1 43) x1) - x2)), (3, .int (jI_at 40 (σ.1 45) x1)), (0, .ref 6), (1, .int x1), (2, .int x2)]) (st1 := [.int (v_cFun_typeOf x1 (x2 + (1 : Int32)) σ)]) (σ1 := σ) (by decide +kernel) rfl (fun hC => ?_)
            refine jE_call (as := [.int (v_cFun_typeOf x1 (x2 + (1 : Int32)) σ)]) (pc1 := 100) (st1 := []) hC rfl (by decide) (by omega) (xv_cTyp_isBase (d - 1) (by omega) (v_cFun_typeOf x1 (x2 + (1 : Int32)) σ) σ) ?_
            refine jE_blk (bs := []) (i := .ifCond .eq (18)) (a1 := 0) (a2 := 0) (pc1 := 100) (l1 := [(6, .int (v_cFun_typeOf x1 (x2 + (1 : Int32)) σ)), (5, .int (v_cFun_typeOf x1 x2 σ)), (4, .int ((jI_at 40 (σ.1 43) x1) - x2)), (3, .int (jI_at 40 (σ.1 45) x1)), (0, .ref 6), (1, .int x1), (2, .int x2)]) (st1 := [.int (v_cTyp_isBase (v_cFun_typeOf x1 (x2 + (1 : Int32)) σ) σ)]) (σ1 := σ) (by decide +kernel) rfl (fun hC => ?_)
            rcases Classical.em ((v_cTyp_isBase (v_cFun_typeOf x1 (x2 + (1 : Int32)) σ) σ) = 0) with hc | hc
            · rw [if_pos hc]
              refine jE_ifT 118 hC (by decide) hc ?_
              refine jE_blk (bs := [(.iconst (-1), 1, 1)]) (i := .ireturn) (a1 := 0) (a2 := 0) (pc1 := 119) (l1 := [(6, .int (v_cFun_typeOf x1 (x2 + (1 : Int32)) σ)), (5, .int (v_cFun_typeOf x1 x2 σ)), (4, .int ((jI_at 40 (σ.1 43) x1) - x2)), (3, .int (jI_at 40 (σ.1 45) x1)), (0, .ref 6), (1, .int x1), (2, .int x2)]) (st1 := [.int (-1 : Int32)]) (σ1 := σ) (by decide +kernel) rfl (fun hC => ?_)
              exact jE_ret hC rfl
            · rw [if_neg hc]
              refine jE_ifF 118 hC (by decide) hc ?_
              refine jE_blk (bs := [(.bipush (6), 6, 0), (.iconst (4), 4, 0), (.iload 5, 0, 0), (.imul, 0, 0), (.iadd, 0, 0), (.iconst (2), 2, 0), (.iload 6, 0, 0), (.imul, 0, 0), (.iadd, 0, 0), (.iload_n 3, 0, 0), (.iadd, 0, 0)]) (i := .ireturn) (a1 := 0) (a2 := 0) (pc1 := 117) (l1 := [(6, .int (v_cFun_typeOf x1 (x2 + (1 : Int32)) σ)), (5, .int (v_cFun_typeOf x1 x2 σ)), (4, .int ((jI_at 40 (σ.1 43) x1) - x2)), (3, .int (jI_at 40 (σ.1 45) x1)), (0, .ref 6), (1, .int x1), (2, .int x2)]) (st1 := [.int ((((6 : Int32) + ((4 : Int32) * (v_cFun_typeOf x1 x2 σ))) + ((2 : Int32) * (v_cFun_typeOf x1 (x2 + (1 : Int32)) σ))) + (jI_at 40 (σ.1 45) x1))]) (σ1 := σ) (by decide +kernel) rfl (fun hC => ?_)
              exact jE_ret hC rfl
      · rw [if_neg hc]
        refine jE_ifF 81 hC (by decide) hc ?_
        refine jE_blk (bs := [(.iconst (2), 2, 0), (.iconst (2), 2, 0), (.iload 5, 0, 0), (.imul, 0, 0), (.iadd, 0, 0), (.iload_n 3, 0, 0), (.iadd, 0, 0)]) (i := .ireturn) (a1 := 0) (a2 := 0) (pc1 := 80) (l1 := [(6, .int (v_cFun_typeOf x1 (x2 + (1 : Int32)) σ)), (5, .int (v_cFun_typeOf x1 x2 σ)), (4, .int ((jI_at 40 (σ.1 43) x1) - x2)), (3, .int (jI_at 40 (σ.1 45) x1)), (0, .ref 6), (1, .int x1), (2, .int x2)]) (st1 := [.int (((2 : Int32) + ((2 : Int32) * (v_cFun_typeOf x1 x2 σ))) + (jI_at 40 (σ.1 45) x1))]) (σ1 := σ) (by decide +kernel) rfl (fun hC => ?_)
        exact jE_ret hC rfl
  · rw [if_neg hc]
    refine jE_ifF 58 hC (by decide) hc ?_
    refine jE_blk (bs := [(.iload_n 3, 0, 0)]) (i := .ireturn) (a1 := 0) (a2 := 0) (pc1 := 57) (l1 := [(6, .int (v_cFun_typeOf x1 (x2 + (1 : Int32)) σ)), (5, .int (v_cFun_typeOf x1 x2 σ)), (4, .int ((jI_at 40 (σ.1 43) x1) - x2)), (3, .int (jI_at 40 (σ.1 45) x1)), (0, .ref 6), (1, .int x1), (2, .int x2)]) (st1 := [.int (jI_at 40 (σ.1 45) x1)]) (σ1 := σ) (by decide +kernel) rfl (fun hC => ?_)
    exact jE_ret hC rfl
def v_cTyp_pointsOf (x0 : Int32) (σ : jx_S) : Int32 := (if (v_cTyp_takenBy x0 σ) = 0 then (2 : Int32) else (if (v_cTyp_takenBy x0 σ) = 1 then (3 : Int32) else (6 : Int32)))
theorem xv_cTyp_pointsOf (d : Nat) (hd : 1 ≤ d) (x0 : Int32) (σ : jx_S) : jE d 83 0 [(0, .int x0)] [] σ (some (.int (v_cTyp_pointsOf x0 σ)), σ) := by
  unfold v_cTyp_pointsOf
  refine jE_blk (bs := [(.iload_n 0, 0, 0)]) (i := .invokestatic 124) (a1 := 82) (a2 := 0) (pc1 := 1) (l1 := [(0, .int x0)]) (st1 := [.int x0]) (σ1 := σ) (by decide +kernel) rfl (fun hC => ?_)
  refine jE_call (as := [.int x0]) (pc1 := 4) (st1 := []) hC rfl (by decide) (by omega) (xv_cTyp_takenBy (d - 1) (by omega) x0 σ) ?_
  refine jE_blk (bs := []) (i := .lookupswitch (32) #[(0, 28), (1, 30)]) (a1 := 0) (a2 := 0) (pc1 := 4) (l1 := [(0, .int x0)]) (st1 := [.int (v_cTyp_takenBy x0 σ)]) (σ1 := σ) (by decide +kernel) rfl (fun hC => ?_)
  rcases Classical.em ((v_cTyp_takenBy x0 σ) = 0) with hc0 | hc0
  · rw [if_pos hc0]
    refine jE_lsw 32 0 hC hc0 (by decide +kernel) ?_
    refine jE_blk (bs := [(.iconst (2), 2, 0)]) (i := .ireturn) (a1 := 0) (a2 := 0) (pc1 := 33) (l1 := [(0, .int x0)]) (st1 := [.int (2 : Int32)]) (σ1 := σ) (by decide +kernel) rfl (fun hC => ?_)
    exact jE_ret hC rfl
  · rw [if_neg hc0]
    rcases Classical.em ((v_cTyp_takenBy x0 σ) = 1) with hc1 | hc1
    · rw [if_pos hc1]
      refine jE_lsw 34 1 hC hc1 (by decide +kernel) ?_
      refine jE_blk (bs := [(.iconst (3), 3, 0)]) (i := .ireturn) (a1 := 0) (a2 := 0) (pc1 := 35) (l1 := [(0, .int x0)]) (st1 := [.int (3 : Int32)]) (σ1 := σ) (by decide +kernel) rfl (fun hC => ?_)
      exact jE_ret hC rfl
    · rw [if_neg hc1]
      refine jE_lswD 36 [0, 1] hC (by decide +kernel) ⟨hc0, hc1, trivial⟩ ?_
      refine jE_blk (bs := [(.bipush (6), 6, 0)]) (i := .ireturn) (a1 := 0) (a2 := 0) (pc1 := 38) (l1 := [(0, .int x0)]) (st1 := [.int (6 : Int32)]) (σ1 := σ) (by decide +kernel) rfl (fun hC => ?_)
      exact jE_ret hC rfl
def v_cAna_shapeOfOne (x0 : Int32) (x1 : Int32) (σ : jx_S) : Int32 := (if ¬ x0 = (1 : Int32) then (x0 >>> ((1 : Int32) &&& 31)) else x1)
theorem xv_cAna_shapeOfOne (d : Nat) (hd : 0 ≤ d) (x0 : Int32) (x1 : Int32) (σ : jx_S) : jE d 99 0 [(0, .int x0), (1, .int x1)] [] σ (some (.int (v_cAna_shapeOfOne x0 x1 σ)), σ) := by
  unfold v_cAna_shapeOfOne
  refine jE_blk (bs := [(.iload_n 0, 0, 0), (.iconst (1), 1, 0)]) (i := .if_icmp .ne (7)) (a1 := 0) (a2 := 0) (pc1 := 2) (l1 := [(0, .int x0), (1, .int x1)]) (st1 := [.int (1 : Int32), .int x0]) (σ1 := σ) (by decide +kernel) rfl (fun hC => ?_)
  rcases Classical.em (¬ x0 = (1 : Int32)) with hc | hc
  · rw [if_pos hc]
    refine jE_icT 9 hC (by decide) hc ?_
    refine jE_blk (bs := [(.iload_n 0, 0, 0), (.iconst (1), 1, 0), (.ishr, 0, 0)]) (i := .ireturn) (a1 := 0) (a2 := 0) (pc1 := 12) (l1 := [(0, .int x0), (1, .int x1)]) (st1 := [.int (x0 >>> ((1 : Int32) &&& 31))]) (σ1 := σ) (by decide +kernel) rfl (fun hC => ?_)
    exact jE_ret hC rfl
  · rw [if_neg hc]
    refine jE_icF 9 hC (by decide) hc ?_
    refine jE_blk (bs := [(.iload_n 1, 0, 0), (.goto (6), 0, 0)]) (i := .ireturn) (a1 := 0) (a2 := 0) (pc1 := 12) (l1 := [(0, .int x0), (1, .int x1)]) (st1 := [.int x1]) (σ1 := σ) (by decide +kernel) rfl (fun hC => ?_)
    exact jE_ret hC rfl
def v_cAna_shapeOfTwo (x0 : Int32) (x1 : Int32) (x2 : Int32) (σ : jx_S) : Int32 := (if x0 = 0 then (0 : Int32) else (if x0 = 1 then (x1 &&& x2) else (if x0 = 2 then x1 else (if x0 = 3 then x2 else (if x0 = 4 then (x1 ||| x2) else (1 : Int32))))))
theorem xv_cAna_shapeOfTwo (d : Nat) (hd : 0 ≤ d) (x0 : Int32) (x1 : Int32) (x2 : Int32) (σ : jx_S) : jE d 100 0 [(0, .int x0), (1, .int x1), (2, .int x2)] [] σ (some (.int (v_cAna_shapeOfTwo x0 x1 x2 σ)), σ) := by
  unfold v_cAna_shapeOfTwo
  refine jE_blk (bs := [(.iload_n 0, 0, 0)]) (i := .tableswitch (49) (0) (4) #[35, 37, 41, 43, 45]) (a1 := 0) (a2 := 0) (pc1 := 1) (l1 := [(0, .int x0), (1, .int x1), (2, .int x2)]) (st1 := [.int x0]) (σ1 := σ) (by decide +kernel) rfl (fun hC => ?_)
  rcases Classical.em (x0 = 0) with hc0 | hc0
  · rw [if_pos hc0]
    refine jE_tsw 36 0 hC hc0 (by decide +kernel) ?_
    refine jE_blk (bs := [(.iconst (0), 0, 0)]) (i := .ireturn) (a1 := 0) (a2 := 0) (pc1 := 37) (l1 := [(0, .int x0), (1, .int x1), (2, .int x2)]) (st1 := [.int (0 : Int32)]) (σ1 := σ) (by decide +kernel) rfl (fun hC => ?_)
    exact jE_ret hC rfl
  · rw [if_neg hc0]
    rcases Classical.em (x0 = 1) with hc1 | hc1
    · rw [if_pos hc1]
      refine jE_tsw 38 1 hC hc1 (by decide +kernel) ?_
      refine jE_blk (bs := [(.iload_n 1, 0, 0), (.iload_n 2, 0, 0), (.iand, 0, 0)]) (i := .ireturn) (a1 := 0) (a2 := 0) (pc1 := 41) (l1 := [(0, .int x0), (1, .int x1), (2, .int x2)]) (st1 := [.int (x1 &&& x2)]) (σ1 := σ) (by decide +kernel) rfl (fun hC => ?_)
      exact jE_ret hC rfl
    · rw [if_neg hc1]
      rcases Classical.em (x0 = 2) with hc2 | hc2
      · rw [if_pos hc2]
        refine jE_tsw 42 2 hC hc2 (by decide +kernel) ?_
        refine jE_blk (bs := [(.iload_n 1, 0, 0)]) (i := .ireturn) (a1 := 0) (a2 := 0) (pc1 := 43) (l1 := [(0, .int x0), (1, .int x1), (2, .int x2)]) (st1 := [.int x1]) (σ1 := σ) (by decide +kernel) rfl (fun hC => ?_)
        exact jE_ret hC rfl
      · rw [if_neg hc2]
        rcases Classical.em (x0 = 3) with hc3 | hc3
        · rw [if_pos hc3]
          refine jE_tsw 44 3 hC hc3 (by decide +kernel) ?_
          refine jE_blk (bs := [(.iload_n 2, 0, 0)]) (i := .ireturn) (a1 := 0) (a2 := 0) (pc1 := 45) (l1 := [(0, .int x0), (1, .int x1), (2, .int x2)]) (st1 := [.int x2]) (σ1 := σ) (by decide +kernel) rfl (fun hC => ?_)
          exact jE_ret hC rfl
        · rw [if_neg hc3]
          rcases Classical.em (x0 = 4) with hc4 | hc4
          · rw [if_pos hc4]
            refine jE_tsw 46 4 hC hc4 (by decide +kernel) ?_
            refine jE_blk (bs := [(.iload_n 1, 0, 0), (.iload_n 2, 0, 0), (.ior, 0, 0)]) (i := .ireturn) (a1 := 0) (a2 := 0) (pc1 := 49) (l1 := [(0, .int x0), (1, .int x1), (2, .int x2)]) (st1 := [.int (x1 ||| x2)]) (σ1 := σ) (by decide +kernel) rfl (fun hC => ?_)
            exact jE_ret hC rfl
          · rw [if_neg hc4]
            refine jE_tswD 50 [0, 1, 2, 3, 4] hC (by decide +kernel) ⟨hc0, hc1, hc2, hc3, hc4, trivial⟩ ?_
            refine jE_blk (bs := [(.iconst (1), 1, 0)]) (i := .ireturn) (a1 := 0) (a2 := 0) (pc1 := 51) (l1 := [(0, .int x0), (1, .int x1), (2, .int x2)]) (st1 := [.int (1 : Int32)]) (σ1 := σ) (by decide +kernel) rfl (fun hC => ?_)
            exact jE_ret hC rfl
def v_cAna_pointOfLocal (x1 : Int32) (x2 : Int32) (σ : jx_S) : Int32 := (if ¬ (jI_at 1201 (σ.1 35) x2) = 0 then (if ¬ (v_cTyp_takenBy (v_cFun_typeOf x1 (jI_at 1201 (σ.1 33) x2) σ) σ) = (1 : Int32) then (if ¬ (jI_at 1201 (σ.1 35) x2) = (2 : Int32) then ((v_cAna_shapeOfTwo (jI_at 30 (σ.1 69) (jI_at 1201 (σ.1 33) x2)) (jI_at 1201 (σ.1 67) (jI_at 1201 (σ.1 27) x2)) (0 : Int32) σ) + (v_cAna_shapeOfTwo (jI_at 30 (σ.1 69) (jI_at 1201 (σ.1 33) x2)) (jI_at 1201 (σ.1 67) (jI_at 1201 (σ.1 27) x2)) (1 : Int32) σ)) else (v_cAna_shapeOfTwo (jI_at 30 (σ.1 69) (jI_at 1201 (σ.1 33) x2)) (jI_at 1201 (σ.1 67) (jI_at 1201 (σ.1 27) x2)) (jI_at 1201 (σ.1 67) (jI_at 1201 (σ.1 29) (jI_at 1201 (σ.1 27) x2))) σ)) else (v_cAna_shapeOfOne (jI_at 30 (σ.1 69) (jI_at 1201 (σ.1 33) x2)) (jI_at 1201 (σ.1 67) (jI_at 1201 (σ.1 27) x2)) σ)) else (jI_at 30 (σ.1 69) (jI_at 1201 (σ.1 33) x2)))
theorem xv_cAna_pointOfLocal (d : Nat) (hd : 2 ≤ d) (x1 : Int32) (x2 : Int32) (σ : jx_S) : jE d 96 0 [(0, .ref 7), (1, .int x1), (2, .int x2)] [] σ (some (.int (v_cAna_pointOfLocal x1 x2 σ)), σ) := by
  unfold v_cAna_pointOfLocal
  refine jE_blk (bs := [(.aload_n 0, 0, 0), (.getfield 30, 7, 0), (.getfield 94, 3, 5), (.iload_n 2, 0, 0)]) (i := .invokevirtual 73) (a1 := 136) (a2 := 0) (pc1 := 8) (l1 := [(0, .ref 7), (1, .int x1), (2, .int x2)]) (st1 := [.int x2, .ref 32]) (σ1 := σ) (by decide +kernel) rfl (fun hC => ?_)
  refine jE_call (as := [.ref 32, .int x2]) (pc1 := 11) (st1 := []) hC rfl (by decide) (by omega) (xI_at (d - 1) 32 1201 x2 σ (by decide) rfl rfl) ?_
  refine jE_blk (bs := [(.istore_n 3, 7, 0), (.aload_n 0, 0, 0), (.getfield 27, 7, 5), (.iload_n 3, 0, 0)]) (i := .invokevirtual 73) (a1 := 136) (a2 := 0) (pc1 := 17) (l1 := [(3, .int (jI_at 1201 (σ.1 33) x2)), (0, .ref 7), (1, .int x1), (2, .int x2)]) (st1 := [.int (jI_at 1201 (σ.1 33) x2), .ref 68]) (σ1 := σ) (by decide +kernel) rfl (fun hC => ?_)
  refine jE_call (as := [.ref 68, .int (jI_at 1201 (σ.1 33) x2)]) (pc1 := 20) (st1 := []) hC rfl (by decide) (by omega) (xI_at (d - 1) 68 30 (jI_at 1201 (σ.1 33) x2) σ (by decide) rfl rfl) ?_
  refine jE_blk (bs := [(.istore 4, 7, 0), (.aload_n 0, 0, 0), (.getfield 30, 7, 0), (.getfield 131, 3, 2), (.iload_n 2, 0, 0)]) (i := .invokevirtual 73) (a1 := 136) (a2 := 0) (pc1 := 30) (l1 := [(4, .int (jI_at 30 (σ.1 69) (jI_at 1201 (σ.1 33) x2))), (3, .int (jI_at 1201 (σ.1 33) x2)), (0, .ref 7), (1, .int x1), (2, .int x2)]) (st1 := [.int x2, .ref 26]) (σ1 := σ) (by decide +kernel) rfl (fun hC => ?_)
  refine jE_call (as := [.ref 26, .int x2]) (pc1 := 33) (st1 := []) hC rfl (by decide) (by omega) (xI_at (d - 1) 26 1201 x2 σ (by decide) rfl rfl) ?_
  refine jE_blk (bs := [(.istore 5, 7, 0), (.aload_n 0, 0, 0), (.getfield 34, 7, 1), (.iload_n 1, 0, 0), (.iload_n 3, 0, 0)]) (i := .invokevirtual 110) (a1 := 40) (a2 := 0) (pc1 := 41) (l1 := [(5, .int (jI_at 1201 (σ.1 27) x2)), (4, .int (jI_at 30 (σ.1 69) (jI_at 1201 (σ.1 33) x2))), (3, .int (jI_at 1201 (σ.1 33) x2)), (0, .ref 7), (1, .int x1), (2, .int x2)]) (st1 := [.int (jI_at 1201 (σ.1 33) x2), .int x1, .ref 4]) (σ1 := σ) (by decide +kernel) rfl (fun hC => ?_)
  refine jE_call (as := [.ref 4, .int x1, .int (jI_at 1201 (σ.1 33) x2)]) (pc1 := 44) (st1 := []) hC rfl (by decide) (by omega) (xv_cFun_typeOf (d - 1) (by omega) x1 (jI_at 1201 (σ.1 33) x2) σ) ?_
  refine jE_blk (bs := []) (i := .invokestatic 143) (a1 := 82) (a2 := 0) (pc1 := 44) (l1 := [(5, .int (jI_at 1201 (σ.1 27) x2)), (4, .int (jI_at 30 (σ.1 69) (jI_at 1201 (σ.1 33) x2))), (3, .int (jI_at 1201 (σ.1 33) x2)), (0, .ref 7), (1, .int x1), (2, .int x2)]) (st1 := [.int (v_cFun_typeOf x1 (jI_at 1201 (σ.1 33) x2) σ)]) (σ1 := σ) (by decide +kernel) rfl (fun hC => ?_)
  refine jE_call (as := [.int (v_cFun_typeOf x1 (jI_at 1201 (σ.1 33) x2) σ)]) (pc1 := 47) (st1 := []) hC rfl (by decide) (by omega) (xv_cTyp_takenBy (d - 1) (by omega) (v_cFun_typeOf x1 (jI_at 1201 (σ.1 33) x2) σ) σ) ?_
  refine jE_blk (bs := [(.istore 6, 7, 0), (.aload_n 0, 0, 0), (.getfield 30, 7, 0), (.getfield 146, 3, 6), (.iload_n 2, 0, 0)]) (i := .invokevirtual 73) (a1 := 136) (a2 := 0) (pc1 := 57) (l1 := [(6, .int (v_cTyp_takenBy (v_cFun_typeOf x1 (jI_at 1201 (σ.1 33) x2) σ) σ)), (5, .int (jI_at 1201 (σ.1 27) x2)), (4, .int (jI_at 30 (σ.1 69) (jI_at 1201 (σ.1 33) x2))), (3, .int (jI_at 1201 (σ.1 33) x2)), (0, .ref 7), (1, .int x1), (2, .int x2)]) (st1 := [.int x2, .ref 34]) (σ1 := σ) (by decide +kernel) rfl (fun hC => ?_)
  refine jE_call (as := [.ref 34, .int x2]) (pc1 := 60) (st1 := []) hC rfl (by decide) (by omega) (xI_at (d - 1) 34 1201 x2 σ (by decide) rfl rfl) ?_
  refine jE_blk (bs := []) (i := .ifCond .ne (6)) (a1 := 0) (a2 := 0) (pc1 := 60) (l1 := [(6, .int (v_cTyp_takenBy (v_cFun_typeOf x1 (jI_at 1201 (σ.1 33) x2) σ) σ)), (5, .int (jI_at 1201 (σ.1 27) x2)), (4, .int (jI_at 30 (σ.1 69) (jI_at 1201 (σ.1 33) x2))), (3, .int (jI_at 1201 (σ.1 33) x2)), (0, .ref 7), (1, .int x1), (2, .int x2)]) (st1 := [.int (jI_at 1201 (σ.1 35) x2)]) (σ1 := σ) (by decide +kernel) rfl (fun hC => ?_)
  rcases Classical.em (¬ (jI_at 1201 (σ.1 35) x2) = 0) with hc | hc
  · rw [if_pos hc]
    refine jE_ifT 66 hC (by decide) hc ?_
    refine jE_blk (bs := [(.iload 6, 0, 0), (.iconst (1), 1, 0)]) (i := .if_icmp .ne (18)) (a1 := 0) (a2 := 0) (pc1 := 69) (l1 := [(6, .int (v_cTyp_takenBy (v_cFun_typeOf x1 (jI_at 1201 (σ.1 33) x2) σ) σ)), (5, .int (jI_at 1201 (σ.1 27) x2)), (4, .int (jI_at 30 (σ.1 69) (jI_at 1201 (σ.1 33) x2))), (3, .int (jI_at 1201 (σ.1 33) x2)), (0, .ref 7), (1, .int x1), (2, .int x2)]) (st1 := [.int (1 : Int32), .int (v_cTyp_takenBy (v_cFun_typeOf x1 (jI_at 1201 (σ.1 33) x2) σ) σ)]) (σ1 := σ) (by decide +kernel) rfl (fun hC => ?_)
    rcases Classical.em (¬ (v_cTyp_takenBy (v_cFun_typeOf x1 (jI_at 1201 (σ.1 33) x2) σ) σ) = (1 : Int32)) with hc | hc
    · rw [if_pos hc]
      refine jE_icT 87 hC (by decide) hc ?_
      refine jE_blk (bs := [(.aload_n 0, 0, 0), (.getfield 30, 7, 0), (.getfield 146, 3, 6), (.iload_n 2, 0, 0)]) (i := .invokevirtual 73) (a1 := 136) (a2 := 0) (pc1 := 95) (l1 := [(6, .int (v_cTyp_takenBy (v_cFun_typeOf x1 (jI_at 1201 (σ.1 33) x2) σ) σ)), (5, .int (jI_at 1201 (σ.1 27) x2)), (4, .int (jI_at 30 (σ.1 69) (jI_at 1201 (σ.1 33) x2))), (3, .int (jI_at 1201 (σ.1 33) x2)), (0, .ref 7), (1, .int x1), (2, .int x2)]) (st1 := [.int x2, .ref 34]) (σ1 := σ) (by decide +kernel) rfl (fun hC => ?_)
      refine jE_call (as := [.ref 34, .int x2]) (pc1 := 98) (st1 := []) hC rfl (by decide) (by omega) (xI_at (d - 1) 34 1201 x2 σ (by decide) rfl rfl) ?_
      refine jE_blk (bs := [(.iconst (2), 2, 0)]) (i := .if_icmp .ne (37)) (a1 := 0) (a2 := 0) (pc1 := 99) (l1 := [(6, .int (v_cTyp_takenBy (v_cFun_typeOf x1 (jI_at 1201 (σ.1 33) x2) σ) σ)), (5, .int (jI_at 1201 (σ.1 27) x2)), (4, .int (jI_at 30 (σ.1 69) (jI_at 1201 (σ.1 33) x2))), (3, .int (jI_at 1201 (σ.1 33) x2)), (0, .ref 7), (1, .int x1), (2, .int x2)]) (st1 := [.int (2 : Int32), .int (jI_at 1201 (σ.1 35) x2)]) (σ1 := σ) (by decide +kernel) rfl (fun hC => ?_)
      rcases Classical.em (¬ (jI_at 1201 (σ.1 35) x2) = (2 : Int32)) with hc | hc
      · rw [if_pos hc]
        refine jE_icT 136 hC (by decide) hc ?_
        refine jE_blk (bs := [(.iload 4, 0, 0), (.aload_n 0, 0, 0), (.getfield 24, 7, 4), (.iload 5, 0, 0)]) (i := .invokevirtual 73) (a1 := 136) (a2 := 0) (pc1 := 144) (l1 := [(6, .int (v_cTyp_takenBy (v_cFun_typeOf x1 (jI_at 1201 (σ.1 33) x2) σ) σ)), (5, .int (jI_at 1201 (σ.1 27) x2)), (4, .int (jI_at 30 (σ.1 69) (jI_at 1201 (σ.1 33) x2))), (3, .int (jI_at 1201 (σ.1 33) x2)), (0, .ref 7), (1, .int x1), (2, .int x2)]) (st1 := [.int (jI_at 1201 (σ.1 27) x2), .ref 66, .int (jI_at 30 (σ.1 69) (jI_at 1201 (σ.1 33) x2))]) (σ1 := σ) (by decide +kernel) rfl (fun hC => ?_)
        refine jE_call (as := [.ref 66, .int (jI_at 1201 (σ.1 27) x2)]) (pc1 := 147) (st1 := [.int (jI_at 30 (σ.1 69) (jI_at 1201 (σ.1 33) x2))]) hC rfl (by decide) (by omega) (xI_at (d - 1) 66 1201 (jI_at 1201 (σ.1 27) x2) σ (by decide) rfl rfl) ?_
        refine jE_blk (bs := [(.iconst (0), 0, 0)]) (i := .invokestatic 152) (a1 := 100) (a2 := 0) (pc1 := 148) (l1 := [(6, .int (v_cTyp_takenBy (v_cFun_typeOf x1 (jI_at 1201 (σ.1 33) x2) σ) σ)), (5, .int (jI_at 1201 (σ.1 27) x2)), (4, .int (jI_at 30 (σ.1 69) (jI_at 1201 (σ.1 33) x2))), (3, .int (jI_at 1201 (σ.1 33) x2)), (0, .ref 7), (1, .int x1), (2, .int x2)]) (st1 := [.int (0 : Int32), .int (jI_at 1201 (σ.1 67) (jI_at 1201 (σ.1 27) x2)), .int (jI_at 30 (σ.1 69) (jI_at 1201 (σ.1 33) x2))]) (σ1 := σ) (by decide +kernel) rfl (fun hC => ?_)
        refine jE_call (as := [.int (jI_at 30 (σ.1 69) (jI_at 1201 (σ.1 33) x2)), .int (jI_at 1201 (σ.1 67) (jI_at 1201 (σ.1 27) x2)), .int (0 : Int32)]) (pc1 := 151) (st1 := []) hC rfl (by decide) (by omega) (xv_cAna_shapeOfTwo (d - 1) (by omega) (jI_at 30 (σ.1 69) (jI_at 1201 (σ.1 33) x2)) (jI_at 1201 (σ.1 67) (jI_at 1201 (σ.1 27) x2)) (0 : Int32) σ) ?_
        refine jE_blk (bs := [(.iload 4, 0, 0), (.aload_n 0, 0, 0), (.getfield 24, 7, 4), (.iload 5, 0, 0)]) (i := .invokevirtual 73) (a1 := 136) (a2 := 0) (pc1 := 159) (l1 := [(6, .int (v_cTyp_takenBy (v_cFun_typeOf x1 (jI_at 1201 (σ.1 33) x2) σ) σ)), (5, .int (jI_at 1201 (σ.1 27) x2)), (4, .int (jI_at 30 (σ.1 69) (jI_at 1201 (σ.1 33) x2))), (3, .int (jI_at 1201 (σ.1 33) x2)), (0, .ref 7), (1, .int x1), (2, .int x2)]) (st1 := [.int (jI_at 1201 (σ.1 27) x2), .ref 66, .int (jI_at 30 (σ.1 69) (jI_at 1201 (σ.1 33) x2)), .int (v_cAna_shapeOfTwo (jI_at 30 (σ.1 69) (jI_at 1201 (σ.1 33) x2)) (jI_at 1201 (σ.1 67) (jI_at 1201 (σ.1 27) x2)) (0 : Int32) σ)]) (σ1 := σ) (by decide +kernel) rfl (fun hC => ?_)
        refine jE_call (as := [.ref 66, .int (jI_at 1201 (σ.1 27) x2)]) (pc1 := 162) (st1 := [.int (jI_at 30 (σ.1 69) (jI_at 1201 (σ.1 33) x2)), .int (v_cAna_shapeOfTwo (jI_at 30 (σ.1 69) (jI_at 1201 (σ.1 33) x2)) (jI_at 1201 (σ.1 67) (jI_at 1201 (σ.1 27) x2)) (0 : Int32) σ)]) hC rfl (by decide) (by omega) (xI_at (d - 1) 66 1201 (jI_at 1201 (σ.1 27) x2) σ (by decide) rfl rfl) ?_
        refine jE_blk (bs := [(.iconst (1), 1, 0)]) (i := .invokestatic 152) (a1 := 100) (a2 := 0) (pc1 := 163) (l1 := [(6, .int (v_cTyp_takenBy (v_cFun_typeOf x1 (jI_at 1201 (σ.1 33) x2) σ) σ)), (5, .int (jI_at 1201 (σ.1 27) x2)), (4, .int (jI_at 30 (σ.1 69) (jI_at 1201 (σ.1 33) x2))), (3, .int (jI_at 1201 (σ.1 33) x2)), (0, .ref 7), (1, .int x1), (2, .int x2)]) (st1 := [.int (1 : Int32), .int (jI_at 1201 (σ.1 67) (jI_at 1201 (σ.1 27) x2)), .int (jI_at 30 (σ.1 69) (jI_at 1201 (σ.1 33) x2)), .int (v_cAna_shapeOfTwo (jI_at 30 (σ.1 69) (jI_at 1201 (σ.1 33) x2)) (jI_at 1201 (σ.1 67) (jI_at 1201 (σ.1 27) x2)) (0 : Int32) σ)]) (σ1 := σ) (by decide +kernel) rfl (fun hC => ?_)
        refine jE_call (as := [.int (jI_at 30 (σ.1 69) (jI_at 1201 (σ.1 33) x2)), .int (jI_at 1201 (σ.1 67) (jI_at 1201 (σ.1 27) x2)), .int (1 : Int32)]) (pc1 := 166) (st1 := [.int (v_cAna_shapeOfTwo (jI_at 30 (σ.1 69) (jI_at 1201 (σ.1 33) x2)) (jI_at 1201 (σ.1 67) (jI_at 1201 (σ.1 27) x2)) (0 : Int32) σ)]) hC rfl (by decide) (by omega) (xv_cAna_shapeOfTwo (d - 1) (by omega) (jI_at 30 (σ.1 69) (jI_at 1201 (σ.1 33) x2)) (jI_at 1201 (σ.1 67) (jI_at 1201 (σ.1 27) x2)) (1 : Int32) σ) ?_
        refine jE_blk (bs := [(.iadd, 0, 0)]) (i := .ireturn) (a1 := 0) (a2 := 0) (pc1 := 167) (l1 := [(6, .int (v_cTyp_takenBy (v_cFun_typeOf x1 (jI_at 1201 (σ.1 33) x2) σ) σ)), (5, .int (jI_at 1201 (σ.1 27) x2)), (4, .int (jI_at 30 (σ.1 69) (jI_at 1201 (σ.1 33) x2))), (3, .int (jI_at 1201 (σ.1 33) x2)), (0, .ref 7), (1, .int x1), (2, .int x2)]) (st1 := [.int ((v_cAna_shapeOfTwo (jI_at 30 (σ.1 69) (jI_at 1201 (σ.1 33) x2)) (jI_at 1201 (σ.1 67) (jI_at 1201 (σ.1 27) x2)) (0 : Int32) σ) + (v_cAna_shapeOfTwo (jI_at 30 (σ.1 69) (jI_at 1201 (σ.1 33) x2)) (jI_at 1201 (σ.1 67) (jI_at 1201 (σ.1 27) x2)) (1 : Int32) σ))]) (σ1 := σ) (by decide +kernel) rfl (fun hC => ?_)
        exact jE_ret hC rfl
      · rw [if_neg hc]
        refine jE_icF 136 hC (by decide) hc ?_
        refine jE_blk (bs := [(.iload 4, 0, 0), (.aload_n 0, 0, 0), (.getfield 24, 7, 4), (.iload 5, 0, 0)]) (i := .invokevirtual 73) (a1 := 136) (a2 := 0) (pc1 := 110) (l1 := [(6, .int (v_cTyp_takenBy (v_cFun_typeOf x1 (jI_at 1201 (σ.1 33) x2) σ) σ)), (5, .int (jI_at 1201 (σ.1 27) x2)), (4, .int (jI_at 30 (σ.1 69) (jI_at 1201 (σ.1 33) x2))), (3, .int (jI_at 1201 (σ.1 33) x2)), (0, .ref 7), (1, .int x1), (2, .int x2)]) (st1 := [.int (jI_at 1201 (σ.1 27) x2), .ref 66, .int (jI_at 30 (σ.1 69) (jI_at 1201 (σ.1 33) x2))]) (σ1 := σ) (by decide +kernel) rfl (fun hC => ?_)
        refine jE_call (as := [.ref 66, .int (jI_at 1201 (σ.1 27) x2)]) (pc1 := 113) (st1 := [.int (jI_at 30 (σ.1 69) (jI_at 1201 (σ.1 33) x2))]) hC rfl (by decide) (by omega) (xI_at (d - 1) 66 1201 (jI_at 1201 (σ.1 27) x2) σ (by decide) rfl rfl) ?_
        refine jE_blk (bs := [(.aload_n 0, 0, 0), (.getfield 24, 7, 4), (.aload_n 0, 0, 0), (.getfield 30, 7, 0), (.getfield 134, 3, 3), (.iload 5, 0, 0)]) (i := .invokevirtual 73) (a1 := 136) (a2 := 0) (pc1 := 126) (l1 := [(6, .int (v_cTyp_takenBy (v_cFun_typeOf x1 (jI_at 1201 (σ.1 33) x2) σ) σ)), (5, .int (jI_at 1201 (σ.1 27) x2)), (4, .int (jI_at 30 (σ.1 69) (jI_at 1201 (σ.1 33) x2))), (3, .int (jI_at 1201 (σ.1 33) x2)), (0, .ref 7), (1, .int x1), (2, .int x2)]) (st1 := [.int (jI_at 1201 (σ.1 27) x2), .ref 28, .ref 66, .int (jI_at 1201 (σ.1 67) (jI_at 1201 (σ.1 27) x2)), .int (jI_at 30 (σ.1 69) (jI_at 1201 (σ.1 33) x2))]) (σ1 := σ) (by decide +kernel) rfl (fun hC => ?_)
        refine jE_call (as := [.ref 28, .int (jI_at 1201 (σ.1 27) x2)]) (pc1 := 129) (st1 := [.ref 66, .int (jI_at 1201 (σ.1 67) (jI_at 1201 (σ.1 27) x2)), .int (jI_at 30 (σ.1 69) (jI_at 1201 (σ.1 33) x2))]) hC rfl (by decide) (by omega) (xI_at (d - 1) 28 1201 (jI_at 1201 (σ.1 27) x2) σ (by decide) rfl rfl) ?_
        refine jE_blk (bs := []) (i := .invokevirtual 73) (a1 := 136) (a2 := 0) (pc1 := 129) (l1 := [(6, .int (v_cTyp_takenBy (v_cFun_typeOf x1 (jI_at 1201 (σ.1 33) x2) σ) σ)), (5, .int (jI_at 1201 (σ.1 27) x2)), (4, .int (jI_at 30 (σ.1 69) (jI_at 1201 (σ.1 33) x2))), (3, .int (jI_at 1201 (σ.1 33) x2)), (0, .ref 7), (1, .int x1), (2, .int x2)]) (st1 := [.int (jI_at 1201 (σ.1 29) (jI_at 1201 (σ.1 27) x2)), .ref 66, .int (jI_at 1201 (σ.1 67) (jI_at 1201 (σ.1 27) x2)), .int (jI_at 30 (σ.1 69) (jI_at 1201 (σ.1 33) x2))]) (σ1 := σ) (by decide +kernel) rfl (fun hC => ?_)
        refine jE_call (as := [.ref 66, .int (jI_at 1201 (σ.1 29) (jI_at 1201 (σ.1 27) x2))]) (pc1 := 132) (st1 := [.int (jI_at 1201 (σ.1 67) (jI_at 1201 (σ.1 27) x2)), .int (jI_at 30 (σ.1 69) (jI_at 1201 (σ.1 33) x2))]) hC rfl (by decide) (by omega) (xI_at (d - 1) 66 1201 (jI_at 1201 (σ.1 29) (jI_at 1201 (σ.1 27) x2)) σ (by decide) rfl rfl) ?_
        refine jE_blk (bs := []) (i := .invokestatic 152) (a1 := 100) (a2 := 0) (pc1 := 132) (l1 := [(6, .int (v_cTyp_takenBy (v_cFun_typeOf x1 (jI_at 1201 (σ.1 33) x2) σ) σ)), (5, .int (jI_at 1201 (σ.1 27) x2)), (4, .int (jI_at 30 (σ.1 69) (jI_at 1201 (σ.1 33) x2))), (3, .int (jI_at 1201 (σ.1 33) x2)), (0, .ref 7), (1, .int x1), (2, .int x2)]) (st1 := [.int (jI_at 1201 (σ.1 67) (jI_at 1201 (σ.1 29) (jI_at 1201 (σ.1 27) x2))), .int (jI_at 1201 (σ.1 67) (jI_at 1201 (σ.1 27) x2)), .int (jI_at 30 (σ.1 69) (jI_at 1201 (σ.1 33) x2))]) (σ1 := σ) (by decide +kernel) rfl (fun hC => ?_)
        refine jE_call (as := [.int (jI_at 30 (σ.1 69) (jI_at 1201 (σ.1 33) x2)), .int (jI_at 1201 (σ.1 67) (jI_at 1201 (σ.1 27) x2)), .int (jI_at 1201 (σ.1 67) (jI_at 1201 (σ.1 29) (jI_at 1201 (σ.1 27) x2)))]) (pc1 := 135) (st1 := []) hC rfl (by decide) (by omega) (xv_cAna_shapeOfTwo (d - 1) (by omega) (jI_at 30 (σ.1 69) (jI_at 1201 (σ.1 33) x2)) (jI_at 1201 (σ.1 67) (jI_at 1201 (σ.1 27) x2)) (jI_at 1201 (σ.1 67) (jI_at 1201 (σ.1 29) (jI_at 1201 (σ.1 27) x2))) σ) ?_
        refine jE_blk (bs := []) (i := .ireturn) (a1 := 0) (a2 := 0) (pc1 := 135) (l1 := [(6, .int (v_cTyp_takenBy (v_cFun_typeOf x1 (jI_at 1201 (σ.1 33) x2) σ) σ)), (5, .int (jI_at 1201 (σ.1 27) x2)), (4, .int (jI_at 30 (σ.1 69) (jI_at 1201 (σ.1 33) x2))), (3, .int (jI_at 1201 (σ.1 33) x2)), (0, .ref 7), (1, .int x1), (2, .int x2)]) (st1 := [.int (v_cAna_shapeOfTwo (jI_at 30 (σ.1 69) (jI_at 1201 (σ.1 33) x2)) (jI_at 1201 (σ.1 67) (jI_at 1201 (σ.1 27) x2)) (jI_at 1201 (σ.1 67) (jI_at 1201 (σ.1 29) (jI_at 1201 (σ.1 27) x2))) σ)]) (σ1 := σ) (by decide +kernel) rfl (fun hC => ?_)
        exact jE_ret hC rfl
    · rw [if_neg hc]
      refine jE_icF 87 hC (by decide) hc ?_
      refine jE_blk (bs := [(.iload 4, 0, 0), (.aload_n 0, 0, 0), (.getfield 24, 7, 4), (.iload 5, 0, 0)]) (i := .invokevirtual 73) (a1 := 136) (a2 := 0) (pc1 := 80) (l1 := [(6, .int (v_cTyp_takenBy (v_cFun_typeOf x1 (jI_at 1201 (σ.1 33) x2) σ) σ)), (5, .int (jI_at 1201 (σ.1 27) x2)), (4, .int (jI_at 30 (σ.1 69) (jI_at 1201 (σ.1 33) x2))), (3, .int (jI_at 1201 (σ.1 33) x2)), (0, .ref 7), (1, .int x1), (2, .int x2)]) (st1 := [.int (jI_at 1201 (σ.1 27) x2), .ref 66, .int (jI_at 30 (σ.1 69) (jI_at 1201 (σ.1 33) x2))]) (σ1 := σ) (by decide +kernel) rfl (fun hC => ?_)
      refine jE_call (as := [.ref 66, .int (jI_at 1201 (σ.1 27) x2)]) (pc1 := 83) (st1 := [.int (jI_at 30 (σ.1 69) (jI_at 1201 (σ.1 33) x2))]) hC rfl (by decide) (by omega) (xI_at (d - 1) 66 1201 (jI_at 1201 (σ.1 27) x2) σ (by decide) rfl rfl) ?_
      refine jE_blk (bs := []) (i := .invokestatic 149) (a1 := 99) (a2 := 0) (pc1 := 83) (l1 := [(6, .int (v_cTyp_takenBy (v_cFun_typeOf x1 (jI_at 1201 (σ.1 33) x2) σ) σ)), (5, .int (jI_at 1201 (σ.1 27) x2)), (4, .int (jI_at 30 (σ.1 69) (jI_at 1201 (σ.1 33) x2))), (3, .int (jI_at 1201 (σ.1 33) x2)), (0, .ref 7), (1, .int x1), (2, .int x2)]) (st1 := [.int (jI_at 1201 (σ.1 67) (jI_at 1201 (σ.1 27) x2)), .int (jI_at 30 (σ.1 69) (jI_at 1201 (σ.1 33) x2))]) (σ1 := σ) (by decide +kernel) rfl (fun hC => ?_)
      refine jE_call (as := [.int (jI_at 30 (σ.1 69) (jI_at 1201 (σ.1 33) x2)), .int (jI_at 1201 (σ.1 67) (jI_at 1201 (σ.1 27) x2))]) (pc1 := 86) (st1 := []) hC rfl (by decide) (by omega) (xv_cAna_shapeOfOne (d - 1) (by omega) (jI_at 30 (σ.1 69) (jI_at 1201 (σ.1 33) x2)) (jI_at 1201 (σ.1 67) (jI_at 1201 (σ.1 27) x2)) σ) ?_
      refine jE_blk (bs := []) (i := .ireturn) (a1 := 0) (a2 := 0) (pc1 := 86) (l1 := [(6, .int (v_cTyp_takenBy (v_cFun_typeOf x1 (jI_at 1201 (σ.1 33) x2) σ) σ)), (5, .int (jI_at 1201 (σ.1 27) x2)), (4, .int (jI_at 30 (σ.1 69) (jI_at 1201 (σ.1 33) x2))), (3, .int (jI_at 1201 (σ.1 33) x2)), (0, .ref 7), (1, .int x1), (2, .int x2)]) (st1 := [.int (v_cAna_shapeOfOne (jI_at 30 (σ.1 69) (jI_at 1201 (σ.1 33) x2)) (jI_at 1201 (σ.1 67) (jI_at 1201 (σ.1 27) x2)) σ)]) (σ1 := σ) (by decide +kernel) rfl (fun hC => ?_)
      exact jE_ret hC rfl
  · rw [if_neg hc]
    refine jE_ifF 66 hC (by decide) hc ?_
    refine jE_blk (bs := [(.iload 4, 0, 0)]) (i := .ireturn) (a1 := 0) (a2 := 0) (pc1 := 65) (l1 := [(6, .int (v_cTyp_takenBy (v_cFun_typeOf x1 (jI_at 1201 (σ.1 33) x2) σ) σ)), (5, .int (jI_at 1201 (σ.1 27) x2)), (4, .int (jI_at 30 (σ.1 69) (jI_at 1201 (σ.1 33) x2))), (3, .int (jI_at 1201 (σ.1 33) x2)), (0, .ref 7), (1, .int x1), (2, .int x2)]) (st1 := [.int (jI_at 30 (σ.1 69) (jI_at 1201 (σ.1 33) x2))]) (σ1 := σ) (by decide +kernel) rfl (fun hC => ?_)
    exact jE_ret hC rfl
def v_cAna_pointOfCase (x1 : Int32) (x2 : Int32) (σ : jx_S) : Int32 := (if (jI_at 40000 (σ.1 63) ((x1 * (1000 : Int32)) + x2)) = 0 then (0 : Int32) else (if (σ.1 7 6) ≤ (jI_at 40000 (σ.1 63) ((x1 * (1000 : Int32)) + x2)) then (0 : Int32) else (1 : Int32)))
theorem xv_cAna_pointOfCase (d : Nat) (hd : 1 ≤ d) (x1 : Int32) (x2 : Int32) (σ : jx_S) : jE d 87 0 [(0, .ref 7), (1, .int x1), (2, .int x2)] [] σ (some (.int (v_cAna_pointOfCase x1 x2 σ)), σ) := by
  unfold v_cAna_pointOfCase
  refine jE_blk (bs := [(.aload_n 0, 0, 0), (.getfield 15, 7, 2), (.iload_n 1, 0, 0), (.sipush (1000), 1000, 0), (.imul, 0, 0), (.iload_n 2, 0, 0), (.iadd, 0, 0)]) (i := .invokevirtual 73) (a1 := 136) (a2 := 0) (pc1 := 11) (l1 := [(0, .ref 7), (1, .int x1), (2, .int x2)]) (st1 := [.int ((x1 * (1000 : Int32)) + x2), .ref 62]) (σ1 := σ) (by decide +kernel) rfl (fun hC => ?_)
  refine jE_call (as := [.ref 62, .int ((x1 * (1000 : Int32)) + x2)]) (pc1 := 14) (st1 := []) hC rfl (by decide) (by omega) (xI_at (d - 1) 62 40000 ((x1 * (1000 : Int32)) + x2) σ (by decide) rfl rfl) ?_
  refine jE_blk (bs := [(.istore_n 3, 4, 0), (.iload_n 3, 0, 0)]) (i := .ifCond .eq (15)) (a1 := 0) (a2 := 0) (pc1 := 16) (l1 := [(3, .int (jI_at 40000 (σ.1 63) ((x1 * (1000 : Int32)) + x2))), (0, .ref 7), (1, .int x1), (2, .int x2)]) (st1 := [.int (jI_at 40000 (σ.1 63) ((x1 * (1000 : Int32)) + x2))]) (σ1 := σ) (by decide +kernel) rfl (fun hC => ?_)
  rcases Classical.em ((jI_at 40000 (σ.1 63) ((x1 * (1000 : Int32)) + x2)) = 0) with hc | hc
  · rw [if_pos hc]
    refine jE_ifT 31 hC (by decide) hc ?_
    refine jE_blk (bs := [(.iconst (0), 0, 0)]) (i := .ireturn) (a1 := 0) (a2 := 0) (pc1 := 32) (l1 := [(3, .int (jI_at 40000 (σ.1 63) ((x1 * (1000 : Int32)) + x2))), (0, .ref 7), (1, .int x1), (2, .int x2)]) (st1 := [.int (0 : Int32)]) (σ1 := σ) (by decide +kernel) rfl (fun hC => ?_)
    exact jE_ret hC rfl
  · rw [if_neg hc]
    refine jE_ifF 31 hC (by decide) hc ?_
    refine jE_blk (bs := [(.iload_n 3, 0, 0), (.aload_n 0, 0, 0), (.getfield 47, 7, 6)]) (i := .if_icmp .ge (7)) (a1 := 0) (a2 := 0) (pc1 := 24) (l1 := [(3, .int (jI_at 40000 (σ.1 63) ((x1 * (1000 : Int32)) + x2))), (0, .ref 7), (1, .int x1), (2, .int x2)]) (st1 := [.int (σ.1 7 6), .int (jI_at 40000 (σ.1 63) ((x1 * (1000 : Int32)) + x2))]) (σ1 := σ) (by decide +kernel) rfl (fun hC => ?_)
    rcases Classical.em ((σ.1 7 6) ≤ (jI_at 40000 (σ.1 63) ((x1 * (1000 : Int32)) + x2))) with hc | hc
    · rw [if_pos hc]
      refine jE_icT 31 hC (by decide) hc ?_
      refine jE_blk (bs := [(.iconst (0), 0, 0)]) (i := .ireturn) (a1 := 0) (a2 := 0) (pc1 := 32) (l1 := [(3, .int (jI_at 40000 (σ.1 63) ((x1 * (1000 : Int32)) + x2))), (0, .ref 7), (1, .int x1), (2, .int x2)]) (st1 := [.int (0 : Int32)]) (σ1 := σ) (by decide +kernel) rfl (fun hC => ?_)
      exact jE_ret hC rfl
    · rw [if_neg hc]
      refine jE_icF 31 hC (by decide) hc ?_
      refine jE_blk (bs := [(.iconst (1), 1, 0), (.goto (4), 0, 0)]) (i := .ireturn) (a1 := 0) (a2 := 0) (pc1 := 32) (l1 := [(3, .int (jI_at 40000 (σ.1 63) ((x1 * (1000 : Int32)) + x2))), (0, .ref 7), (1, .int x1), (2, .int x2)]) (st1 := [.int (1 : Int32)]) (σ1 := σ) (by decide +kernel) rfl (fun hC => ?_)
      exact jE_ret hC rfl
def v_cAna_findShape (x0 : Int32) (x1 : Int32) (x2 : Int32) (x3 : Int32) (σ : jx_S) : Int32 := (if ¬ x0 = (1 : Int32) then (if ¬ x2 = (1 : Int32) then (if ¬ x1 = (1 : Int32) then x3 else (3 : Int32)) else (if ¬ x1 = (1 : Int32) then (2 : Int32) else (4 : Int32))) else (5 : Int32))
theorem xv_cAna_findShape (d : Nat) (hd : 0 ≤ d) (x0 : Int32) (x1 : Int32) (x2 : Int32) (x3 : Int32) (σ : jx_S) : jE d 98 0 [(0, .int x0), (1, .int x1), (2, .int x2), (3, .int x3)] [] σ (some (.int (v_cAna_findShape x0 x1 x2 x3 σ)), σ) := by
  unfold v_cAna_findShape
  refine jE_blk (bs := [(.iload_n 0, 0, 0), (.iconst (1), 1, 0)]) (i := .if_icmp .ne (5)) (a1 := 0) (a2 := 0) (pc1 := 2) (l1 := [(0, .int x0), (1, .int x1), (2, .int x2), (3, .int x3)]) (st1 := [.int (1 : Int32), .int x0]) (σ1 := σ) (by decide +kernel) rfl (fun hC => ?_)
  rcases Classical.em (¬ x0 = (1 : Int32)) with hc | hc
  · rw [if_pos hc]
    refine jE_icT 7 hC (by decide) hc ?_
    refine jE_blk (bs := [(.iload_n 2, 0, 0), (.iconst (1), 1, 0)]) (i := .if_icmp .ne (14)) (a1 := 0) (a2 := 0) (pc1 := 9) (l1 := [(0, .int x0), (1, .int x1), (2, .int x2), (3, .int x3)]) (st1 := [.int (1 : Int32), .int x2]) (σ1 := σ) (by decide +kernel) rfl (fun hC => ?_)
    rcases Classical.em (¬ x2 = (1 : Int32)) with hc | hc
    · rw [if_pos hc]
      refine jE_icT 23 hC (by decide) hc ?_
      refine jE_blk (bs := [(.iload_n 1, 0, 0), (.iconst (1), 1, 0)]) (i := .if_icmp .ne (7)) (a1 := 0) (a2 := 0) (pc1 := 25) (l1 := [(0, .int x0), (1, .int x1), (2, .int x2), (3, .int x3)]) (st1 := [.int (1 : Int32), .int x1]) (σ1 := σ) (by decide +kernel) rfl (fun hC => ?_)
      rcases Classical.em (¬ x1 = (1 : Int32)) with hc | hc
      · rw [if_pos hc]
        refine jE_icT 32 hC (by decide) hc ?_
        refine jE_blk (bs := [(.iload_n 3, 0, 0)]) (i := .ireturn) (a1 := 0) (a2 := 0) (pc1 := 33) (l1 := [(0, .int x0), (1, .int x1), (2, .int x2), (3, .int x3)]) (st1 := [.int x3]) (σ1 := σ) (by decide +kernel) rfl (fun hC => ?_)
        exact jE_ret hC rfl
      · rw [if_neg hc]
        refine jE_icF 32 hC (by decide) hc ?_
        refine jE_blk (bs := [(.iconst (3), 3, 0), (.goto (4), 0, 0)]) (i := .ireturn) (a1 := 0) (a2 := 0) (pc1 := 33) (l1 := [(0, .int x0), (1, .int x1), (2, .int x2), (3, .int x3)]) (st1 := [.int (3 : Int32)]) (σ1 := σ) (by decide +kernel) rfl (fun hC => ?_)
        exact jE_ret hC rfl
    · rw [if_neg hc]
      refine jE_icF 23 hC (by decide) hc ?_
      refine jE_blk (bs := [(.iload_n 1, 0, 0), (.iconst (1), 1, 0)]) (i := .if_icmp .ne (7)) (a1 := 0) (a2 := 0) (pc1 := 14) (l1 := [(0, .int x0), (1, .int x1), (2, .int x2), (3, .int x3)]) (st1 := [.int (1 : Int32), .int x1]) (σ1 := σ) (by decide +kernel) rfl (fun hC => ?_)
      rcases Classical.em (¬ x1 = (1 : Int32)) with hc | hc
      · rw [if_pos hc]
        refine jE_icT 21 hC (by decide) hc ?_
        refine jE_blk (bs := [(.iconst (2), 2, 0)]) (i := .ireturn) (a1 := 0) (a2 := 0) (pc1 := 22) (l1 := [(0, .int x0), (1, .int x1), (2, .int x2), (3, .int x3)]) (st1 := [.int (2 : Int32)]) (σ1 := σ) (by decide +kernel) rfl (fun hC => ?_)
        exact jE_ret hC rfl
      · rw [if_neg hc]
        refine jE_icF 21 hC (by decide) hc ?_
        refine jE_blk (bs := [(.iconst (4), 4, 0), (.goto (4), 0, 0)]) (i := .ireturn) (a1 := 0) (a2 := 0) (pc1 := 22) (l1 := [(0, .int x0), (1, .int x1), (2, .int x2), (3, .int x3)]) (st1 := [.int (4 : Int32)]) (σ1 := σ) (by decide +kernel) rfl (fun hC => ?_)
        exact jE_ret hC rfl
  · rw [if_neg hc]
    refine jE_icF 7 hC (by decide) hc ?_
    refine jE_blk (bs := [(.iconst (5), 5, 0)]) (i := .ireturn) (a1 := 0) (a2 := 0) (pc1 := 6) (l1 := [(0, .int x0), (1, .int x1), (2, .int x2), (3, .int x3)]) (st1 := [.int (5 : Int32)]) (σ1 := σ) (by decide +kernel) rfl (fun hC => ?_)
    exact jE_ret hC rfl
def v_cTre_boundBy (x1 : Int32) (σ : jx_S) : Int32 := (if ¬ (jI_at 1201 (σ.1 23) (jI_at 1201 (σ.1 31) x1)) = (5 : Int32) then (-1 : Int32) else (if ¬ (jI_at 1201 (σ.1 27) (jI_at 1201 (σ.1 31) x1)) = x1 then (-1 : Int32) else (jI_at 1201 (σ.1 33) (jI_at 1201 (σ.1 31) x1))))
theorem xv_cTre_boundBy (d : Nat) (hd : 1 ≤ d) (x1 : Int32) (σ : jx_S) : jE d 33 0 [(0, .ref 3), (1, .int x1)] [] σ (some (.int (v_cTre_boundBy x1 σ)), σ) := by
  unfold v_cTre_boundBy
  refine jE_blk (bs := [(.aload_n 0, 0, 0), (.getfield 29, 3, 4), (.iload_n 1, 0, 0)]) (i := .invokevirtual 55) (a1 := 136) (a2 := 0) (pc1 := 5) (l1 := [(0, .ref 3), (1, .int x1)]) (st1 := [.int x1, .ref 30]) (σ1 := σ) (by decide +kernel) rfl (fun hC => ?_)
  refine jE_call (as := [.ref 30, .int x1]) (pc1 := 8) (st1 := []) hC rfl (by decide) (by omega) (xI_at (d - 1) 30 1201 x1 σ (by decide) rfl rfl) ?_
  refine jE_blk (bs := [(.istore_n 2, 3, 0), (.aload_n 0, 0, 0), (.getfield 14, 3, 0), (.iload_n 2, 0, 0)]) (i := .invokevirtual 55) (a1 := 136) (a2 := 0) (pc1 := 14) (l1 := [(2, .int (jI_at 1201 (σ.1 31) x1)), (0, .ref 3), (1, .int x1)]) (st1 := [.int (jI_at 1201 (σ.1 31) x1), .ref 22]) (σ1 := σ) (by decide +kernel) rfl (fun hC => ?_)
  refine jE_call (as := [.ref 22, .int (jI_at 1201 (σ.1 31) x1)]) (pc1 := 17) (st1 := []) hC rfl (by decide) (by omega) (xI_at (d - 1) 22 1201 (jI_at 1201 (σ.1 31) x1) σ (by decide) rfl rfl) ?_
  refine jE_blk (bs := [(.iconst (5), 5, 0)]) (i := .if_icmp .ne (26)) (a1 := 0) (a2 := 0) (pc1 := 18) (l1 := [(2, .int (jI_at 1201 (σ.1 31) x1)), (0, .ref 3), (1, .int x1)]) (st1 := [.int (5 : Int32), .int (jI_at 1201 (σ.1 23) (jI_at 1201 (σ.1 31) x1))]) (σ1 := σ) (by decide +kernel) rfl (fun hC => ?_)
  rcases Classical.em (¬ (jI_at 1201 (σ.1 23) (jI_at 1201 (σ.1 31) x1)) = (5 : Int32)) with hc | hc
  · rw [if_pos hc]
    refine jE_icT 44 hC (by decide) hc ?_
    refine jE_blk (bs := [(.iconst (-1), 1, 1)]) (i := .ireturn) (a1 := 0) (a2 := 0) (pc1 := 45) (l1 := [(2, .int (jI_at 1201 (σ.1 31) x1)), (0, .ref 3), (1, .int x1)]) (st1 := [.int (-1 : Int32)]) (σ1 := σ) (by decide +kernel) rfl (fun hC => ?_)
    exact jE_ret hC rfl
  · rw [if_neg hc]
    refine jE_icF 44 hC (by decide) hc ?_
    refine jE_blk (bs := [(.aload_n 0, 0, 0), (.getfield 23, 3, 2), (.iload_n 2, 0, 0)]) (i := .invokevirtual 55) (a1 := 136) (a2 := 0) (pc1 := 26) (l1 := [(2, .int (jI_at 1201 (σ.1 31) x1)), (0, .ref 3), (1, .int x1)]) (st1 := [.int (jI_at 1201 (σ.1 31) x1), .ref 26]) (σ1 := σ) (by decide +kernel) rfl (fun hC => ?_)
    refine jE_call (as := [.ref 26, .int (jI_at 1201 (σ.1 31) x1)]) (pc1 := 29) (st1 := []) hC rfl (by decide) (by omega) (xI_at (d - 1) 26 1201 (jI_at 1201 (σ.1 31) x1) σ (by decide) rfl rfl) ?_
    refine jE_blk (bs := [(.iload_n 1, 0, 0)]) (i := .if_icmp .ne (14)) (a1 := 0) (a2 := 0) (pc1 := 30) (l1 := [(2, .int (jI_at 1201 (σ.1 31) x1)), (0, .ref 3), (1, .int x1)]) (st1 := [.int x1, .int (jI_at 1201 (σ.1 27) (jI_at 1201 (σ.1 31) x1))]) (σ1 := σ) (by decide +kernel) rfl (fun hC => ?_)
    rcases Classical.em (¬ (jI_at 1201 (σ.1 27) (jI_at 1201 (σ.1 31) x1)) = x1) with hc | hc
    · rw [if_pos hc]
      refine jE_icT 44 hC (by decide) hc ?_
      refine jE_blk (bs := [(.iconst (-1), 1, 1)]) (i := .ireturn) (a1 := 0) (a2 := 0) (pc1 := 45) (l1 := [(2, .int (jI_at 1201 (σ.1 31) x1)), (0, .ref 3), (1, .int x1)]) (st1 := [.int (-1 : Int32)]) (σ1 := σ) (by decide +kernel) rfl (fun hC => ?_)
      exact jE_ret hC rfl
    · rw [if_neg hc]
      refine jE_icF 44 hC (by decide) hc ?_
      refine jE_blk (bs := [(.aload_n 0, 0, 0), (.getfield 32, 3, 5), (.iload_n 2, 0, 0)]) (i := .invokevirtual 55) (a1 := 136) (a2 := 0) (pc1 := 38) (l1 := [(2, .int (jI_at 1201 (σ.1 31) x1)), (0, .ref 3), (1, .int x1)]) (st1 := [.int (jI_at 1201 (σ.1 31) x1), .ref 32]) (σ1 := σ) (by decide +kernel) rfl (fun hC => ?_)
      refine jE_call (as := [.ref 32, .int (jI_at 1201 (σ.1 31) x1)]) (pc1 := 41) (st1 := []) hC rfl (by decide) (by omega) (xI_at (d - 1) 32 1201 (jI_at 1201 (σ.1 31) x1) σ (by decide) rfl rfl) ?_
      refine jE_blk (bs := [(.goto (4), 0, 0)]) (i := .ireturn) (a1 := 0) (a2 := 0) (pc1 := 45) (l1 := [(2, .int (jI_at 1201 (σ.1 31) x1)), (0, .ref 3), (1, .int x1)]) (st1 := [.int (jI_at 1201 (σ.1 33) (jI_at 1201 (σ.1 31) x1))]) (σ1 := σ) (by decide +kernel) rfl (fun hC => ?_)
      exact jE_ret hC rfl
def v_cl_place (σ : jx_S) : Int32 := (if (σ.1 0 12) = 0 then (-1 : Int32) else (if (v_cFau_isTold σ) = 0 then (-1 : Int32) else (σ.1 1 1)))
theorem xv_cl_place (d : Nat) (hd : 1 ≤ d) (σ : jx_S) : jE d 3 0 [(0, .ref 0)] [] σ (some (.int (v_cl_place σ)), σ) := by
  unfold v_cl_place
  refine jE_blk (bs := [(.aload_n 0, 0, 0), (.getfield 101, 0, 12)]) (i := .ifCond .eq (23)) (a1 := 0) (a2 := 0) (pc1 := 4) (l1 := [(0, .ref 0)]) (st1 := [.int (σ.1 0 12)]) (σ1 := σ) (by decide +kernel) rfl (fun hC => ?_)
  rcases Classical.em ((σ.1 0 12) = 0) with hc | hc
  · rw [if_pos hc]
    refine jE_ifT 27 hC (by decide) hc ?_
    refine jE_blk (bs := [(.iconst (-1), 1, 1)]) (i := .ireturn) (a1 := 0) (a2 := 0) (pc1 := 28) (l1 := [(0, .ref 0)]) (st1 := [.int (-1 : Int32)]) (σ1 := σ) (by decide +kernel) rfl (fun hC => ?_)
    exact jE_ret hC rfl
  · rw [if_neg hc]
    refine jE_ifF 27 hC (by decide) hc ?_
    refine jE_blk (bs := [(.aload_n 0, 0, 0), (.getfield 24, 0, 2)]) (i := .invokevirtual 122) (a1 := 17) (a2 := 0) (pc1 := 11) (l1 := [(0, .ref 0)]) (st1 := [.ref 1]) (σ1 := σ) (by decide +kernel) rfl (fun hC => ?_)
    refine jE_call (as := [.ref 1]) (pc1 := 14) (st1 := []) hC rfl (by decide) (by omega) (xv_cFau_isTold (d - 1) (by omega) σ) ?_
    refine jE_blk (bs := []) (i := .ifCond .eq (13)) (a1 := 0) (a2 := 0) (pc1 := 14) (l1 := [(0, .ref 0)]) (st1 := [.int (v_cFau_isTold σ)]) (σ1 := σ) (by decide +kernel) rfl (fun hC => ?_)
    rcases Classical.em ((v_cFau_isTold σ) = 0) with hc | hc
    · rw [if_pos hc]
      refine jE_ifT 27 hC (by decide) hc ?_
      refine jE_blk (bs := [(.iconst (-1), 1, 1)]) (i := .ireturn) (a1 := 0) (a2 := 0) (pc1 := 28) (l1 := [(0, .ref 0)]) (st1 := [.int (-1 : Int32)]) (σ1 := σ) (by decide +kernel) rfl (fun hC => ?_)
      exact jE_ret hC rfl
    · rw [if_neg hc]
      refine jE_ifF 27 hC (by decide) hc ?_
      refine jE_blk (bs := [(.aload_n 0, 0, 0), (.getfield 24, 0, 2), (.getfield 130, 1, 1), (.goto (4), 0, 0)]) (i := .ireturn) (a1 := 0) (a2 := 0) (pc1 := 28) (l1 := [(0, .ref 0)]) (st1 := [.int (σ.1 1 1)]) (σ1 := σ) (by decide +kernel) rfl (fun hC => ?_)
      exact jE_ret hC rfl
def v_cl_isUsable (σ : jx_S) : Int32 := (if (σ.1 0 12) = 0 then (0 : Int32) else (if ¬ (v_cFau_isTold σ) = 0 then (0 : Int32) else (1 : Int32)))
theorem xv_cl_isUsable (d : Nat) (hd : 1 ≤ d) (σ : jx_S) : jE d 15 0 [(0, .ref 0)] [] σ (some (.int (v_cl_isUsable σ)), σ) := by
  unfold v_cl_isUsable
  refine jE_blk (bs := [(.aload_n 0, 0, 0), (.getfield 101, 0, 12)]) (i := .ifCond .eq (17)) (a1 := 0) (a2 := 0) (pc1 := 4) (l1 := [(0, .ref 0)]) (st1 := [.int (σ.1 0 12)]) (σ1 := σ) (by decide +kernel) rfl (fun hC => ?_)
  rcases Classical.em ((σ.1 0 12) = 0) with hc | hc
  · rw [if_pos hc]
    refine jE_ifT 21 hC (by decide) hc ?_
    refine jE_blk (bs := [(.iconst (0), 0, 0)]) (i := .ireturn) (a1 := 1) (a2 := 0) (pc1 := 22) (l1 := [(0, .ref 0)]) (st1 := [.int (0 : Int32)]) (σ1 := σ) (by decide +kernel) rfl (fun hC => ?_)
    exact jE_ret hC rfl
  · rw [if_neg hc]
    refine jE_ifF 21 hC (by decide) hc ?_
    refine jE_blk (bs := [(.aload_n 0, 0, 0), (.getfield 24, 0, 2)]) (i := .invokevirtual 122) (a1 := 17) (a2 := 0) (pc1 := 11) (l1 := [(0, .ref 0)]) (st1 := [.ref 1]) (σ1 := σ) (by decide +kernel) rfl (fun hC => ?_)
    refine jE_call (as := [.ref 1]) (pc1 := 14) (st1 := []) hC rfl (by decide) (by omega) (xv_cFau_isTold (d - 1) (by omega) σ) ?_
    refine jE_blk (bs := []) (i := .ifCond .ne (7)) (a1 := 0) (a2 := 0) (pc1 := 14) (l1 := [(0, .ref 0)]) (st1 := [.int (v_cFau_isTold σ)]) (σ1 := σ) (by decide +kernel) rfl (fun hC => ?_)
    rcases Classical.em (¬ (v_cFau_isTold σ) = 0) with hc | hc
    · rw [if_pos hc]
      refine jE_ifT 21 hC (by decide) hc ?_
      refine jE_blk (bs := [(.iconst (0), 0, 0)]) (i := .ireturn) (a1 := 1) (a2 := 0) (pc1 := 22) (l1 := [(0, .ref 0)]) (st1 := [.int (0 : Int32)]) (σ1 := σ) (by decide +kernel) rfl (fun hC => ?_)
      exact jE_ret hC rfl
    · rw [if_neg hc]
      refine jE_ifF 21 hC (by decide) hc ?_
      refine jE_blk (bs := [(.iconst (1), 1, 0), (.goto (4), 0, 0)]) (i := .ireturn) (a1 := 1) (a2 := 0) (pc1 := 22) (l1 := [(0, .ref 0)]) (st1 := [.int (1 : Int32)]) (σ1 := σ) (by decide +kernel) rfl (fun hC => ?_)
      exact jE_ret hC rfl
def v_cl_functions (σ : jx_S) : Int32 := (if (v_cl_isUsable σ) = 0 then (0 : Int32) else (σ.1 4 10))
theorem xv_cl_functions (d : Nat) (hd : 2 ≤ d) (σ : jx_S) : jE d 4 0 [(0, .ref 0)] [] σ (some (.int (v_cl_functions σ)), σ) := by
  unfold v_cl_functions
  refine jE_blk (bs := [(.aload_n 0, 0, 0)]) (i := .invokevirtual 133) (a1 := 15) (a2 := 0) (pc1 := 1) (l1 := [(0, .ref 0)]) (st1 := [.ref 0]) (σ1 := σ) (by decide +kernel) rfl (fun hC => ?_)
  refine jE_call (as := [.ref 0]) (pc1 := 4) (st1 := []) hC rfl (by decide) (by omega) (xv_cl_isUsable (d - 1) (by omega) σ) ?_
  refine jE_blk (bs := []) (i := .ifCond .eq (13)) (a1 := 0) (a2 := 0) (pc1 := 4) (l1 := [(0, .ref 0)]) (st1 := [.int (v_cl_isUsable σ)]) (σ1 := σ) (by decide +kernel) rfl (fun hC => ?_)
  rcases Classical.em ((v_cl_isUsable σ) = 0) with hc | hc
  · rw [if_pos hc]
    refine jE_ifT 17 hC (by decide) hc ?_
    refine jE_blk (bs := [(.iconst (0), 0, 0)]) (i := .ireturn) (a1 := 0) (a2 := 0) (pc1 := 18) (l1 := [(0, .ref 0)]) (st1 := [.int (0 : Int32)]) (σ1 := σ) (by decide +kernel) rfl (fun hC => ?_)
    exact jE_ret hC rfl
  · rw [if_neg hc]
    refine jE_ifF 17 hC (by decide) hc ?_
    refine jE_blk (bs := [(.aload_n 0, 0, 0), (.getfield 45, 0, 5), (.getfield 129, 4, 10), (.goto (4), 0, 0)]) (i := .ireturn) (a1 := 0) (a2 := 0) (pc1 := 18) (l1 := [(0, .ref 0)]) (st1 := [.int (σ.1 4 10)]) (σ1 := σ) (by decide +kernel) rfl (fun hC => ?_)
    exact jE_ret hC rfl
def v_cl_hasFunction (x1 : Int32) (σ : jx_S) : Int32 := (if (v_cl_isUsable σ) = 0 then (0 : Int32) else (if x1 < 0 then (0 : Int32) else (if (σ.1 4 10) ≤ x1 then (0 : Int32) else (1 : Int32))))
theorem xv_cl_hasFunction (d : Nat) (hd : 2 ≤ d) (x1 : Int32) (σ : jx_S) : jE d 16 0 [(0, .ref 0), (1, .int x1)] [] σ (some (.int (v_cl_hasFunction x1 σ)), σ) := by
  unfold v_cl_hasFunction
  refine jE_blk (bs := [(.aload_n 0, 0, 0)]) (i := .invokevirtual 133) (a1 := 15) (a2 := 0) (pc1 := 1) (l1 := [(0, .ref 0), (1, .int x1)]) (st1 := [.ref 0]) (σ1 := σ) (by decide +kernel) rfl (fun hC => ?_)
  refine jE_call (as := [.ref 0]) (pc1 := 4) (st1 := []) hC rfl (by decide) (by omega) (xv_cl_isUsable (d - 1) (by omega) σ) ?_
  refine jE_blk (bs := []) (i := .ifCond .eq (22)) (a1 := 0) (a2 := 0) (pc1 := 4) (l1 := [(0, .ref 0), (1, .int x1)]) (st1 := [.int (v_cl_isUsable σ)]) (σ1 := σ) (by decide +kernel) rfl (fun hC => ?_)
  rcases Classical.em ((v_cl_isUsable σ) = 0) with hc | hc
  · rw [if_pos hc]
    refine jE_ifT 26 hC (by decide) hc ?_
    refine jE_blk (bs := [(.iconst (0), 0, 0)]) (i := .ireturn) (a1 := 1) (a2 := 0) (pc1 := 27) (l1 := [(0, .ref 0), (1, .int x1)]) (st1 := [.int (0 : Int32)]) (σ1 := σ) (by decide +kernel) rfl (fun hC => ?_)
    exact jE_ret hC rfl
  · rw [if_neg hc]
    refine jE_ifF 26 hC (by decide) hc ?_
    refine jE_blk (bs := [(.iload_n 1, 0, 0)]) (i := .ifCond .lt (18)) (a1 := 0) (a2 := 0) (pc1 := 8) (l1 := [(0, .ref 0), (1, .int x1)]) (st1 := [.int x1]) (σ1 := σ) (by decide +kernel) rfl (fun hC => ?_)
    rcases Classical.em (x1 < 0) with hc | hc
    · rw [if_pos hc]
      refine jE_ifT 26 hC (by decide) hc ?_
      refine jE_blk (bs := [(.iconst (0), 0, 0)]) (i := .ireturn) (a1 := 1) (a2 := 0) (pc1 := 27) (l1 := [(0, .ref 0), (1, .int x1)]) (st1 := [.int (0 : Int32)]) (σ1 := σ) (by decide +kernel) rfl (fun hC => ?_)
      exact jE_ret hC rfl
    · rw [if_neg hc]
      refine jE_ifF 26 hC (by decide) hc ?_
      refine jE_blk (bs := [(.iload_n 1, 0, 0), (.aload_n 0, 0, 0), (.getfield 45, 0, 5), (.getfield 129, 4, 10)]) (i := .if_icmp .ge (7)) (a1 := 0) (a2 := 0) (pc1 := 19) (l1 := [(0, .ref 0), (1, .int x1)]) (st1 := [.int (σ.1 4 10), .int x1]) (σ1 := σ) (by decide +kernel) rfl (fun hC => ?_)
      rcases Classical.em ((σ.1 4 10) ≤ x1) with hc | hc
      · rw [if_pos hc]
        refine jE_icT 26 hC (by decide) hc ?_
        refine jE_blk (bs := [(.iconst (0), 0, 0)]) (i := .ireturn) (a1 := 1) (a2 := 0) (pc1 := 27) (l1 := [(0, .ref 0), (1, .int x1)]) (st1 := [.int (0 : Int32)]) (σ1 := σ) (by decide +kernel) rfl (fun hC => ?_)
        exact jE_ret hC rfl
      · rw [if_neg hc]
        refine jE_icF 26 hC (by decide) hc ?_
        refine jE_blk (bs := [(.iconst (1), 1, 0), (.goto (4), 0, 0)]) (i := .ireturn) (a1 := 1) (a2 := 0) (pc1 := 27) (l1 := [(0, .ref 0), (1, .int x1)]) (st1 := [.int (1 : Int32)]) (σ1 := σ) (by decide +kernel) rfl (fun hC => ?_)
        exact jE_ret hC rfl
def v_cFun_strictOf (x1 : Int32) (x2 : Int32) (σ : jx_S) : Int32 := (jI_at 1200 (σ.1 59) ((x1 * (30 : Int32)) + x2))
theorem xv_cFun_strictOf (d : Nat) (hd : 1 ≤ d) (x1 : Int32) (x2 : Int32) (σ : jx_S) : jE d 41 0 [(0, .ref 4), (1, .int x1), (2, .int x2)] [] σ (some (.int (v_cFun_strictOf x1 x2 σ)), σ) := by
  unfold v_cFun_strictOf
  refine jE_blk (bs := [(.aload_n 0, 0, 0), (.getfield 44, 4, 9), (.iload_n 1, 0, 0), (.bipush (30), 30, 0), (.imul, 0, 0), (.iload_n 2, 0, 0), (.iadd, 0, 0)]) (i := .invokevirtual 55) (a1 := 136) (a2 := 0) (pc1 := 10) (l1 := [(0, .ref 4), (1, .int x1), (2, .int x2)]) (st1 := [.int ((x1 * (30 : Int32)) + x2), .ref 58]) (σ1 := σ) (by decide +kernel) rfl (fun hC => ?_)
  refine jE_call (as := [.ref 58, .int ((x1 * (30 : Int32)) + x2)]) (pc1 := 13) (st1 := []) hC rfl (by decide) (by omega) (xI_at (d - 1) 58 1200 ((x1 * (30 : Int32)) + x2) σ (by decide) rfl rfl) ?_
  refine jE_blk (bs := []) (i := .ireturn) (a1 := 0) (a2 := 0) (pc1 := 13) (l1 := [(0, .ref 4), (1, .int x1), (2, .int x2)]) (st1 := [.int (jI_at 1200 (σ.1 59) ((x1 * (30 : Int32)) + x2))]) (σ1 := σ) (by decide +kernel) rfl (fun hC => ?_)
  exact jE_ret hC rfl
def v_cl_rounds (σ : jx_S) : Int32 := (if (v_cl_isUsable σ) = 0 then (0 : Int32) else (σ.1 7 6))
theorem xv_cl_rounds (d : Nat) (hd : 2 ≤ d) (σ : jx_S) : jE d 8 0 [(0, .ref 0)] [] σ (some (.int (v_cl_rounds σ)), σ) := by
  unfold v_cl_rounds
  refine jE_blk (bs := [(.aload_n 0, 0, 0)]) (i := .invokevirtual 133) (a1 := 15) (a2 := 0) (pc1 := 1) (l1 := [(0, .ref 0)]) (st1 := [.ref 0]) (σ1 := σ) (by decide +kernel) rfl (fun hC => ?_)
  refine jE_call (as := [.ref 0]) (pc1 := 4) (st1 := []) hC rfl (by decide) (by omega) (xv_cl_isUsable (d - 1) (by omega) σ) ?_
  refine jE_blk (bs := []) (i := .ifCond .eq (13)) (a1 := 0) (a2 := 0) (pc1 := 4) (l1 := [(0, .ref 0)]) (st1 := [.int (v_cl_isUsable σ)]) (σ1 := σ) (by decide +kernel) rfl (fun hC => ?_)
  rcases Classical.em ((v_cl_isUsable σ) = 0) with hc | hc
  · rw [if_pos hc]
    refine jE_ifT 17 hC (by decide) hc ?_
    refine jE_blk (bs := [(.iconst (0), 0, 0)]) (i := .ireturn) (a1 := 0) (a2 := 0) (pc1 := 18) (l1 := [(0, .ref 0)]) (st1 := [.int (0 : Int32)]) (σ1 := σ) (by decide +kernel) rfl (fun hC => ?_)
    exact jE_ret hC rfl
  · rw [if_neg hc]
    refine jE_ifF 17 hC (by decide) hc ?_
    refine jE_blk (bs := [(.aload_n 0, 0, 0), (.getfield 70, 0, 8), (.getfield 184, 7, 6), (.goto (4), 0, 0)]) (i := .ireturn) (a1 := 0) (a2 := 0) (pc1 := 18) (l1 := [(0, .ref 0)]) (st1 := [.int (σ.1 7 6)]) (σ1 := σ) (by decide +kernel) rfl (fun hC => ?_)
    exact jE_ret hC rfl
def v_cHea_hold (x0 : Int32) (x1 : Int32) (σ : jx_S) : Int64 := (((x0).toInt64 <<< (((32 : Int32)).toInt64 &&& 63)) ||| ((x1).toInt64 &&& (4294967295 : Int64)))
theorem xv_cHea_hold (d : Nat) (hd : 0 ≤ d) (x0 : Int32) (x1 : Int32) (σ : jx_S) : jE d 129 0 [(0, .int x0), (1, .int x1)] [] σ (some (.long (v_cHea_hold x0 x1 σ)), σ) := by
  unfold v_cHea_hold
  refine jE_blk (bs := [(.iload_n 0, 0, 0), (.i2l, 0, 0), (.bipush (32), 32, 0), (.lshl, 0, 0), (.iload_n 1, 0, 0), (.i2l, 0, 0), (.ldc2_w 52, 4294967295, 0), (.land, 0, 0), (.lor, 0, 0)]) (i := .lreturn) (a1 := 0) (a2 := 0) (pc1 := 12) (l1 := [(0, .int x0), (1, .int x1)]) (st1 := [.long (((x0).toInt64 <<< (((32 : Int32)).toInt64 &&& 63)) ||| ((x1).toInt64 &&& (4294967295 : Int64)))]) (σ1 := σ) (by decide +kernel) rfl (fun hC => ?_)
  exact jE_ret hC rfl
def v_cMac_literal (x1 : Int32) (σ : jx_S) : Int64 := (if ¬ (jI_at 1201 (σ.1 23) x1) = (13 : Int32) then (v_cHea_hold (1 : Int32) ((jL_at 1201 (σ.2 19) (jI_at 1201 (σ.1 25) x1))).toInt32 σ) else (v_cHea_hold (2 : Int32) (0 : Int32) σ))
theorem xv_cMac_literal (d : Nat) (hd : 1 ≤ d) (x1 : Int32) (σ : jx_S) : jE d 114 0 [(0, .ref 8), (1, .int x1)] [] σ (some (.long (v_cMac_literal x1 σ)), σ) := by
  unfold v_cMac_literal
  refine jE_blk (bs := [(.aload_n 0, 0, 0), (.getfield 53, 8, 3), (.getfield 190, 3, 0), (.iload_n 1, 0, 0)]) (i := .invokevirtual 90) (a1 := 136) (a2 := 0) (pc1 := 8) (l1 := [(0, .ref 8), (1, .int x1)]) (st1 := [.int x1, .ref 22]) (σ1 := σ) (by decide +kernel) rfl (fun hC => ?_)
  refine jE_call (as := [.ref 22, .int x1]) (pc1 := 11) (st1 := []) hC rfl (by decide) (by omega) (xI_at (d - 1) 22 1201 x1 σ (by decide) rfl rfl) ?_
  refine jE_blk (bs := [(.bipush (13), 13, 0)]) (i := .if_icmp .ne (9)) (a1 := 0) (a2 := 0) (pc1 := 13) (l1 := [(0, .ref 8), (1, .int x1)]) (st1 := [.int (13 : Int32), .int (jI_at 1201 (σ.1 23) x1)]) (σ1 := σ) (by decide +kernel) rfl (fun hC => ?_)
  rcases Classical.em (¬ (jI_at 1201 (σ.1 23) x1) = (13 : Int32)) with hc | hc
  · rw [if_pos hc]
    refine jE_icT 22 hC (by decide) hc ?_
    refine jE_blk (bs := [(.iconst (1), 1, 0), (.aload_n 0, 0, 0), (.getfield 49, 8, 2), (.getfield 225, 2, 2), (.aload_n 0, 0, 0), (.getfield 53, 8, 3), (.getfield 230, 3, 1), (.iload_n 1, 0, 0)]) (i := .invokevirtual 90) (a1 := 136) (a2 := 0) (pc1 := 38) (l1 := [(0, .ref 8), (1, .int x1)]) (st1 := [.int x1, .ref 24, .ref 18, .int (1 : Int32)]) (σ1 := σ) (by decide +kernel) rfl (fun hC => ?_)
    refine jE_call (as := [.ref 24, .int x1]) (pc1 := 41) (st1 := [.ref 18, .int (1 : Int32)]) hC rfl (by decide) (by omega) (xI_at (d - 1) 24 1201 x1 σ (by decide) rfl rfl) ?_
    refine jE_blk (bs := []) (i := .invokevirtual 148) (a1 := 140) (a2 := 0) (pc1 := 41) (l1 := [(0, .ref 8), (1, .int x1)]) (st1 := [.int (jI_at 1201 (σ.1 25) x1), .ref 18, .int (1 : Int32)]) (σ1 := σ) (by decide +kernel) rfl (fun hC => ?_)
    refine jE_call (as := [.ref 18, .int (jI_at 1201 (σ.1 25) x1)]) (pc1 := 44) (st1 := [.int (1 : Int32)]) hC rfl (by decide) (by omega) (xL_at (d - 1) 18 1201 (jI_at 1201 (σ.1 25) x1) σ (by decide) rfl rfl) ?_
    refine jE_blk (bs := [(.l2i, 0, 0)]) (i := .invokestatic 94) (a1 := 129) (a2 := 0) (pc1 := 45) (l1 := [(0, .ref 8), (1, .int x1)]) (st1 := [.int ((jL_at 1201 (σ.2 19) (jI_at 1201 (σ.1 25) x1))).toInt32, .int (1 : Int32)]) (σ1 := σ) (by decide +kernel) rfl (fun hC => ?_)
    refine jE_call (as := [.int (1 : Int32), .int ((jL_at 1201 (σ.2 19) (jI_at 1201 (σ.1 25) x1))).toInt32]) (pc1 := 48) (st1 := []) hC rfl (by decide) (by omega) (xv_cHea_hold (d - 1) (by omega) (1 : Int32) ((jL_at 1201 (σ.2 19) (jI_at 1201 (σ.1 25) x1))).toInt32 σ) ?_
    refine jE_blk (bs := []) (i := .lreturn) (a1 := 0) (a2 := 0) (pc1 := 48) (l1 := [(0, .ref 8), (1, .int x1)]) (st1 := [.long (v_cHea_hold (1 : Int32) ((jL_at 1201 (σ.2 19) (jI_at 1201 (σ.1 25) x1))).toInt32 σ)]) (σ1 := σ) (by decide +kernel) rfl (fun hC => ?_)
    exact jE_ret hC rfl
  · rw [if_neg hc]
    refine jE_icF 22 hC (by decide) hc ?_
    refine jE_blk (bs := [(.iconst (2), 2, 0), (.iconst (0), 0, 0)]) (i := .invokestatic 94) (a1 := 129) (a2 := 0) (pc1 := 18) (l1 := [(0, .ref 8), (1, .int x1)]) (st1 := [.int (0 : Int32), .int (2 : Int32)]) (σ1 := σ) (by decide +kernel) rfl (fun hC => ?_)
    refine jE_call (as := [.int (2 : Int32), .int (0 : Int32)]) (pc1 := 21) (st1 := []) hC rfl (by decide) (by omega) (xv_cHea_hold (d - 1) (by omega) (2 : Int32) (0 : Int32) σ) ?_
    refine jE_blk (bs := []) (i := .lreturn) (a1 := 0) (a2 := 0) (pc1 := 21) (l1 := [(0, .ref 8), (1, .int x1)]) (st1 := [.long (v_cHea_hold (2 : Int32) (0 : Int32) σ)]) (σ1 := σ) (by decide +kernel) rfl (fun hC => ?_)
    exact jE_ret hC rfl
def v_cMac_frame (σ : jx_S) : Int32 := (jI_at 250 (σ.1 77) ((σ.1 8 11) - (1 : Int32)))
theorem xv_cMac_frame (d : Nat) (hd : 1 ≤ d) (σ : jx_S) : jE d 112 0 [(0, .ref 8)] [] σ (some (.int (v_cMac_frame σ)), σ) := by
  unfold v_cMac_frame
  refine jE_blk (bs := [(.aload_n 0, 0, 0), (.getfield 33, 8, 7), (.aload_n 0, 0, 0), (.getfield 65, 8, 11), (.iconst (1), 1, 0), (.isub, 0, 0)]) (i := .invokevirtual 90) (a1 := 136) (a2 := 0) (pc1 := 10) (l1 := [(0, .ref 8)]) (st1 := [.int ((σ.1 8 11) - (1 : Int32)), .ref 76]) (σ1 := σ) (by decide +kernel) rfl (fun hC => ?_)
  refine jE_call (as := [.ref 76, .int ((σ.1 8 11) - (1 : Int32))]) (pc1 := 13) (st1 := []) hC rfl (by decide) (by omega) (xI_at (d - 1) 76 250 ((σ.1 8 11) - (1 : Int32)) σ (by decide) rfl rfl) ?_
  refine jE_blk (bs := []) (i := .ireturn) (a1 := 0) (a2 := 0) (pc1 := 13) (l1 := [(0, .ref 8)]) (st1 := [.int (jI_at 250 (σ.1 77) ((σ.1 8 11) - (1 : Int32)))]) (σ1 := σ) (by decide +kernel) rfl (fun hC => ?_)
  exact jE_ret hC rfl
def v_cHea_tagOf (x0 : Int64) (σ : jx_S) : Int32 := (((x0).toUInt64 >>> (((32 : Int32)).toInt64.toUInt64 &&& Int64.toUInt64 63)).toInt64).toInt32
theorem xv_cHea_tagOf (d : Nat) (hd : 0 ≤ d) (x0 : Int64) (σ : jx_S) : jE d 130 0 [(0, .long x0)] [] σ (some (.int (v_cHea_tagOf x0 σ)), σ) := by
  unfold v_cHea_tagOf
  refine jE_blk (bs := [(.lload_n 0, 0, 0), (.bipush (32), 32, 0), (.lushr, 0, 0), (.l2i, 0, 0)]) (i := .ireturn) (a1 := 0) (a2 := 0) (pc1 := 5) (l1 := [(0, .long x0)]) (st1 := [.int (((x0).toUInt64 >>> (((32 : Int32)).toInt64.toUInt64 &&& Int64.toUInt64 63)).toInt64).toInt32]) (σ1 := σ) (by decide +kernel) rfl (fun hC => ?_)
  exact jE_ret hC rfl
def v_cHea_numberOf (x0 : Int64) (σ : jx_S) : Int32 := (x0).toInt32
theorem xv_cHea_numberOf (d : Nat) (hd : 0 ≤ d) (x0 : Int64) (σ : jx_S) : jE d 131 0 [(0, .long x0)] [] σ (some (.int (v_cHea_numberOf x0 σ)), σ) := by
  unfold v_cHea_numberOf
  refine jE_blk (bs := [(.lload_n 0, 0, 0), (.l2i, 0, 0)]) (i := .ireturn) (a1 := 0) (a2 := 0) (pc1 := 2) (l1 := [(0, .long x0)]) (st1 := [.int (x0).toInt32]) (σ1 := σ) (by decide +kernel) rfl (fun hC => ?_)
  exact jE_ret hC rfl
def v_r_thrown (σ : jx_S) : Int32 := (σ.1 106 2)
theorem xv_r_thrown (d : Nat) (hd : 0 ≤ d) (σ : jx_S) : jE d 142 0 [(0, .ref 106)] [] σ (some (.int (v_r_thrown σ)), σ) := by
  unfold v_r_thrown
  refine jE_blk (bs := [(.aload_n 0, 0, 0), (.getfield 209, 12, 2)]) (i := .ireturn) (a1 := 0) (a2 := 0) (pc1 := 4) (l1 := [(0, .ref 106)]) (st1 := [.int (σ.1 106 2)]) (σ1 := σ) (by decide +kernel) rfl (fun hC => ?_)
  exact jE_ret hC rfl
def v_r_isLetter (x0 : Int32) (σ : jx_S) : Int32 := (if x0 < (97 : Int32) then (0 : Int32) else (if (122 : Int32) < x0 then (0 : Int32) else (1 : Int32)))
theorem xv_r_isLetter (d : Nat) (hd : 0 ≤ d) (x0 : Int32) (σ : jx_S) : jE d 147 0 [(0, .int x0)] [] σ (some (.int (v_r_isLetter x0 σ)), σ) := by
  unfold v_r_isLetter
  refine jE_blk (bs := [(.iload_n 0, 0, 0), (.bipush (97), 97, 0)]) (i := .if_icmp .lt (13)) (a1 := 0) (a2 := 0) (pc1 := 3) (l1 := [(0, .int x0)]) (st1 := [.int (97 : Int32), .int x0]) (σ1 := σ) (by decide +kernel) rfl (fun hC => ?_)
  rcases Classical.em (x0 < (97 : Int32)) with hc | hc
  · rw [if_pos hc]
    refine jE_icT 16 hC (by decide) hc ?_
    refine jE_blk (bs := [(.iconst (0), 0, 0)]) (i := .ireturn) (a1 := 1) (a2 := 0) (pc1 := 17) (l1 := [(0, .int x0)]) (st1 := [.int (0 : Int32)]) (σ1 := σ) (by decide +kernel) rfl (fun hC => ?_)
    exact jE_ret hC rfl
  · rw [if_neg hc]
    refine jE_icF 16 hC (by decide) hc ?_
    refine jE_blk (bs := [(.iload_n 0, 0, 0), (.bipush (122), 122, 0)]) (i := .if_icmp .gt (7)) (a1 := 0) (a2 := 0) (pc1 := 9) (l1 := [(0, .int x0)]) (st1 := [.int (122 : Int32), .int x0]) (σ1 := σ) (by decide +kernel) rfl (fun hC => ?_)
    rcases Classical.em ((122 : Int32) < x0) with hc | hc
    · rw [if_pos hc]
      refine jE_icT 16 hC (by decide) hc ?_
      refine jE_blk (bs := [(.iconst (0), 0, 0)]) (i := .ireturn) (a1 := 1) (a2 := 0) (pc1 := 17) (l1 := [(0, .int x0)]) (st1 := [.int (0 : Int32)]) (σ1 := σ) (by decide +kernel) rfl (fun hC => ?_)
      exact jE_ret hC rfl
    · rw [if_neg hc]
      refine jE_icF 16 hC (by decide) hc ?_
      refine jE_blk (bs := [(.iconst (1), 1, 0), (.goto (4), 0, 0)]) (i := .ireturn) (a1 := 1) (a2 := 0) (pc1 := 17) (l1 := [(0, .int x0)]) (st1 := [.int (1 : Int32)]) (σ1 := σ) (by decide +kernel) rfl (fun hC => ?_)
      exact jE_ret hC rfl
def v_r_isDigit (x0 : Int32) (σ : jx_S) : Int32 := (if x0 < (48 : Int32) then (0 : Int32) else (if (57 : Int32) < x0 then (0 : Int32) else (1 : Int32)))
theorem xv_r_isDigit (d : Nat) (hd : 0 ≤ d) (x0 : Int32) (σ : jx_S) : jE d 148 0 [(0, .int x0)] [] σ (some (.int (v_r_isDigit x0 σ)), σ) := by
  unfold v_r_isDigit
  refine jE_blk (bs := [(.iload_n 0, 0, 0), (.bipush (48), 48, 0)]) (i := .if_icmp .lt (13)) (a1 := 0) (a2 := 0) (pc1 := 3) (l1 := [(0, .int x0)]) (st1 := [.int (48 : Int32), .int x0]) (σ1 := σ) (by decide +kernel) rfl (fun hC => ?_)
  rcases Classical.em (x0 < (48 : Int32)) with hc | hc
  · rw [if_pos hc]
    refine jE_icT 16 hC (by decide) hc ?_
    refine jE_blk (bs := [(.iconst (0), 0, 0)]) (i := .ireturn) (a1 := 1) (a2 := 0) (pc1 := 17) (l1 := [(0, .int x0)]) (st1 := [.int (0 : Int32)]) (σ1 := σ) (by decide +kernel) rfl (fun hC => ?_)
    exact jE_ret hC rfl
  · rw [if_neg hc]
    refine jE_icF 16 hC (by decide) hc ?_
    refine jE_blk (bs := [(.iload_n 0, 0, 0), (.bipush (57), 57, 0)]) (i := .if_icmp .gt (7)) (a1 := 0) (a2 := 0) (pc1 := 9) (l1 := [(0, .int x0)]) (st1 := [.int (57 : Int32), .int x0]) (σ1 := σ) (by decide +kernel) rfl (fun hC => ?_)
    rcases Classical.em ((57 : Int32) < x0) with hc | hc
    · rw [if_pos hc]
      refine jE_icT 16 hC (by decide) hc ?_
      refine jE_blk (bs := [(.iconst (0), 0, 0)]) (i := .ireturn) (a1 := 1) (a2 := 0) (pc1 := 17) (l1 := [(0, .int x0)]) (st1 := [.int (0 : Int32)]) (σ1 := σ) (by decide +kernel) rfl (fun hC => ?_)
      exact jE_ret hC rfl
    · rw [if_neg hc]
      refine jE_icF 16 hC (by decide) hc ?_
      refine jE_blk (bs := [(.iconst (1), 1, 0), (.goto (4), 0, 0)]) (i := .ireturn) (a1 := 1) (a2 := 0) (pc1 := 17) (l1 := [(0, .int x0)]) (st1 := [.int (1 : Int32)]) (σ1 := σ) (by decide +kernel) rfl (fun hC => ?_)
      exact jE_ret hC rfl
def v_r_arity (x0 : Int32) (σ : jx_S) : Int32 := (if (2 : Int32) ≤ x0 then (if (6 : Int32) ≤ x0 then (2 : Int32) else (1 : Int32)) else (0 : Int32))
theorem xv_r_arity (d : Nat) (hd : 0 ≤ d) (x0 : Int32) (σ : jx_S) : jE d 177 0 [(0, .int x0)] [] σ (some (.int (v_r_arity x0 σ)), σ) := by
  unfold v_r_arity
  refine jE_blk (bs := [(.iload_n 0, 0, 0), (.iconst (2), 2, 0)]) (i := .if_icmp .ge (7)) (a1 := 0) (a2 := 0) (pc1 := 2) (l1 := [(0, .int x0)]) (st1 := [.int (2 : Int32), .int x0]) (σ1 := σ) (by decide +kernel) rfl (fun hC => ?_)
  rcases Classical.em ((2 : Int32) ≤ x0) with hc | hc
  · rw [if_pos hc]
    refine jE_icT 9 hC (by decide) hc ?_
    refine jE_blk (bs := [(.iload_n 0, 0, 0), (.bipush (6), 6, 0)]) (i := .if_icmp .ge (7)) (a1 := 0) (a2 := 0) (pc1 := 12) (l1 := [(0, .int x0)]) (st1 := [.int (6 : Int32), .int x0]) (σ1 := σ) (by decide +kernel) rfl (fun hC => ?_)
    rcases Classical.em ((6 : Int32) ≤ x0) with hc | hc
    · rw [if_pos hc]
      refine jE_icT 19 hC (by decide) hc ?_
      refine jE_blk (bs := [(.iconst (2), 2, 0)]) (i := .ireturn) (a1 := 0) (a2 := 0) (pc1 := 20) (l1 := [(0, .int x0)]) (st1 := [.int (2 : Int32)]) (σ1 := σ) (by decide +kernel) rfl (fun hC => ?_)
      exact jE_ret hC rfl
    · rw [if_neg hc]
      refine jE_icF 19 hC (by decide) hc ?_
      refine jE_blk (bs := [(.iconst (1), 1, 0), (.goto (4), 0, 0)]) (i := .ireturn) (a1 := 0) (a2 := 0) (pc1 := 20) (l1 := [(0, .int x0)]) (st1 := [.int (1 : Int32)]) (σ1 := σ) (by decide +kernel) rfl (fun hC => ?_)
      exact jE_ret hC rfl
  · rw [if_neg hc]
    refine jE_icF 9 hC (by decide) hc ?_
    refine jE_blk (bs := [(.iconst (0), 0, 0), (.goto (14), 0, 0)]) (i := .ireturn) (a1 := 0) (a2 := 0) (pc1 := 20) (l1 := [(0, .int x0)]) (st1 := [.int (0 : Int32)]) (σ1 := σ) (by decide +kernel) rfl (fun hC => ?_)
    exact jE_ret hC rfl
def v_r_part (x0 : Int32) (x1 : Int32) (σ : jx_S) : Int32 := (if (2 : Int32) ≤ x0 then (if (6 : Int32) ≤ x0 then (if ¬ x1 = 0 then (if ¬ x1 = (1 : Int32) then ((x0 - (6 : Int32)) - (x0 - (6 : Int32)) / (2 : Int32) * (2 : Int32)) else (((x0 - (6 : Int32)) / (2 : Int32)) - ((x0 - (6 : Int32)) / (2 : Int32)) / (2 : Int32) * (2 : Int32))) else ((x0 - (6 : Int32)) / (4 : Int32))) else (if ¬ x1 = 0 then ((x0 - (2 : Int32)) - (x0 - (2 : Int32)) / (2 : Int32) * (2 : Int32)) else ((x0 - (2 : Int32)) / (2 : Int32)))) else x0)
theorem xv_r_part (d : Nat) (hd : 0 ≤ d) (x0 : Int32) (x1 : Int32) (σ : jx_S) : jE d 178 0 [(0, .int x0), (1, .int x1)] [] σ (some (.int (v_r_part x0 x1 σ)), σ) := by
  unfold v_r_part
  refine jE_blk (bs := [(.iload_n 0, 0, 0), (.iconst (2), 2, 0)]) (i := .if_icmp .ge (7)) (a1 := 0) (a2 := 0) (pc1 := 2) (l1 := [(0, .int x0), (1, .int x1)]) (st1 := [.int (2 : Int32), .int x0]) (σ1 := σ) (by decide +kernel) rfl (fun hC => ?_)
  rcases Classical.em ((2 : Int32) ≤ x0) with hc | hc
  · rw [if_pos hc]
    refine jE_icT 9 hC (by decide) hc ?_
    refine jE_blk (bs := [(.iload_n 0, 0, 0), (.bipush (6), 6, 0)]) (i := .if_icmp .ge (23)) (a1 := 0) (a2 := 0) (pc1 := 12) (l1 := [(0, .int x0), (1, .int x1)]) (st1 := [.int (6 : Int32), .int x0]) (σ1 := σ) (by decide +kernel) rfl (fun hC => ?_)
    rcases Classical.em ((6 : Int32) ≤ x0) with hc | hc
    · rw [if_pos hc]
      refine jE_icT 35 hC (by decide) hc ?_
      refine jE_blk (bs := [(.iload_n 1, 0, 0)]) (i := .ifCond .ne (12)) (a1 := 0) (a2 := 0) (pc1 := 36) (l1 := [(0, .int x0), (1, .int x1)]) (st1 := [.int x1]) (σ1 := σ) (by decide +kernel) rfl (fun hC => ?_)
      rcases Classical.em (¬ x1 = 0) with hc | hc
      · rw [if_pos hc]
        refine jE_ifT 48 hC (by decide) hc ?_
        refine jE_blk (bs := [(.iload_n 1, 0, 0), (.iconst (1), 1, 0)]) (i := .if_icmp .ne (14)) (a1 := 0) (a2 := 0) (pc1 := 50) (l1 := [(0, .int x0), (1, .int x1)]) (st1 := [.int (1 : Int32), .int x1]) (σ1 := σ) (by decide +kernel) rfl (fun hC => ?_)
        rcases Classical.em (¬ x1 = (1 : Int32)) with hc | hc
        · rw [if_pos hc]
          refine jE_icT 64 hC (by decide) hc ?_
          refine jE_blk (bs := [(.iload_n 0, 0, 0), (.bipush (6), 6, 0), (.isub, 0, 0), (.iconst (2), 2, 0)]) (i := .irem) (a1 := 0) (a2 := 0) (pc1 := 69) (l1 := [(0, .int x0), (1, .int x1)]) (st1 := [.int (2 : Int32), .int (x0 - (6 : Int32))]) (σ1 := σ) (by decide +kernel) rfl (fun hC => ?_)
          refine jE_irem hC (by decide) ?_
          refine jE_blk (bs := []) (i := .ireturn) (a1 := 0) (a2 := 0) (pc1 := 70) (l1 := [(0, .int x0), (1, .int x1)]) (st1 := [.int ((x0 - (6 : Int32)) - (x0 - (6 : Int32)) / (2 : Int32) * (2 : Int32))]) (σ1 := σ) (by decide +kernel) rfl (fun hC => ?_)
          exact jE_ret hC rfl
        · rw [if_neg hc]
          refine jE_icF 64 hC (by decide) hc ?_
          refine jE_blk (bs := [(.iload_n 0, 0, 0), (.bipush (6), 6, 0), (.isub, 0, 0), (.iconst (2), 2, 0)]) (i := .idiv) (a1 := 0) (a2 := 0) (pc1 := 58) (l1 := [(0, .int x0), (1, .int x1)]) (st1 := [.int (2 : Int32), .int (x0 - (6 : Int32))]) (σ1 := σ) (by decide +kernel) rfl (fun hC => ?_)
          refine jE_idiv hC (by decide) ?_
          refine jE_blk (bs := [(.iconst (2), 2, 0)]) (i := .irem) (a1 := 0) (a2 := 0) (pc1 := 60) (l1 := [(0, .int x0), (1, .int x1)]) (st1 := [.int (2 : Int32), .int ((x0 - (6 : Int32)) / (2 : Int32))]) (σ1 := σ) (by decide +kernel) rfl (fun hC => ?_)
          refine jE_irem hC (by decide) ?_
          refine jE_blk (bs := [(.goto (9), 0, 0)]) (i := .ireturn) (a1 := 0) (a2 := 0) (pc1 := 70) (l1 := [(0, .int x0), (1, .int x1)]) (st1 := [.int (((x0 - (6 : Int32)) / (2 : Int32)) - ((x0 - (6 : Int32)) / (2 : Int32)) / (2 : Int32) * (2 : Int32))]) (σ1 := σ) (by decide +kernel) rfl (fun hC => ?_)
          exact jE_ret hC rfl
      · rw [if_neg hc]
        refine jE_ifF 48 hC (by decide) hc ?_
        refine jE_blk (bs := [(.iload_n 0, 0, 0), (.bipush (6), 6, 0), (.isub, 0, 0), (.iconst (4), 4, 0)]) (i := .idiv) (a1 := 0) (a2 := 0) (pc1 := 44) (l1 := [(0, .int x0), (1, .int x1)]) (st1 := [.int (4 : Int32), .int (x0 - (6 : Int32))]) (σ1 := σ) (by decide +kernel) rfl (fun hC => ?_)
        refine jE_idiv hC (by decide) ?_
        refine jE_blk (bs := [(.goto (25), 0, 0)]) (i := .ireturn) (a1 := 0) (a2 := 0) (pc1 := 70) (l1 := [(0, .int x0), (1, .int x1)]) (st1 := [.int ((x0 - (6 : Int32)) / (4 : Int32))]) (σ1 := σ) (by decide +kernel) rfl (fun hC => ?_)
        exact jE_ret hC rfl
    · rw [if_neg hc]
      refine jE_icF 35 hC (by decide) hc ?_
      refine jE_blk (bs := [(.iload_n 1, 0, 0)]) (i := .ifCond .ne (11)) (a1 := 0) (a2 := 0) (pc1 := 16) (l1 := [(0, .int x0), (1, .int x1)]) (st1 := [.int x1]) (σ1 := σ) (by decide +kernel) rfl (fun hC => ?_)
      rcases Classical.em (¬ x1 = 0) with hc | hc
      · rw [if_pos hc]
        refine jE_ifT 27 hC (by decide) hc ?_
        refine jE_blk (bs := [(.iload_n 0, 0, 0), (.iconst (2), 2, 0), (.isub, 0, 0), (.iconst (2), 2, 0)]) (i := .irem) (a1 := 0) (a2 := 0) (pc1 := 31) (l1 := [(0, .int x0), (1, .int x1)]) (st1 := [.int (2 : Int32), .int (x0 - (2 : Int32))]) (σ1 := σ) (by decide +kernel) rfl (fun hC => ?_)
        refine jE_irem hC (by decide) ?_
        refine jE_blk (bs := [(.goto (38), 0, 0)]) (i := .ireturn) (a1 := 0) (a2 := 0) (pc1 := 70) (l1 := [(0, .int x0), (1, .int x1)]) (st1 := [.int ((x0 - (2 : Int32)) - (x0 - (2 : Int32)) / (2 : Int32) * (2 : Int32))]) (σ1 := σ) (by decide +kernel) rfl (fun hC => ?_)
        exact jE_ret hC rfl
      · rw [if_neg hc]
        refine jE_ifF 27 hC (by decide) hc ?_
        refine jE_blk (bs := [(.iload_n 0, 0, 0), (.iconst (2), 2, 0), (.isub, 0, 0), (.iconst (2), 2, 0)]) (i := .idiv) (a1 := 0) (a2 := 0) (pc1 := 23) (l1 := [(0, .int x0), (1, .int x1)]) (st1 := [.int (2 : Int32), .int (x0 - (2 : Int32))]) (σ1 := σ) (by decide +kernel) rfl (fun hC => ?_)
        refine jE_idiv hC (by decide) ?_
        refine jE_blk (bs := [(.goto (46), 0, 0)]) (i := .ireturn) (a1 := 0) (a2 := 0) (pc1 := 70) (l1 := [(0, .int x0), (1, .int x1)]) (st1 := [.int ((x0 - (2 : Int32)) / (2 : Int32))]) (σ1 := σ) (by decide +kernel) rfl (fun hC => ?_)
        exact jE_ret hC rfl
  · rw [if_neg hc]
    refine jE_icF 9 hC (by decide) hc ?_
    refine jE_blk (bs := [(.iload_n 0, 0, 0), (.goto (64), 0, 0)]) (i := .ireturn) (a1 := 0) (a2 := 0) (pc1 := 70) (l1 := [(0, .int x0), (1, .int x1)]) (st1 := [.int x0]) (σ1 := σ) (by decide +kernel) rfl (fun hC => ?_)
    exact jE_ret hC rfl
def v_r_points (x0 : Int32) (σ : jx_S) : Int32 := (if (2 : Int32) ≤ x0 then (if (6 : Int32) ≤ x0 then (6 : Int32) else (3 : Int32)) else (2 : Int32))
theorem xv_r_points (d : Nat) (hd : 0 ≤ d) (x0 : Int32) (σ : jx_S) : jE d 186 0 [(0, .int x0)] [] σ (some (.int (v_r_points x0 σ)), σ) := by
  unfold v_r_points
  refine jE_blk (bs := [(.iload_n 0, 0, 0), (.iconst (2), 2, 0)]) (i := .if_icmp .ge (7)) (a1 := 0) (a2 := 0) (pc1 := 2) (l1 := [(0, .int x0)]) (st1 := [.int (2 : Int32), .int x0]) (σ1 := σ) (by decide +kernel) rfl (fun hC => ?_)
  rcases Classical.em ((2 : Int32) ≤ x0) with hc | hc
  · rw [if_pos hc]
    refine jE_icT 9 hC (by decide) hc ?_
    refine jE_blk (bs := [(.iload_n 0, 0, 0), (.bipush (6), 6, 0)]) (i := .if_icmp .ge (7)) (a1 := 0) (a2 := 0) (pc1 := 12) (l1 := [(0, .int x0)]) (st1 := [.int (6 : Int32), .int x0]) (σ1 := σ) (by decide +kernel) rfl (fun hC => ?_)
    rcases Classical.em ((6 : Int32) ≤ x0) with hc | hc
    · rw [if_pos hc]
      refine jE_icT 19 hC (by decide) hc ?_
      refine jE_blk (bs := [(.bipush (6), 6, 0)]) (i := .ireturn) (a1 := 0) (a2 := 0) (pc1 := 21) (l1 := [(0, .int x0)]) (st1 := [.int (6 : Int32)]) (σ1 := σ) (by decide +kernel) rfl (fun hC => ?_)
      exact jE_ret hC rfl
    · rw [if_neg hc]
      refine jE_icF 19 hC (by decide) hc ?_
      refine jE_blk (bs := [(.iconst (3), 3, 0), (.goto (5), 0, 0)]) (i := .ireturn) (a1 := 0) (a2 := 0) (pc1 := 21) (l1 := [(0, .int x0)]) (st1 := [.int (3 : Int32)]) (σ1 := σ) (by decide +kernel) rfl (fun hC => ?_)
      exact jE_ret hC rfl
  · rw [if_neg hc]
    refine jE_icF 9 hC (by decide) hc ?_
    refine jE_blk (bs := [(.iconst (2), 2, 0), (.goto (15), 0, 0)]) (i := .ireturn) (a1 := 0) (a2 := 0) (pc1 := 21) (l1 := [(0, .int x0)]) (st1 := [.int (2 : Int32)]) (σ1 := σ) (by decide +kernel) rfl (fun hC => ?_)
    exact jE_ret hC rfl
def v_r_made (x0 : Int32) (x1 : Int32) (x2 : Int32) (x3 : Int32) (σ : jx_S) : Int32 := (if (6 : Int32) ≤ x0 then (if ¬ x1 = 0 then (if ¬ x1 = (1 : Int32) then (if ¬ x1 = (2 : Int32) then (if ¬ x1 = (3 : Int32) then (if ¬ x1 = (4 : Int32) then (1 : Int32) else (x2 ||| x3)) else x3) else x2) else (x2 &&& x3)) else (0 : Int32)) else (if ¬ x1 = 0 then (if ¬ x1 = (1 : Int32) then (1 : Int32) else x2) else (0 : Int32)))
theorem xv_r_made (d : Nat) (hd : 0 ≤ d) (x0 : Int32) (x1 : Int32) (x2 : Int32) (x3 : Int32) (σ : jx_S) : jE d 188 0 [(0, .int x0), (1, .int x1), (2, .int x2), (3, .int x3)] [] σ (some (.int (v_r_made x0 x1 x2 x3 σ)), σ) := by
  unfold v_r_made
  refine jE_blk (bs := [(.iload_n 0, 0, 0), (.bipush (6), 6, 0)]) (i := .if_icmp .ge (22)) (a1 := 0) (a2 := 0) (pc1 := 3) (l1 := [(0, .int x0), (1, .int x1), (2, .int x2), (3, .int x3)]) (st1 := [.int (6 : Int32), .int x0]) (σ1 := σ) (by decide +kernel) rfl (fun hC => ?_)
  rcases Classical.em ((6 : Int32) ≤ x0) with hc | hc
  · rw [if_pos hc]
    refine jE_icT 25 hC (by decide) hc ?_
    refine jE_blk (bs := [(.iload_n 1, 0, 0)]) (i := .ifCond .ne (7)) (a1 := 0) (a2 := 0) (pc1 := 26) (l1 := [(0, .int x0), (1, .int x1), (2, .int x2), (3, .int x3)]) (st1 := [.int x1]) (σ1 := σ) (by decide +kernel) rfl (fun hC => ?_)
    rcases Classical.em (¬ x1 = 0) with hc | hc
    · rw [if_pos hc]
      refine jE_ifT 33 hC (by decide) hc ?_
      refine jE_blk (bs := [(.iload_n 1, 0, 0), (.iconst (1), 1, 0)]) (i := .if_icmp .ne (9)) (a1 := 0) (a2 := 0) (pc1 := 35) (l1 := [(0, .int x0), (1, .int x1), (2, .int x2), (3, .int x3)]) (st1 := [.int (1 : Int32), .int x1]) (σ1 := σ) (by decide +kernel) rfl (fun hC => ?_)
      rcases Classical.em (¬ x1 = (1 : Int32)) with hc | hc
      · rw [if_pos hc]
        refine jE_icT 44 hC (by decide) hc ?_
        refine jE_blk (bs := [(.iload_n 1, 0, 0), (.iconst (2), 2, 0)]) (i := .if_icmp .ne (7)) (a1 := 0) (a2 := 0) (pc1 := 46) (l1 := [(0, .int x0), (1, .int x1), (2, .int x2), (3, .int x3)]) (st1 := [.int (2 : Int32), .int x1]) (σ1 := σ) (by decide +kernel) rfl (fun hC => ?_)
        rcases Classical.em (¬ x1 = (2 : Int32)) with hc | hc
        · rw [if_pos hc]
          refine jE_icT 53 hC (by decide) hc ?_
          refine jE_blk (bs := [(.iload_n 1, 0, 0), (.iconst (3), 3, 0)]) (i := .if_icmp .ne (7)) (a1 := 0) (a2 := 0) (pc1 := 55) (l1 := [(0, .int x0), (1, .int x1), (2, .int x2), (3, .int x3)]) (st1 := [.int (3 : Int32), .int x1]) (σ1 := σ) (by decide +kernel) rfl (fun hC => ?_)
          rcases Classical.em (¬ x1 = (3 : Int32)) with hc | hc
          · rw [if_pos hc]
            refine jE_icT 62 hC (by decide) hc ?_
            refine jE_blk (bs := [(.iload_n 1, 0, 0), (.iconst (4), 4, 0)]) (i := .if_icmp .ne (9)) (a1 := 0) (a2 := 0) (pc1 := 64) (l1 := [(0, .int x0), (1, .int x1), (2, .int x2), (3, .int x3)]) (st1 := [.int (4 : Int32), .int x1]) (σ1 := σ) (by decide +kernel) rfl (fun hC => ?_)
            rcases Classical.em (¬ x1 = (4 : Int32)) with hc | hc
            · rw [if_pos hc]
              refine jE_icT 73 hC (by decide) hc ?_
              refine jE_blk (bs := [(.iconst (1), 1, 0)]) (i := .ireturn) (a1 := 0) (a2 := 0) (pc1 := 74) (l1 := [(0, .int x0), (1, .int x1), (2, .int x2), (3, .int x3)]) (st1 := [.int (1 : Int32)]) (σ1 := σ) (by decide +kernel) rfl (fun hC => ?_)
              exact jE_ret hC rfl
            · rw [if_neg hc]
              refine jE_icF 73 hC (by decide) hc ?_
              refine jE_blk (bs := [(.iload_n 2, 0, 0), (.iload_n 3, 0, 0), (.ior, 0, 0), (.goto (4), 0, 0)]) (i := .ireturn) (a1 := 0) (a2 := 0) (pc1 := 74) (l1 := [(0, .int x0), (1, .int x1), (2, .int x2), (3, .int x3)]) (st1 := [.int (x2 ||| x3)]) (σ1 := σ) (by decide +kernel) rfl (fun hC => ?_)
              exact jE_ret hC rfl
          · rw [if_neg hc]
            refine jE_icF 62 hC (by decide) hc ?_
            refine jE_blk (bs := [(.iload_n 3, 0, 0), (.goto (15), 0, 0)]) (i := .ireturn) (a1 := 0) (a2 := 0) (pc1 := 74) (l1 := [(0, .int x0), (1, .int x1), (2, .int x2), (3, .int x3)]) (st1 := [.int x3]) (σ1 := σ) (by decide +kernel) rfl (fun hC => ?_)
            exact jE_ret hC rfl
        · rw [if_neg hc]
          refine jE_icF 53 hC (by decide) hc ?_
          refine jE_blk (bs := [(.iload_n 2, 0, 0), (.goto (24), 0, 0)]) (i := .ireturn) (a1 := 0) (a2 := 0) (pc1 := 74) (l1 := [(0, .int x0), (1, .int x1), (2, .int x2), (3, .int x3)]) (st1 := [.int x2]) (σ1 := σ) (by decide +kernel) rfl (fun hC => ?_)
          exact jE_ret hC rfl
      · rw [if_neg hc]
        refine jE_icF 44 hC (by decide) hc ?_
        refine jE_blk (bs := [(.iload_n 2, 0, 0), (.iload_n 3, 0, 0), (.iand, 0, 0), (.goto (33), 0, 0)]) (i := .ireturn) (a1 := 0) (a2 := 0) (pc1 := 74) (l1 := [(0, .int x0), (1, .int x1), (2, .int x2), (3, .int x3)]) (st1 := [.int (x2 &&& x3)]) (σ1 := σ) (by decide +kernel) rfl (fun hC => ?_)
        exact jE_ret hC rfl
    · rw [if_neg hc]
      refine jE_ifF 33 hC (by decide) hc ?_
      refine jE_blk (bs := [(.iconst (0), 0, 0), (.goto (44), 0, 0)]) (i := .ireturn) (a1 := 0) (a2 := 0) (pc1 := 74) (l1 := [(0, .int x0), (1, .int x1), (2, .int x2), (3, .int x3)]) (st1 := [.int (0 : Int32)]) (σ1 := σ) (by decide +kernel) rfl (fun hC => ?_)
      exact jE_ret hC rfl
  · rw [if_neg hc]
    refine jE_icF 25 hC (by decide) hc ?_
    refine jE_blk (bs := [(.iload_n 1, 0, 0)]) (i := .ifCond .ne (7)) (a1 := 0) (a2 := 0) (pc1 := 7) (l1 := [(0, .int x0), (1, .int x1), (2, .int x2), (3, .int x3)]) (st1 := [.int x1]) (σ1 := σ) (by decide +kernel) rfl (fun hC => ?_)
    rcases Classical.em (¬ x1 = 0) with hc | hc
    · rw [if_pos hc]
      refine jE_ifT 14 hC (by decide) hc ?_
      refine jE_blk (bs := [(.iload_n 1, 0, 0), (.iconst (1), 1, 0)]) (i := .if_icmp .ne (7)) (a1 := 0) (a2 := 0) (pc1 := 16) (l1 := [(0, .int x0), (1, .int x1), (2, .int x2), (3, .int x3)]) (st1 := [.int (1 : Int32), .int x1]) (σ1 := σ) (by decide +kernel) rfl (fun hC => ?_)
      rcases Classical.em (¬ x1 = (1 : Int32)) with hc | hc
      · rw [if_pos hc]
        refine jE_icT 23 hC (by decide) hc ?_
        refine jE_blk (bs := [(.iconst (1), 1, 0)]) (i := .ireturn) (a1 := 0) (a2 := 0) (pc1 := 24) (l1 := [(0, .int x0), (1, .int x1), (2, .int x2), (3, .int x3)]) (st1 := [.int (1 : Int32)]) (σ1 := σ) (by decide +kernel) rfl (fun hC => ?_)
        exact jE_ret hC rfl
      · rw [if_neg hc]
        refine jE_icF 23 hC (by decide) hc ?_
        refine jE_blk (bs := [(.iload_n 2, 0, 0), (.goto (4), 0, 0)]) (i := .ireturn) (a1 := 0) (a2 := 0) (pc1 := 24) (l1 := [(0, .int x0), (1, .int x1), (2, .int x2), (3, .int x3)]) (st1 := [.int x2]) (σ1 := σ) (by decide +kernel) rfl (fun hC => ?_)
        exact jE_ret hC rfl
    · rw [if_neg hc]
      refine jE_ifF 14 hC (by decide) hc ?_
      refine jE_blk (bs := [(.iconst (0), 0, 0), (.goto (13), 0, 0)]) (i := .ireturn) (a1 := 0) (a2 := 0) (pc1 := 24) (l1 := [(0, .int x0), (1, .int x1), (2, .int x2), (3, .int x3)]) (st1 := [.int (0 : Int32)]) (σ1 := σ) (by decide +kernel) rfl (fun hC => ?_)
      exact jE_ret hC rfl
def v_r_shapeOne (x0 : Int32) (x1 : Int32) (σ : jx_S) : Int32 := (if ¬ x0 = (1 : Int32) then x1 else (2 : Int32))
theorem xv_r_shapeOne (d : Nat) (hd : 0 ≤ d) (x0 : Int32) (x1 : Int32) (σ : jx_S) : jE d 189 0 [(0, .int x0), (1, .int x1)] [] σ (some (.int (v_r_shapeOne x0 x1 σ)), σ) := by
  unfold v_r_shapeOne
  refine jE_blk (bs := [(.iload_n 0, 0, 0), (.iconst (1), 1, 0)]) (i := .if_icmp .ne (7)) (a1 := 0) (a2 := 0) (pc1 := 2) (l1 := [(0, .int x0), (1, .int x1)]) (st1 := [.int (1 : Int32), .int x0]) (σ1 := σ) (by decide +kernel) rfl (fun hC => ?_)
  rcases Classical.em (¬ x0 = (1 : Int32)) with hc | hc
  · rw [if_pos hc]
    refine jE_icT 9 hC (by decide) hc ?_
    refine jE_blk (bs := [(.iload_n 1, 0, 0)]) (i := .ireturn) (a1 := 0) (a2 := 0) (pc1 := 10) (l1 := [(0, .int x0), (1, .int x1)]) (st1 := [.int x1]) (σ1 := σ) (by decide +kernel) rfl (fun hC => ?_)
    exact jE_ret hC rfl
  · rw [if_neg hc]
    refine jE_icF 9 hC (by decide) hc ?_
    refine jE_blk (bs := [(.iconst (2), 2, 0), (.goto (4), 0, 0)]) (i := .ireturn) (a1 := 0) (a2 := 0) (pc1 := 10) (l1 := [(0, .int x0), (1, .int x1)]) (st1 := [.int (2 : Int32)]) (σ1 := σ) (by decide +kernel) rfl (fun hC => ?_)
    exact jE_ret hC rfl
def v_r_shapeTwo (x0 : Int32) (x1 : Int32) (x2 : Int32) (x3 : Int32) (σ : jx_S) : Int32 := (if ¬ x0 = (1 : Int32) then (if ¬ x3 = 0 then (if ¬ x2 = (1 : Int32) then (if ¬ x1 = (1 : Int32) then (1 : Int32) else (3 : Int32)) else (if ¬ x1 = (1 : Int32) then (2 : Int32) else (4 : Int32))) else (0 : Int32)) else (5 : Int32))
theorem xv_r_shapeTwo (d : Nat) (hd : 0 ≤ d) (x0 : Int32) (x1 : Int32) (x2 : Int32) (x3 : Int32) (σ : jx_S) : jE d 190 0 [(0, .int x0), (1, .int x1), (2, .int x2), (3, .int x3)] [] σ (some (.int (v_r_shapeTwo x0 x1 x2 x3 σ)), σ) := by
  unfold v_r_shapeTwo
  refine jE_blk (bs := [(.iload_n 0, 0, 0), (.iconst (1), 1, 0)]) (i := .if_icmp .ne (7)) (a1 := 0) (a2 := 0) (pc1 := 2) (l1 := [(0, .int x0), (1, .int x1), (2, .int x2), (3, .int x3)]) (st1 := [.int (1 : Int32), .int x0]) (σ1 := σ) (by decide +kernel) rfl (fun hC => ?_)
  rcases Classical.em (¬ x0 = (1 : Int32)) with hc | hc
  · rw [if_pos hc]
    refine jE_icT 9 hC (by decide) hc ?_
    refine jE_blk (bs := [(.iload_n 3, 0, 0)]) (i := .ifCond .ne (7)) (a1 := 0) (a2 := 0) (pc1 := 10) (l1 := [(0, .int x0), (1, .int x1), (2, .int x2), (3, .int x3)]) (st1 := [.int x3]) (σ1 := σ) (by decide +kernel) rfl (fun hC => ?_)
    rcases Classical.em (¬ x3 = 0) with hc | hc
    · rw [if_pos hc]
      refine jE_ifT 17 hC (by decide) hc ?_
      refine jE_blk (bs := [(.iload_n 2, 0, 0), (.iconst (1), 1, 0)]) (i := .if_icmp .ne (16)) (a1 := 0) (a2 := 0) (pc1 := 19) (l1 := [(0, .int x0), (1, .int x1), (2, .int x2), (3, .int x3)]) (st1 := [.int (1 : Int32), .int x2]) (σ1 := σ) (by decide +kernel) rfl (fun hC => ?_)
      rcases Classical.em (¬ x2 = (1 : Int32)) with hc | hc
      · rw [if_pos hc]
        refine jE_icT 35 hC (by decide) hc ?_
        refine jE_blk (bs := [(.iload_n 1, 0, 0), (.iconst (1), 1, 0)]) (i := .if_icmp .ne (7)) (a1 := 0) (a2 := 0) (pc1 := 37) (l1 := [(0, .int x0), (1, .int x1), (2, .int x2), (3, .int x3)]) (st1 := [.int (1 : Int32), .int x1]) (σ1 := σ) (by decide +kernel) rfl (fun hC => ?_)
        rcases Classical.em (¬ x1 = (1 : Int32)) with hc | hc
        · rw [if_pos hc]
          refine jE_icT 44 hC (by decide) hc ?_
          refine jE_blk (bs := [(.iconst (1), 1, 0)]) (i := .ireturn) (a1 := 0) (a2 := 0) (pc1 := 45) (l1 := [(0, .int x0), (1, .int x1), (2, .int x2), (3, .int x3)]) (st1 := [.int (1 : Int32)]) (σ1 := σ) (by decide +kernel) rfl (fun hC => ?_)
          exact jE_ret hC rfl
        · rw [if_neg hc]
          refine jE_icF 44 hC (by decide) hc ?_
          refine jE_blk (bs := [(.iconst (3), 3, 0), (.goto (4), 0, 0)]) (i := .ireturn) (a1 := 0) (a2 := 0) (pc1 := 45) (l1 := [(0, .int x0), (1, .int x1), (2, .int x2), (3, .int x3)]) (st1 := [.int (3 : Int32)]) (σ1 := σ) (by decide +kernel) rfl (fun hC => ?_)
          exact jE_ret hC rfl
      · rw [if_neg hc]
        refine jE_icF 35 hC (by decide) hc ?_
        refine jE_blk (bs := [(.iload_n 1, 0, 0), (.iconst (1), 1, 0)]) (i := .if_icmp .ne (7)) (a1 := 0) (a2 := 0) (pc1 := 24) (l1 := [(0, .int x0), (1, .int x1), (2, .int x2), (3, .int x3)]) (st1 := [.int (1 : Int32), .int x1]) (σ1 := σ) (by decide +kernel) rfl (fun hC => ?_)
        rcases Classical.em (¬ x1 = (1 : Int32)) with hc | hc
        · rw [if_pos hc]
          refine jE_icT 31 hC (by decide) hc ?_
          refine jE_blk (bs := [(.iconst (2), 2, 0), (.goto (13), 0, 0)]) (i := .ireturn) (a1 := 0) (a2 := 0) (pc1 := 45) (l1 := [(0, .int x0), (1, .int x1), (2, .int x2), (3, .int x3)]) (st1 := [.int (2 : Int32)]) (σ1 := σ) (by decide +kernel) rfl (fun hC => ?_)
          exact jE_ret hC rfl
        · rw [if_neg hc]
          refine jE_icF 31 hC (by decide) hc ?_
          refine jE_blk (bs := [(.iconst (4), 4, 0), (.goto (17), 0, 0)]) (i := .ireturn) (a1 := 0) (a2 := 0) (pc1 := 45) (l1 := [(0, .int x0), (1, .int x1), (2, .int x2), (3, .int x3)]) (st1 := [.int (4 : Int32)]) (σ1 := σ) (by decide +kernel) rfl (fun hC => ?_)
          exact jE_ret hC rfl
    · rw [if_neg hc]
      refine jE_ifF 17 hC (by decide) hc ?_
      refine jE_blk (bs := [(.iconst (0), 0, 0), (.goto (31), 0, 0)]) (i := .ireturn) (a1 := 0) (a2 := 0) (pc1 := 45) (l1 := [(0, .int x0), (1, .int x1), (2, .int x2), (3, .int x3)]) (st1 := [.int (0 : Int32)]) (σ1 := σ) (by decide +kernel) rfl (fun hC => ?_)
      exact jE_ret hC rfl
  · rw [if_neg hc]
    refine jE_icF 9 hC (by decide) hc ?_
    refine jE_blk (bs := [(.iconst (5), 5, 0), (.goto (39), 0, 0)]) (i := .ireturn) (a1 := 0) (a2 := 0) (pc1 := 45) (l1 := [(0, .int x0), (1, .int x1), (2, .int x2), (3, .int x3)]) (st1 := [.int (5 : Int32)]) (σ1 := σ) (by decide +kernel) rfl (fun hC => ?_)
    exact jE_ret hC rfl
def v_r_noFunction (x1 : Int32) (σ : jx_S) : Int32 := (if x1 < 0 then (1 : Int32) else (if x1 < (σ.1 106 38) then (0 : Int32) else (1 : Int32)))
theorem xv_r_noFunction (d : Nat) (hd : 0 ≤ d) (x1 : Int32) (σ : jx_S) : jE d 202 0 [(0, .ref 106), (1, .int x1)] [] σ (some (.int (v_r_noFunction x1 σ)), σ) := by
  unfold v_r_noFunction
  refine jE_blk (bs := [(.iload_n 1, 0, 0)]) (i := .ifCond .lt (11)) (a1 := 0) (a2 := 0) (pc1 := 1) (l1 := [(0, .ref 106), (1, .int x1)]) (st1 := [.int x1]) (σ1 := σ) (by decide +kernel) rfl (fun hC => ?_)
  rcases Classical.em (x1 < 0) with hc | hc
  · rw [if_pos hc]
    refine jE_ifT 12 hC (by decide) hc ?_
    refine jE_blk (bs := [(.iconst (1), 1, 0), (.goto (4), 0, 0)]) (i := .ireturn) (a1 := 1) (a2 := 0) (pc1 := 17) (l1 := [(0, .ref 106), (1, .int x1)]) (st1 := [.int (1 : Int32)]) (σ1 := σ) (by decide +kernel) rfl (fun hC => ?_)
    exact jE_ret hC rfl
  · rw [if_neg hc]
    refine jE_ifF 12 hC (by decide) hc ?_
    refine jE_blk (bs := [(.iload_n 1, 0, 0), (.aload_n 0, 0, 0), (.getfield 219, 12, 38)]) (i := .if_icmp .lt (7)) (a1 := 0) (a2 := 0) (pc1 := 9) (l1 := [(0, .ref 106), (1, .int x1)]) (st1 := [.int (σ.1 106 38), .int x1]) (σ1 := σ) (by decide +kernel) rfl (fun hC => ?_)
    rcases Classical.em (x1 < (σ.1 106 38)) with hc | hc
    · rw [if_pos hc]
      refine jE_icT 16 hC (by decide) hc ?_
      refine jE_blk (bs := [(.iconst (0), 0, 0)]) (i := .ireturn) (a1 := 1) (a2 := 0) (pc1 := 17) (l1 := [(0, .ref 106), (1, .int x1)]) (st1 := [.int (0 : Int32)]) (σ1 := σ) (by decide +kernel) rfl (fun hC => ?_)
      exact jE_ret hC rfl
    · rw [if_neg hc]
      refine jE_icF 16 hC (by decide) hc ?_
      refine jE_blk (bs := [(.iconst (1), 1, 0), (.goto (4), 0, 0)]) (i := .ireturn) (a1 := 1) (a2 := 0) (pc1 := 17) (l1 := [(0, .ref 106), (1, .int x1)]) (st1 := [.int (1 : Int32)]) (σ1 := σ) (by decide +kernel) rfl (fun hC => ?_)
      exact jE_ret hC rfl
def v_r_tagged (x0 : Int64) (x2 : Int32) (σ : jx_S) : Int64 := ((x0 <<< (((32 : Int32)).toInt64 &&& 63)) ||| ((x2).toInt64 &&& (4294967295 : Int64)))
theorem xv_r_tagged (d : Nat) (hd : 0 ≤ d) (x0 : Int64) (x2 : Int32) (σ : jx_S) : jE d 209 0 [(0, .long x0), (2, .int x2)] [] σ (some (.long (v_r_tagged x0 x2 σ)), σ) := by
  unfold v_r_tagged
  refine jE_blk (bs := [(.lload_n 0, 0, 0), (.bipush (32), 32, 0), (.lshl, 0, 0), (.iload_n 2, 0, 0), (.i2l, 0, 0), (.ldc2_w 524, 4294967295, 0), (.land, 0, 0), (.lor, 0, 0)]) (i := .lreturn) (a1 := 0) (a2 := 0) (pc1 := 11) (l1 := [(0, .long x0), (2, .int x2)]) (st1 := [.long ((x0 <<< (((32 : Int32)).toInt64 &&& 63)) ||| ((x2).toInt64 &&& (4294967295 : Int64)))]) (σ1 := σ) (by decide +kernel) rfl (fun hC => ?_)
  exact jE_ret hC rfl
def v_r_tagOf (x0 : Int64) (σ : jx_S) : Int32 := ((x0 >>> (((32 : Int32)).toInt64 &&& 63))).toInt32
theorem xv_r_tagOf (d : Nat) (hd : 0 ≤ d) (x0 : Int64) (σ : jx_S) : jE d 210 0 [(0, .long x0)] [] σ (some (.int (v_r_tagOf x0 σ)), σ) := by
  unfold v_r_tagOf
  refine jE_blk (bs := [(.lload_n 0, 0, 0), (.bipush (32), 32, 0), (.lshr, 0, 0), (.l2i, 0, 0)]) (i := .ireturn) (a1 := 0) (a2 := 0) (pc1 := 5) (l1 := [(0, .long x0)]) (st1 := [.int ((x0 >>> (((32 : Int32)).toInt64 &&& 63))).toInt32]) (σ1 := σ) (by decide +kernel) rfl (fun hC => ?_)
  exact jE_ret hC rfl
