/-! switches -/
def jx_ne (x : Int32) : List Int32 → Prop
  | [] => True
  | k :: ks => ¬ x = k ∧ jx_ne x ks
theorem jx_ne_use {x : Int32} {ks : List Int32} (h : jx_ne x ks) : ∀ k ∈ ks, ¬ x = k := by
  induction ks with
  | nil => intro k hk; cases hk
  | cons a ks ih =>
    intro k hk
    rcases List.mem_cons.mp hk with rfl | hk
    · exact h.1
    · exact ih h.2 k hk
def jx_tof (dflt lo hi : Int) (offs : Array Int) (v : Int) : Option Int := if v < lo ∨ hi < v then some dflt else offs[(v - lo).toNat]?
theorem jx_goT {pc tgt : Nat} {off : Int} {l : jx_L} {st : List Value} {σ : jx_S} (ht : (pc : Int) + off = (tgt : Int)) : jx_go pc off l st σ = jx_nx tgt l st σ := by
  unfold jx_go
  rw [if_neg (by omega)]
  rw [show ((pc : Int) + off).toNat = tgt by omega]
theorem jx_ts_of {pc tgt : Nat} {dflt lo hi off : Int} {offs : Array Int} {a1 a2 : Nat} {x : Int32} {l : jx_L} {st : List Value} {σ : jx_S} (h : jx_tof dflt lo hi offs x.toInt = some off) (ht : (pc : Int) + off = (tgt : Int)) : jx_step jt_O jt_N jt_M (.tableswitch dflt lo hi offs) a1 a2 pc l (.int x :: st) σ = jx_nx tgt l st σ := by
  show (if x.toInt < lo ∨ hi < x.toInt then jx_go pc dflt l st σ else (match offs[(x.toInt - lo).toNat]? with
    | some off => jx_go pc off l st σ
    | none => none)) = _
  unfold jx_tof at h
  by_cases hc : x.toInt < lo ∨ hi < x.toInt
  · rw [if_pos hc] at h ⊢
    cases h
    exact jx_goT ht
  · rw [if_neg hc] at h ⊢
    rw [h]
    exact jx_goT ht
theorem jE_tsw {d mi pc a1 a2 : Nat} (tgt : Nat) (key : Int32) {dflt lo hi : Int} {offs : Array Int} {x : Int32} {l : jx_L} {st : List Value} {σ : jx_S} {r : Option Value × jx_S} (hC : jt_C mi pc = some (.tableswitch dflt lo hi offs, a1, a2)) (hx : x = key) (ht : jx_tof dflt lo hi offs key.toInt = some ((tgt : Int) - (pc : Int))) (k : jE d mi tgt l st σ r) : jE d mi pc l (.int x :: st) σ r := by
  subst hx
  exact jE_step hC (jx_ts_of ht (by omega)) k
def jx_tdf (dflt lo hi : Int) (offs : Array Int) (ks : List Int32) : Bool := (List.range (hi - lo + 1).toNat).all fun j => (ks.any fun k => decide (k.toInt = lo + j)) || decide (offs[j]? = some dflt)
theorem jE_tswD {d mi pc a1 a2 : Nat} (tgt : Nat) (ks : List Int32) {dflt lo hi : Int} {offs : Array Int} {x : Int32} {l : jx_L} {st : List Value} {σ : jx_S} {r : Option Value × jx_S} (hC : jt_C mi pc = some (.tableswitch dflt lo hi offs, a1, a2)) (ht : jx_tdf dflt lo hi offs ks = true ∧ (pc : Int) + dflt = (tgt : Int)) (hx : jx_ne x ks) (k : jE d mi tgt l st σ r) : jE d mi pc l (.int x :: st) σ r := by
  refine jE_step hC (jx_ts_of (off := dflt) ?_ ht.2) k
  unfold jx_tof
  by_cases hc : x.toInt < lo ∨ hi < x.toInt
  · rw [if_pos hc]
  · rw [if_neg hc]
    have h1 := List.all_eq_true.mp ht.1 (x.toInt - lo).toNat (List.mem_range.mpr (by omega))
    rw [Bool.or_eq_true] at h1
    rcases h1 with h1 | h1
    · exfalso
      obtain ⟨k, hk, e⟩ := List.any_eq_true.mp h1
      have e := of_decide_eq_true e
      refine jx_ne_use hx k hk (Int32.toInt_inj.mp ?_)
      omega
    · exact of_decide_eq_true h1
theorem jE_lsw {d mi pc a1 a2 : Nat} (tgt : Nat) (key : Int32) {dflt : Int} {ps : Array (Int × Int)} {x : Int32} {l : jx_L} {st : List Value} {σ : jx_S} {r : Option Value × jx_S} (hC : jt_C mi pc = some (.lookupswitch dflt ps, a1, a2)) (hx : x = key) (ht : (ps.toList.zip (ps.toList.drop 1)).all (fun (a, next) => a.1 < next.1) = true ∧ (pc : Int) + Op.lookupswitch.offset ps.toList dflt key.toInt = (tgt : Int)) (k : jE d mi tgt l st σ r) : jE d mi pc l (.int x :: st) σ r := by
  subst hx
  exact jE_step hC ((if_pos ht.1).trans (jx_goT ht.2)) k
theorem jx_lof {ks : List Int32} {x : Int32} (hx : jx_ne x ks) {dflt : Int} : ∀ (ps : List (Int × Int)), ps.all (fun q => (ks.any fun k => decide (k.toInt = q.1)) || decide (q.2 = dflt)) = true → Op.lookupswitch.offset ps dflt x.toInt = dflt := by
  intro ps
  induction ps with
  | nil => intro _; rfl
  | cons q ps ih =>
    intro h
    rw [List.all_cons, Bool.and_eq_true] at h
    obtain ⟨a, o⟩ := q
    rw [Op.lookupswitch.offset_cons]
    by_cases e : a = x.toInt
    · rw [if_pos e]
      have h1 := h.1
      rw [Bool.or_eq_true] at h1
      rcases h1 with h1 | h1
      · exfalso
        obtain ⟨k, hk, e2⟩ := List.any_eq_true.mp h1
        have e2 := of_decide_eq_true e2
        exact jx_ne_use hx k hk (Int32.toInt_inj.mp (by rw [e2]; exact e.symm))
      · exact of_decide_eq_true h1
    · rw [if_neg e]
      exact ih h.2
theorem jE_lswD {d mi pc a1 a2 : Nat} (tgt : Nat) (ks : List Int32) {dflt : Int} {ps : Array (Int × Int)} {x : Int32} {l : jx_L} {st : List Value} {σ : jx_S} {r : Option Value × jx_S} (hC : jt_C mi pc = some (.lookupswitch dflt ps, a1, a2)) (ht : ((ps.toList.zip (ps.toList.drop 1)).all (fun (a, next) => a.1 < next.1) = true ∧ ps.toList.all (fun q => (ks.any fun k => decide (k.toInt = q.1)) || decide (q.2 = dflt)) = true) ∧ (pc : Int) + dflt = (tgt : Int)) (hx : jx_ne x ks) (k : jE d mi tgt l st σ r) : jE d mi pc l (.int x :: st) σ r := by
  refine jE_step hC ((if_pos ht.1.1).trans ?_) k
  rw [jx_lof hx ps.toList ht.1.2]
  exact jx_goT ht.2
/-! booleans -/
theorem jE_bret {d mi pc a2 : Nat} {x : Int32} {l : jx_L} {σ : jx_S} (hC : jt_C mi pc = some (.ireturn, 1, a2)) (hb : x = 0 ∨ x = 1) : jE d mi pc l [.int x] σ (some (.int x), σ) := by
  refine jE_ret hC ?_
  show jx_irt 1 [.int x] = _
  unfold jx_irt
  dsimp only
  rw [if_neg (by decide), if_pos hb]
theorem jE_putz {d mi pc ix ci j k : Nat} {kds : List Nat} {x : Int32} {l : jx_L} {st : List Value} {σ : jx_S} {r : Option Value × jx_S} (hC : jt_C mi pc = some (.putfield ix, ci, j)) (hk : k < jt_N) (ho : jt_O k = .inl (ci, kds)) (hj : kds[j]? = some 2) (hb : x = 0 ∨ x = 1) (kk : jE d mi (pc + 3) l st (jx_i σ k j x) r) : jE d mi pc l (.int x :: .ref k :: st) σ r := by
  refine jE_step hC ?_ kk
  show jx_ob jt_O jt_N k ci j _ = _
  unfold jx_ob
  rw [if_pos hk, ho]
  dsimp only
  rw [if_pos rfl, hj]
  dsimp only
  rw [if_neg (by decide), if_pos rfl, if_pos hb]
/-! loops -/
def jx_loop {α β : Type} : Nat → (α → Option (α ⊕ β)) → α → Option β
  | 0, _, _ => none
  | n + 1, f, s => match f s with
    | none => none
    | some (.inl s1) => jx_loop n f s1
    | some (.inr b) => some b
theorem jx_loop_ok {α β : Type} {f : α → Option (α ⊕ β)} {E : α → β → Prop} (hs : ∀ s t, f s = some t → (match t with
    | .inl s1 => ∀ b, E s1 b → E s b
    | .inr b => E s b)) : ∀ n s b, jx_loop n f s = some b → E s b := by
  intro n
  induction n with
  | zero => intro s b h; cases h
  | succ n ih =>
    intro s b h
    rw [jx_loop] at h
    split at h
    · cases h
    · rename_i s1 e
      exact hs s _ e b (ih s1 b h)
    · rename_i b1 e
      cases h
      exact hs s _ e
def kkV (t : jx_S) (res : Option Value × jx_S) : Prop := (none, t) = res
def kkI (t : Int32 × jx_S) (res : Option Value × jx_S) : Prop := (some (.int t.1), t.2) = res
def kkJ (t : Int64 × jx_S) (res : Option Value × jx_S) : Prop := (some (.long t.1), t.2) = res
/-! the rows whose index is always tested -/
def jI_at (n : Nat) (f : Nat → Int32) (i : Int32) : Int32 := if i < 0 then 0 else if Int32.ofNat n ≤ i then 0 else f i.toNatClampNeg
def jL_at (n : Nat) (f : Nat → Int64) (i : Int32) : Int64 := if i < 0 then 0 else if Int32.ofNat n ≤ i then 0 else f i.toNatClampNeg
def jI_up (n : Nat) (f : Nat → Int32) (i v : Int32) : Nat → Int32 := fun j => if i < 0 then f j else if Int32.ofNat n ≤ i then f j else if j = i.toNatClampNeg then v else f j
def jL_up (n : Nat) (f : Nat → Int64) (i : Int32) (v : Int64) : Nat → Int64 := fun j => if i < 0 then f j else if Int32.ofNat n ≤ i then f j else if j = i.toNatClampNeg then v else f j
def jI_put (n : Nat) (σ : jx_S) (a : Nat) (i v : Int32) : jx_S := (fun k => if k = a then jI_up n (σ.1 a) i v else σ.1 k, σ.2)
def jL_put (n : Nat) (σ : jx_S) (a : Nat) (i : Int32) (v : Int64) : jx_S := (σ.1, fun k => if k = a then jL_up n (σ.2 a) i v else σ.2 k)
def jI_clr (n : Nat) (σ : jx_S) (a : Nat) : jx_S := (fun k => if k = a then (fun j => if j < n then 0 else σ.1 a j) else σ.1 k, σ.2)
theorem jI_bound {n : Nat} {i : Int32} (hn : n < 2 ^ 31) (h1 : ¬ i < 0) (h2 : ¬ Int32.ofNat n ≤ i) : ¬ (i < 0 ∨ n ≤ i.toNatClampNeg) := by
  rintro (h | h)
  · exact h1 h
  · obtain ⟨j, hj, rfl⟩ := nI_of h1
    rw [nI_clamp hj] at h
    exact h2 (nI_le h hj)
theorem jE_row {d mi pc ix ci k : Nat} {l : jx_L} {st : List Value} {σ : jx_S} {r : Option Value × jx_S} (hC : jt_C mi pc = some (.getfield ix, ci, 0)) (hk : k + 1 < jt_N) (ho : jt_O k = .inl (ci, [k + 4])) (kk : jE d mi (pc + 3) l (.ref (k + 1) :: st) σ r) : jE d mi pc l (.ref k :: st) σ r := by
  refine jE_step hC ?_ kk
  show jx_ob jt_O jt_N k ci 0 _ = _
  unfold jx_ob
  rw [if_pos (by omega), ho]
  dsimp only
  rw [if_pos rfl]
  rfl
theorem jE_alen {d mi pc a1 a2 k t n : Nat} {l : jx_L} {st : List Value} {σ : jx_S} {r : Option Value × jx_S} (hC : jt_C mi pc = some (.arraylength, a1, a2)) (hk : k < jt_N) (ho : jt_O k = .inr (t, n)) (ht : t < 3) (kk : jE d mi (pc + 1) l (.int (Int32.ofNat n) :: st) σ r) : jE d mi pc l (.ref k :: st) σ r := by
  refine jE_step hC ?_ kk
  show jx_aln jt_O jt_N k _ = _
  unfold jx_aln
  rw [if_pos hk, ho]
  dsimp only
  rw [if_pos ht]
theorem xI_at (d k n : Nat) (i : Int32) (σ : jx_S) (hk : k + 1 < jt_N ∧ n < 2 ^ 31) (ho : jt_O k = .inl (10, [k + 4])) (ha : jt_O (k + 1) = .inr (0, n)) : jE d 136 0 [(0, .ref k), (1, .int i)] [] σ (some (.int (jI_at n (σ.1 (k + 1)) i)), σ) := by
  refine jE_blk (bs := [(.iload_n 1, 0, 0)]) (i := .ifCond .lt (21)) (a1 := 0) (a2 := 0) (pc1 := 1) (l1 := [(0, .ref k), (1, .int i)]) (st1 := [.int i]) (σ1 := σ) (by decide +kernel) rfl (fun hC => ?_)
  unfold jI_at
  rcases Classical.em (i < 0) with hc | hc
  · rw [if_pos hc]
    refine jE_ifT 22 hC (by decide) hc ?_
    refine jE_blk (bs := [(.iconst 0, 0, 0)]) (i := .ireturn) (a1 := 0) (a2 := 0) (pc1 := 23) (l1 := [(0, .ref k), (1, .int i)]) (st1 := [.int 0]) (σ1 := σ) (by decide +kernel) rfl (fun hC => ?_)
    exact jE_ret hC rfl
  · rw [if_neg hc]
    refine jE_ifF 22 hC (by decide) hc ?_
    refine jE_blk (bs := [(.iload_n 1, 0, 0), (.aload_n 0, 0, 0)]) (i := .getfield 7) (a1 := 10) (a2 := 0) (pc1 := 6) (l1 := [(0, .ref k), (1, .int i)]) (st1 := [.ref k, .int i]) (σ1 := σ) (by decide +kernel) rfl (fun hC => ?_)
    refine jE_row hC hk.1 ho ?_
    refine jE_blk (bs := []) (i := .arraylength) (a1 := 0) (a2 := 0) (pc1 := 9) (by decide +kernel) rfl (fun hC => ?_)
    refine jE_alen hC hk.1 ha (by decide) ?_
    refine jE_blk (bs := []) (i := .if_icmp .ge (12)) (a1 := 0) (a2 := 0) (pc1 := 10) (by decide +kernel) rfl (fun hC => ?_)
    rcases Classical.em (Int32.ofNat n ≤ i) with hd | hd
    · rw [if_pos hd]
      refine jE_icT 22 hC (by decide) hd ?_
      refine jE_blk (bs := [(.iconst 0, 0, 0)]) (i := .ireturn) (a1 := 0) (a2 := 0) (pc1 := 23) (l1 := [(0, .ref k), (1, .int i)]) (st1 := [.int 0]) (σ1 := σ) (by decide +kernel) rfl (fun hC => ?_)
      exact jE_ret hC rfl
    · rw [if_neg hd]
      refine jE_icF 22 hC (by decide) hd ?_
      refine jE_blk (bs := [(.aload_n 0, 0, 0)]) (i := .getfield 7) (a1 := 10) (a2 := 0) (pc1 := 14) (l1 := [(0, .ref k), (1, .int i)]) (st1 := [.ref k]) (σ1 := σ) (by decide +kernel) rfl (fun hC => ?_)
      refine jE_row hC hk.1 ho ?_
      refine jE_blk (bs := [(.iload_n 1, 0, 0)]) (i := .iaload) (a1 := 0) (a2 := 0) (pc1 := 18) (l1 := [(0, .ref k), (1, .int i)]) (st1 := [.int i, .ref (k + 1)]) (σ1 := σ) (by decide +kernel) rfl (fun hC => ?_)
      refine jE_iald hC hk.1 ha (jI_bound hk.2 hc hd) ?_
      refine jE_blk (bs := [(.goto (4), 0, 0)]) (i := .ireturn) (a1 := 0) (a2 := 0) (pc1 := 23) (l1 := [(0, .ref k), (1, .int i)]) (st1 := [.int (σ.1 (k + 1) i.toNatClampNeg)]) (σ1 := σ) (by decide +kernel) rfl (fun hC => ?_)
      exact jE_ret hC rfl
theorem xL_at (d k n : Nat) (i : Int32) (σ : jx_S) (hk : k + 1 < jt_N ∧ n < 2 ^ 31) (ho : jt_O k = .inl (11, [k + 4])) (ha : jt_O (k + 1) = .inr (1, n)) : jE d 140 0 [(0, .ref k), (1, .int i)] [] σ (some (.long (jL_at n (σ.2 (k + 1)) i)), σ) := by
  refine jE_blk (bs := [(.iload_n 1, 0, 0)]) (i := .ifCond .lt (21)) (a1 := 0) (a2 := 0) (pc1 := 1) (l1 := [(0, .ref k), (1, .int i)]) (st1 := [.int i]) (σ1 := σ) (by decide +kernel) rfl (fun hC => ?_)
  unfold jL_at
  rcases Classical.em (i < 0) with hc | hc
  · rw [if_pos hc]
    refine jE_ifT 22 hC (by decide) hc ?_
    refine jE_blk (bs := [(.lconst 0, 0, 0)]) (i := .lreturn) (a1 := 0) (a2 := 0) (pc1 := 23) (l1 := [(0, .ref k), (1, .int i)]) (st1 := [.long 0]) (σ1 := σ) (by decide +kernel) rfl (fun hC => ?_)
    exact jE_ret hC rfl
  · rw [if_neg hc]
    refine jE_ifF 22 hC (by decide) hc ?_
    refine jE_blk (bs := [(.iload_n 1, 0, 0), (.aload_n 0, 0, 0)]) (i := .getfield 7) (a1 := 11) (a2 := 0) (pc1 := 6) (l1 := [(0, .ref k), (1, .int i)]) (st1 := [.ref k, .int i]) (σ1 := σ) (by decide +kernel) rfl (fun hC => ?_)
    refine jE_row hC hk.1 ho ?_
    refine jE_blk (bs := []) (i := .arraylength) (a1 := 0) (a2 := 0) (pc1 := 9) (by decide +kernel) rfl (fun hC => ?_)
    refine jE_alen hC hk.1 ha (by decide) ?_
    refine jE_blk (bs := []) (i := .if_icmp .ge (12)) (a1 := 0) (a2 := 0) (pc1 := 10) (by decide +kernel) rfl (fun hC => ?_)
    rcases Classical.em (Int32.ofNat n ≤ i) with hd | hd
    · rw [if_pos hd]
      refine jE_icT 22 hC (by decide) hd ?_
      refine jE_blk (bs := [(.lconst 0, 0, 0)]) (i := .lreturn) (a1 := 0) (a2 := 0) (pc1 := 23) (l1 := [(0, .ref k), (1, .int i)]) (st1 := [.long 0]) (σ1 := σ) (by decide +kernel) rfl (fun hC => ?_)
      exact jE_ret hC rfl
    · rw [if_neg hd]
      refine jE_icF 22 hC (by decide) hd ?_
      refine jE_blk (bs := [(.aload_n 0, 0, 0)]) (i := .getfield 7) (a1 := 11) (a2 := 0) (pc1 := 14) (l1 := [(0, .ref k), (1, .int i)]) (st1 := [.ref k]) (σ1 := σ) (by decide +kernel) rfl (fun hC => ?_)
      refine jE_row hC hk.1 ho ?_
      refine jE_blk (bs := [(.iload_n 1, 0, 0)]) (i := .laload) (a1 := 0) (a2 := 0) (pc1 := 18) (l1 := [(0, .ref k), (1, .int i)]) (st1 := [.int i, .ref (k + 1)]) (σ1 := σ) (by decide +kernel) rfl (fun hC => ?_)
      refine jE_lald hC hk.1 ha (jI_bound hk.2 hc hd) ?_
      refine jE_blk (bs := [(.goto (4), 0, 0)]) (i := .lreturn) (a1 := 0) (a2 := 0) (pc1 := 23) (l1 := [(0, .ref k), (1, .int i)]) (st1 := [.long (σ.2 (k + 1) i.toNatClampNeg)]) (σ1 := σ) (by decide +kernel) rfl (fun hC => ?_)
      exact jE_ret hC rfl
theorem xI_put (d k n : Nat) (i : Int32) (v : Int32) (σ : jx_S) (hk : k + 1 < jt_N ∧ n < 2 ^ 31) (ho : jt_O k = .inl (10, [k + 4])) (ha : jt_O (k + 1) = .inr (0, n)) : jE d 137 0 [(0, .ref k), (1, .int i), (2, .int v)] [] σ (none, jI_put n σ (k + 1) i v) := by
  refine jE_blk (bs := [(.iload_n 1, 0, 0)]) (i := .ifCond .lt (19)) (a1 := 0) (a2 := 0) (pc1 := 1) (l1 := [(0, .ref k), (1, .int i), (2, .int v)]) (st1 := [.int i]) (σ1 := σ) (by decide +kernel) rfl (fun hC => ?_)
  rcases Classical.em (i < 0) with hc | hc
  · have e : jI_put n σ (k + 1) i v = σ := by
      unfold jI_put jI_up
      simp only [hc, if_true]
      refine Prod.ext ?_ ?_ <;> simp only
      funext a; split <;> simp_all
    rw [e]
    refine jE_ifT 20 hC (by decide) hc ?_
    refine jE_blk (bs := []) (i := .return_) (a1 := 0) (a2 := 0) (pc1 := 20) (by decide +kernel) rfl (fun hC => ?_)
    exact jE_ret hC rfl
  · refine jE_ifF 20 hC (by decide) hc ?_
    refine jE_blk (bs := [(.iload_n 1, 0, 0), (.aload_n 0, 0, 0)]) (i := .getfield 7) (a1 := 10) (a2 := 0) (pc1 := 6) (l1 := [(0, .ref k), (1, .int i), (2, .int v)]) (st1 := [.ref k, .int i]) (σ1 := σ) (by decide +kernel) rfl (fun hC => ?_)
    refine jE_row hC hk.1 ho ?_
    refine jE_blk (bs := []) (i := .arraylength) (a1 := 0) (a2 := 0) (pc1 := 9) (by decide +kernel) rfl (fun hC => ?_)
    refine jE_alen hC hk.1 ha (by decide) ?_
    refine jE_blk (bs := []) (i := .if_icmp .ge (10)) (a1 := 0) (a2 := 0) (pc1 := 10) (by decide +kernel) rfl (fun hC => ?_)
    rcases Classical.em (Int32.ofNat n ≤ i) with hd | hd
    · have e : jI_put n σ (k + 1) i v = σ := by
        unfold jI_put jI_up
        simp only [hc, hd, if_true, if_false]
        refine Prod.ext ?_ ?_ <;> simp only
        funext a; split <;> simp_all
      rw [e]
      refine jE_icT 20 hC (by decide) hd ?_
      refine jE_blk (bs := []) (i := .return_) (a1 := 0) (a2 := 0) (pc1 := 20) (by decide +kernel) rfl (fun hC => ?_)
      exact jE_ret hC rfl
    · have e : jI_put n σ (k + 1) i v = jx_i σ (k + 1) i.toNatClampNeg v := by
        unfold jI_put jI_up jx_i
        simp only [hc, hd, if_false]
        refine Prod.ext ?_ ?_ <;> simp only
        funext a b
        by_cases h1 : a = k + 1
        · subst h1; simp
        · simp [h1]
      rw [e]
      refine jE_icF 20 hC (by decide) hd ?_
      refine jE_blk (bs := [(.aload_n 0, 0, 0)]) (i := .getfield 7) (a1 := 10) (a2 := 0) (pc1 := 14) (l1 := [(0, .ref k), (1, .int i), (2, .int v)]) (st1 := [.ref k]) (σ1 := σ) (by decide +kernel) rfl (fun hC => ?_)
      refine jE_row hC hk.1 ho ?_
      refine jE_blk (bs := [(.iload_n 1, 0, 0), (.iload_n 2, 0, 0)]) (i := .iastore) (a1 := 0) (a2 := 0) (pc1 := 19) (l1 := [(0, .ref k), (1, .int i), (2, .int v)]) (st1 := [.int v, .int i, .ref (k + 1)]) (σ1 := σ) (by decide +kernel) rfl (fun hC => ?_)
      refine jE_iast hC hk.1 ha (jI_bound hk.2 hc hd) ?_
      refine jE_blk (bs := []) (i := .return_) (a1 := 0) (a2 := 0) (pc1 := 20) (by decide +kernel) rfl (fun hC => ?_)
      exact jE_ret hC rfl
theorem xL_put (d k n : Nat) (i : Int32) (v : Int64) (σ : jx_S) (hk : k + 1 < jt_N ∧ n < 2 ^ 31) (ho : jt_O k = .inl (11, [k + 4])) (ha : jt_O (k + 1) = .inr (1, n)) : jE d 141 0 [(0, .ref k), (1, .int i), (2, .long v)] [] σ (none, jL_put n σ (k + 1) i v) := by
  refine jE_blk (bs := [(.iload_n 1, 0, 0)]) (i := .ifCond .lt (19)) (a1 := 0) (a2 := 0) (pc1 := 1) (l1 := [(0, .ref k), (1, .int i), (2, .long v)]) (st1 := [.int i]) (σ1 := σ) (by decide +kernel) rfl (fun hC => ?_)
  rcases Classical.em (i < 0) with hc | hc
  · have e : jL_put n σ (k + 1) i v = σ := by
      unfold jL_put jL_up
      simp only [hc, if_true]
      refine Prod.ext ?_ ?_ <;> simp only
      funext a; split <;> simp_all
    rw [e]
    refine jE_ifT 20 hC (by decide) hc ?_
    refine jE_blk (bs := []) (i := .return_) (a1 := 0) (a2 := 0) (pc1 := 20) (by decide +kernel) rfl (fun hC => ?_)
    exact jE_ret hC rfl
  · refine jE_ifF 20 hC (by decide) hc ?_
    refine jE_blk (bs := [(.iload_n 1, 0, 0), (.aload_n 0, 0, 0)]) (i := .getfield 7) (a1 := 11) (a2 := 0) (pc1 := 6) (l1 := [(0, .ref k), (1, .int i), (2, .long v)]) (st1 := [.ref k, .int i]) (σ1 := σ) (by decide +kernel) rfl (fun hC => ?_)
    refine jE_row hC hk.1 ho ?_
    refine jE_blk (bs := []) (i := .arraylength) (a1 := 0) (a2 := 0) (pc1 := 9) (by decide +kernel) rfl (fun hC => ?_)
    refine jE_alen hC hk.1 ha (by decide) ?_
    refine jE_blk (bs := []) (i := .if_icmp .ge (10)) (a1 := 0) (a2 := 0) (pc1 := 10) (by decide +kernel) rfl (fun hC => ?_)
    rcases Classical.em (Int32.ofNat n ≤ i) with hd | hd
    · have e : jL_put n σ (k + 1) i v = σ := by
        unfold jL_put jL_up
        simp only [hc, hd, if_true, if_false]
        refine Prod.ext ?_ ?_ <;> simp only
        funext a; split <;> simp_all
      rw [e]
      refine jE_icT 20 hC (by decide) hd ?_
      refine jE_blk (bs := []) (i := .return_) (a1 := 0) (a2 := 0) (pc1 := 20) (by decide +kernel) rfl (fun hC => ?_)
      exact jE_ret hC rfl
    · have e : jL_put n σ (k + 1) i v = jx_l σ (k + 1) i.toNatClampNeg v := by
        unfold jL_put jL_up jx_l
        simp only [hc, hd, if_false]
        refine Prod.ext ?_ ?_ <;> simp only
        funext a b
        by_cases h1 : a = k + 1
        · subst h1; simp
        · simp [h1]
      rw [e]
      refine jE_icF 20 hC (by decide) hd ?_
      refine jE_blk (bs := [(.aload_n 0, 0, 0)]) (i := .getfield 7) (a1 := 11) (a2 := 0) (pc1 := 14) (l1 := [(0, .ref k), (1, .int i), (2, .long v)]) (st1 := [.ref k]) (σ1 := σ) (by decide +kernel) rfl (fun hC => ?_)
      refine jE_row hC hk.1 ho ?_
      refine jE_blk (bs := [(.iload_n 1, 0, 0), (.lload_n 2, 0, 0)]) (i := .lastore) (a1 := 0) (a2 := 0) (pc1 := 19) (l1 := [(0, .ref k), (1, .int i), (2, .long v)]) (st1 := [.long v, .int i, .ref (k + 1)]) (σ1 := σ) (by decide +kernel) rfl (fun hC => ?_)
      refine jE_last hC hk.1 ha (jI_bound hk.2 hc hd) ?_
      refine jE_blk (bs := []) (i := .return_) (a1 := 0) (a2 := 0) (pc1 := 20) (by decide +kernel) rfl (fun hC => ?_)
      exact jE_ret hC rfl
theorem xI_add (d k n : Nat) (i v : Int32) (σ : jx_S) (hd : 1 ≤ d) (hk : k + 1 < jt_N ∧ n < 2 ^ 31) (ho : jt_O k = .inl (10, [k + 4])) (ha : jt_O (k + 1) = .inr (0, n)) : jE d 138 0 [(0, .ref k), (1, .int i), (2, .int v)] [] σ (none, jI_put n σ (k + 1) i (jI_at n (σ.1 (k + 1)) i + v)) := by
  have hs : ∀ (pc mj : Nat) (ix : Nat) (st : List Value) (as : List Value) (st1 : List Value) (s : jx_S), (jt_M mj).1 = false → (jt_M mj).2.2.1 = 10 → st.drop (jt_M mj).2.1 = .ref k :: st1 → (st.take (jt_M mj).2.1).length = (jt_M mj).2.1 → jx_w8 st1 = true → .ref k :: (st.take (jt_M mj).2.1).reverse = as → jx_wn as ≤ (jt_M mj).2.2.2 → jx_step jt_O jt_N jt_M (.invokevirtual ix) mj 0 pc [(0, .ref k), (1, .int i), (2, .int v)] st s = some (.inr (.inr (mj, as, pc + 3, st1))) := by
    intro pc mj ix st as st1 s h1 h2 h3 h4 h5 h6 h7
    show jx_cv1 jt_O jt_N jt_M pc mj st = _
    unfold jx_cv1
    rw [if_neg (by rw [h1]; decide), h3]
    dsimp only
    rw [if_pos ⟨Nat.lt_of_succ_lt hk.1, h4, h5, by rw [h6]; exact h7⟩, ho]
    dsimp only
    rw [if_pos h2.symm, h6]
  refine jE_blk (bs := [(.aload_n 0, 0, 0), (.iload_n 1, 0, 0), (.aload_n 0, 0, 0), (.iload_n 1, 0, 0)]) (i := .invokevirtual 13) (a1 := 136) (a2 := 0) (pc1 := 4) (l1 := [(0, .ref k), (1, .int i), (2, .int v)]) (st1 := [.int i, .ref k, .int i, .ref k]) (σ1 := σ) (by decide +kernel) rfl (fun hC => ?_)
  refine jE_call (as := [.ref k, .int i]) (pc1 := 7) (st1 := [.int i, .ref k]) hC (hs 4 136 13 _ _ _ σ rfl rfl rfl rfl rfl rfl (Nat.le_of_ble_eq_true rfl)) (by decide) (by omega) (xI_at (d - 1) k n i σ hk ho ha) ?_
  refine jE_blk (bs := [(.iload_n 2, 0, 0), (.iadd, 0, 0)]) (i := .invokevirtual 17) (a1 := 137) (a2 := 0) (pc1 := 9) (l1 := [(0, .ref k), (1, .int i), (2, .int v)]) (st1 := [.int (jI_at n (σ.1 (k + 1)) i + v), .int i, .ref k]) (σ1 := σ) (by decide +kernel) rfl (fun hC => ?_)
  refine jE_call (as := [.ref k, .int i, .int (jI_at n (σ.1 (k + 1)) i + v)]) (pc1 := 12) (st1 := []) hC (hs 9 137 17 _ _ _ σ rfl rfl rfl rfl rfl rfl (Nat.le_of_ble_eq_true rfl)) (by decide) (by omega) (xI_put (d - 1) k n i _ σ hk ho ha) ?_
  refine jE_blk (bs := []) (i := .return_) (a1 := 0) (a2 := 0) (pc1 := 12) (by decide +kernel) rfl (fun hC => ?_)
  exact jE_ret hC rfl
def jI_clf (n i : Nat) (σ : jx_S) (a : Nat) : jx_S := (fun k => if k = a then (fun j => if i ≤ j ∧ j < n then 0 else σ.1 a j) else σ.1 k, σ.2)
theorem xI_clear_2 (d k n : Nat) (hk : k + 1 < jt_N ∧ n < 2 ^ 31) (ho : jt_O k = .inl (10, [k + 4])) (ha : jt_O (k + 1) = .inr (0, n)) : ∀ (m i : Nat) (σ : jx_S), i + m = n → jE d 139 2 [(1, .int (nI i)), (0, .ref k)] [] σ (none, jI_clf n i σ (k + 1)) := by
  intro m
  induction m with
  | zero =>
    intro i σ hi
    have e : jI_clf n i σ (k + 1) = σ := by
      unfold jI_clf
      refine Prod.ext ?_ rfl
      funext a
      by_cases h1 : a = k + 1
      · subst h1
        simp only [if_true]
        funext j
        rw [if_neg (by omega)]
      · simp only [h1, if_false]
    rw [e]
    refine jE_blk (bs := [(.iload_n 1, 0, 0), (.aload_n 0, 0, 0)]) (i := .getfield 7) (a1 := 10) (a2 := 0) (pc1 := 4) (l1 := [(1, .int (nI i)), (0, .ref k)]) (st1 := [.ref k, .int (nI i)]) (σ1 := σ) (by decide +kernel) rfl (fun hC => ?_)
    refine jE_row hC hk.1 ho ?_
    refine jE_blk (bs := []) (i := .arraylength) (a1 := 0) (a2 := 0) (pc1 := 7) (by decide +kernel) rfl (fun hC => ?_)
    refine jE_alen hC hk.1 ha (by decide) ?_
    refine jE_blk (bs := []) (i := .if_icmp .ge (16)) (a1 := 0) (a2 := 0) (pc1 := 8) (by decide +kernel) rfl (fun hC => ?_)
    refine jE_icT 24 hC (by decide) (show Int32.ofNat n ≤ nI i from nI_le (a := n) (by omega) (by omega)) ?_
    refine jE_blk (bs := []) (i := .return_) (a1 := 0) (a2 := 0) (pc1 := 24) (by decide +kernel) rfl (fun hC => ?_)
    exact jE_ret hC rfl
  | succ m ih =>
    intro i σ hi
    have e : jI_clf n i σ (k + 1) = jI_clf n (i + 1) (jx_i σ (k + 1) (nI i).toNatClampNeg 0) (k + 1) := by
      unfold jI_clf jx_i
      rw [nI_clamp (by omega)]
      refine Prod.ext ?_ rfl
      funext a
      by_cases h1 : a = k + 1
      · subst h1
        simp only [if_true]
        funext j
        by_cases h2 : j = i
        · subst h2
          rw [if_pos ⟨Nat.le_refl _, by omega⟩]
          by_cases h3 : j + 1 ≤ j ∧ j < n
          · omega
          · rw [if_neg h3]; simp
        · by_cases h3 : i ≤ j ∧ j < n
          · rw [if_pos h3, if_pos ⟨by omega, h3.2⟩]
          · rw [if_neg h3, if_neg (fun q => h3 ⟨by omega, q.2⟩)]; simp [h2]
      · simp only [h1, if_false]
        funext j
        simp [h1]
    rw [e]
    refine jE_blk (bs := [(.iload_n 1, 0, 0), (.aload_n 0, 0, 0)]) (i := .getfield 7) (a1 := 10) (a2 := 0) (pc1 := 4) (l1 := [(1, .int (nI i)), (0, .ref k)]) (st1 := [.ref k, .int (nI i)]) (σ1 := σ) (by decide +kernel) rfl (fun hC => ?_)
    refine jE_row hC hk.1 ho ?_
    refine jE_blk (bs := []) (i := .arraylength) (a1 := 0) (a2 := 0) (pc1 := 7) (by decide +kernel) rfl (fun hC => ?_)
    refine jE_alen hC hk.1 ha (by decide) ?_
    refine jE_blk (bs := []) (i := .if_icmp .ge (16)) (a1 := 0) (a2 := 0) (pc1 := 8) (by decide +kernel) rfl (fun hC => ?_)
    refine jE_icF 24 hC (by decide) (show ¬ Int32.ofNat n ≤ nI i from nI_ge (b := n) (by omega) hk.2) ?_
    refine jE_blk (bs := [(.aload_n 0, 0, 0)]) (i := .getfield 7) (a1 := 10) (a2 := 0) (pc1 := 12) (l1 := [(1, .int (nI i)), (0, .ref k)]) (st1 := [.ref k]) (σ1 := σ) (by decide +kernel) rfl (fun hC => ?_)
    refine jE_row hC hk.1 ho ?_
    refine jE_blk (bs := [(.iload_n 1, 0, 0), (.iconst 0, 0, 0)]) (i := .iastore) (a1 := 0) (a2 := 0) (pc1 := 17) (l1 := [(1, .int (nI i)), (0, .ref k)]) (st1 := [.int 0, .int (nI i), .ref (k + 1)]) (σ1 := σ) (by decide +kernel) rfl (fun hC => ?_)
    refine jE_iast hC hk.1 ha (nI_in (by omega) hk.2) ?_
    refine jE_blk (bs := [(.iinc 1 (1), 2, 2), (.goto (-19), 0, 0)]) (i := .iload_n 1) (a1 := 0) (a2 := 0) (pc1 := 2) (l1 := [(1, .int (nI i + 1)), (0, .ref k)]) (st1 := []) (σ1 := jx_i σ (k + 1) (nI i).toNatClampNeg 0) (by decide +kernel) rfl (fun hC => ?_)
    rw [nI_1 i]
    exact ih (i + 1) _ (by omega)
theorem xI_clear (d k n : Nat) (σ : jx_S) (hk : k + 1 < jt_N ∧ n < 2 ^ 31) (ho : jt_O k = .inl (10, [k + 4])) (ha : jt_O (k + 1) = .inr (0, n)) : jE d 139 0 [(0, .ref k)] [] σ (none, jI_clr n σ (k + 1)) := by
  have e : jI_clr n σ (k + 1) = jI_clf n 0 σ (k + 1) := by
    unfold jI_clr jI_clf
    simp only [Nat.zero_le, true_and]
  rw [e]
  refine jE_blk (bs := [(.iconst 0, 0, 0), (.istore_n 1, 2, 0)]) (i := .iload_n 1) (a1 := 0) (a2 := 0) (pc1 := 2) (l1 := [(1, .int 0), (0, .ref k)]) (st1 := []) (σ1 := σ) (by decide +kernel) rfl (fun hC => ?_)
  exact xI_clear_2 d k n hk ho ha n 0 σ (by omega)
