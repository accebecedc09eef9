/-! Runs of the pure machine over the program's tables, as a relation. -/
theorem jx_mono {C : jx_C} {O : jx_O} {N : Nat} {M : jx_M} : ∀ (n d mi pc : Nat) (l : jx_L) (st : List Value) (σ : jx_S) (r : Option Value × jx_S), jx_run C O N M n d mi pc l st σ = some r → ∀ k, jx_run C O N M (n + k) d mi pc l st σ = some r := by
  intro n
  induction n with
  | zero => intro d mi pc l st σ r h; cases h
  | succ n ih =>
    intro d mi pc l st σ r h k
    rw [show n + 1 + k = (n + k) + 1 by omega]
    rw [jx_run] at h ⊢
    split at h
    · cases h
    · rename_i i a1 a2 hC
      split at h
      · cases h
      · exact ih _ _ _ _ _ _ _ h k
      · exact h
      · split at h
        · cases h
        · split at h
          · exact ih _ _ _ _ _ _ _ h k
          · obtain ⟨hm, h⟩ := jx_ite_inv h
            rw [if_pos hm]
            split at h
            · cases h
            · rename_i v σ1 hr
              rw [ih _ _ _ _ _ _ _ hr k]
              exact ih _ _ _ _ _ _ _ h k
theorem jx_monod {C : jx_C} {O : jx_O} {N : Nat} {M : jx_M} : ∀ (n d mi pc : Nat) (l : jx_L) (st : List Value) (σ : jx_S) (r : Option Value × jx_S), jx_run C O N M n d mi pc l st σ = some r → ∀ e, d ≤ e → jx_run C O N M n e mi pc l st σ = some r := by
  intro n
  induction n with
  | zero => intro d mi pc l st σ r h; cases h
  | succ n ih =>
    intro d mi pc l st σ r h e he
    rw [jx_run] at h ⊢
    split at h
    · cases h
    · rename_i i a1 a2 hC
      split at h
      · cases h
      · exact ih _ _ _ _ _ _ _ h e he
      · exact h
      · split at h
        · cases h
        · rename_i d1
          obtain ⟨e1, rfl⟩ : ∃ e1, e = e1 + 1 := ⟨e - 1, by omega⟩
          split at h
          · exact ih _ _ _ _ _ _ _ h _ he
          · obtain ⟨hm, h⟩ := jx_ite_inv h
            dsimp only
            rw [if_pos hm]
            split at h
            · cases h
            · rename_i v σ1 hr
              rw [ih _ _ _ _ _ _ _ hr e1 (by omega)]
              exact ih _ _ _ _ _ _ _ h _ he
def jE (d mi pc : Nat) (l : jx_L) (st : List Value) (σ : jx_S) (r : Option Value × jx_S) : Prop := ∃ n, jx_run jt_C jt_O jt_N jt_M n d mi pc l st σ = some r
theorem jE_up {d e mi pc : Nat} {l : jx_L} {st : List Value} {σ : jx_S} {r : Option Value × jx_S} (h : jE d mi pc l st σ r) (he : d ≤ e) : jE e mi pc l st σ r := by
  obtain ⟨n, h⟩ := h
  exact ⟨n, jx_monod _ _ _ _ _ _ _ _ h e he⟩
theorem jE_step {d mi pc pc1 a1 a2 : Nat} {i : Instr} {l l1 : jx_L} {st st1 : List Value} {σ σ1 : jx_S} {r : Option Value × jx_S} (hC : jt_C mi pc = some (i, a1, a2)) (hs : jx_step jt_O jt_N jt_M i a1 a2 pc l st σ = some (.inl (pc1, l1, st1, σ1))) (k : jE d mi pc1 l1 st1 σ1 r) : jE d mi pc l st σ r := by
  obtain ⟨n, h⟩ := k
  refine ⟨n + 1, ?_⟩
  rw [jx_run, hC]
  dsimp only
  rw [hs]
  exact h
theorem jE_ret {d mi pc a1 a2 : Nat} {i : Instr} {l : jx_L} {st : List Value} {σ : jx_S} {v : Option Value} (hC : jt_C mi pc = some (i, a1, a2)) (hs : jx_step jt_O jt_N jt_M i a1 a2 pc l st σ = some (.inr (.inl v))) : jE d mi pc l st σ (v, σ) := by
  refine ⟨1, ?_⟩
  rw [jx_run, hC]
  dsimp only
  rw [hs]
theorem jx_prim_no {mj : Nat} (h : mj < 10000) (as : List Value) : jx_prim mj as = none := by
  unfold jx_prim
  split
  · rw [if_neg (by omega)]
  · rw [if_neg (by omega)]
  · rfl
theorem jE_call {d mi pc pc1 a1 a2 mj : Nat} {i : Instr} {l : jx_L} {st st1 as : List Value} {σ σ1 : jx_S} {v : Option Value} {r : Option Value × jx_S} (hC : jt_C mi pc = some (i, a1, a2)) (hs : jx_step jt_O jt_N jt_M i a1 a2 pc l st σ = some (.inr (.inr (mj, as, pc1, st1)))) (hm : mj < 10000) (hd : 0 < d) (h1 : jE (d - 1) mj 0 (lv_args 0 as) [] σ (v, σ1)) (k : jE d mi pc1 l (v.toList ++ st1) σ1 r) : jE d mi pc l st σ r := by
  obtain ⟨n1, h1⟩ := h1
  obtain ⟨n2, h2⟩ := k
  obtain ⟨d1, rfl⟩ : ∃ d1, d = d1 + 1 := ⟨d - 1, by omega⟩
  refine ⟨(n1 + n2) + 1, ?_⟩
  rw [jx_run, hC]
  dsimp only
  rw [hs]
  dsimp only
  rw [jx_prim_no hm, if_pos hm]
  rw [show d1 + 1 - 1 = d1 by omega] at h1
  rw [jx_mono _ _ _ _ _ _ _ _ h1 n2]
  dsimp only
  rw [Nat.add_comm n1 n2]
  exact jx_mono _ _ _ _ _ _ _ _ h2 n1
theorem jE_prim {d mi pc pc1 a1 a2 mj : Nat} {i : Instr} {l : jx_L} {st st1 as : List Value} {σ : jx_S} {v : Value} {r : Option Value × jx_S} (hC : jt_C mi pc = some (i, a1, a2)) (hs : jx_step jt_O jt_N jt_M i a1 a2 pc l st σ = some (.inr (.inr (mj, as, pc1, st1)))) (hp : jx_prim mj as = some v) (hd : 0 < d) (k : jE d mi pc1 l (v :: st1) σ r) : jE d mi pc l st σ r := by
  obtain ⟨n2, h2⟩ := k
  obtain ⟨d1, rfl⟩ : ∃ d1, d = d1 + 1 := ⟨d - 1, by omega⟩
  refine ⟨n2 + 1, ?_⟩
  rw [jx_run, hC]
  dsimp only
  rw [hs]
  dsimp only
  rw [hp]
  exact h2
/-! straight stretches -/
def jx_nxt (i : Instr) (pc : Nat) : Nat := match i with
  | .goto off => ((pc : Int) + off).toNat
  | _ => pc + jx_len i
def jx_seq : List (Instr × Nat × Nat) → Nat → jx_L → List Value → jx_S → Option (Nat × jx_L × List Value × jx_S)
  | [], pc, l, st, σ => some (pc, l, st, σ)
  | e :: bs, pc, l, st, σ => match jx_step jt_O jt_N jt_M e.1 e.2.1 e.2.2 pc l st σ with
    | some (.inl (pc1, l1, st1, σ1)) => if pc1 = jx_nxt e.1 pc then jx_seq bs pc1 l1 st1 σ1 else none
    | _ => none
def jx_at (mi : Nat) : Nat → List (Instr × Nat × Nat) → Bool
  | _, [] => true
  | pc, e :: bs => decide (jt_C mi pc = some e) && jx_at mi (jx_nxt e.1 pc) bs
theorem jE_blk {d mi a1 a2 : Nat} {i : Instr} {r : Option Value × jx_S} : ∀ {bs : List (Instr × Nat × Nat)} {pc pc1 : Nat} {l l1 : jx_L} {st st1 : List Value} {σ σ1 : jx_S}, jx_at mi pc (bs ++ [(i, a1, a2)]) = true → jx_seq bs pc l st σ = some (pc1, l1, st1, σ1) → (jt_C mi pc1 = some (i, a1, a2) → jE d mi pc1 l1 st1 σ1 r) → jE d mi pc l st σ r := by
  intro bs
  induction bs with
  | nil =>
    intro pc pc1 l l1 st st1 σ σ1 ha hs k
    cases hs
    simp only [List.nil_append, jx_at, Bool.and_true, decide_eq_true_eq] at ha
    exact k ha
  | cons e bs ih =>
    intro pc pc1 l l1 st st1 σ σ1 ha hs k
    simp only [List.cons_append, jx_at, Bool.and_eq_true, decide_eq_true_eq] at ha
    rw [jx_seq] at hs
    split at hs
    · rename_i pc2 l2 st2 σ2 h2
      obtain ⟨h3, h4⟩ := jx_ite_inv hs
      subst h3
      exact jE_step (i := e.1) (a1 := e.2.1) (a2 := e.2.2) ha.1 h2 (ih ha.2 h4 k)
    · cases hs
/-! branches -/
def jx_cdP (c : ClassFile.Cond) (x y : Int32) : Prop := match c with
  | .eq => x = y | .ne => ¬ x = y | .lt => x < y | .ge => y ≤ x | .gt => y < x | .le => x ≤ y
theorem jx_cdP_iff (c : ClassFile.Cond) (x y : Int32) : jx_cd c x y = true ↔ jx_cdP c x y := by cases c <;> simp [jx_cd, jx_cdP]
theorem jx_brT {pc tgt : Nat} {off : Int} {b : Bool} {l : jx_L} {st : List Value} {σ : jx_S} (ht : (pc : Int) + off = (tgt : Int)) (hb : b = true) : jx_br pc off b l st σ = jx_nx tgt l st σ := by
  unfold jx_br
  rw [if_neg (by omega), if_pos hb]
  rw [show ((pc : Int) + off).toNat = tgt by omega]
theorem jx_brF {pc tgt : Nat} {off : Int} {b : Bool} {l : jx_L} {st : List Value} {σ : jx_S} (ht : (pc : Int) + off = (tgt : Int)) (hb : ¬ b = true) : jx_br pc off b l st σ = jx_nx (pc + 3) l st σ := by
  unfold jx_br
  rw [if_neg (by omega), if_neg hb]
theorem jE_ifT {d mi pc a1 a2 : Nat} (tgt : Nat) {c : ClassFile.Cond} {off : Int} {x : Int32} {l : jx_L} {st : List Value} {σ : jx_S} {r : Option Value × jx_S} (hC : jt_C mi pc = some (.ifCond c off, a1, a2)) (ht : (pc : Int) + off = (tgt : Int)) (hc : jx_cdP c x 0) (k : jE d mi tgt l st σ r) : jE d mi pc l (.int x :: st) σ r :=
  jE_step hC (jx_brT ht ((jx_cdP_iff c x 0).mpr hc)) k
theorem jE_ifF {d mi pc a1 a2 : Nat} (tgt : Nat) {c : ClassFile.Cond} {off : Int} {x : Int32} {l : jx_L} {st : List Value} {σ : jx_S} {r : Option Value × jx_S} (hC : jt_C mi pc = some (.ifCond c off, a1, a2)) (ht : (pc : Int) + off = (tgt : Int)) (hc : ¬ jx_cdP c x 0) (k : jE d mi (pc + 3) l st σ r) : jE d mi pc l (.int x :: st) σ r :=
  jE_step hC (jx_brF ht (fun q => hc ((jx_cdP_iff c x 0).mp q))) k
theorem jE_icT {d mi pc a1 a2 : Nat} (tgt : Nat) {c : ClassFile.Cond} {off : Int} {x y : Int32} {l : jx_L} {st : List Value} {σ : jx_S} {r : Option Value × jx_S} (hC : jt_C mi pc = some (.if_icmp c off, a1, a2)) (ht : (pc : Int) + off = (tgt : Int)) (hc : jx_cdP c x y) (k : jE d mi tgt l st σ r) : jE d mi pc l (.int y :: .int x :: st) σ r :=
  jE_step hC (jx_brT ht ((jx_cdP_iff c x y).mpr hc)) k
theorem jE_icF {d mi pc a1 a2 : Nat} (tgt : Nat) {c : ClassFile.Cond} {off : Int} {x y : Int32} {l : jx_L} {st : List Value} {σ : jx_S} {r : Option Value × jx_S} (hC : jt_C mi pc = some (.if_icmp c off, a1, a2)) (ht : (pc : Int) + off = (tgt : Int)) (hc : ¬ jx_cdP c x y) (k : jE d mi (pc + 3) l st σ r) : jE d mi pc l (.int y :: .int x :: st) σ r :=
  jE_step hC (jx_brF ht (fun q => hc ((jx_cdP_iff c x y).mp q))) k
/-- a switch goes to an instruction that is known -/
theorem jE_sw {d mi pc a1 a2 : Nat} (tgt : Nat) {i : Instr} {x : Int32} {l : jx_L} {st : List Value} {σ : jx_S} {r : Option Value × jx_S} (hC : jt_C mi pc = some (i, a1, a2)) (hs : jx_step jt_O jt_N jt_M i a1 a2 pc l (.int x :: st) σ = jx_nx tgt l st σ) (k : jE d mi tgt l st σ r) : jE d mi pc l (.int x :: st) σ r := jE_step hC hs k
/-! arrays -/
def jx_out (n : Nat) (i : Int32) : Prop := i < 0 ∨ n ≤ i.toNatClampNeg
theorem jx_ar_in {k t n : Nat} {i : Int32} {q : Nat → Option jx_R} (hk : k < jt_N) (ho : jt_O k = .inr (t, n)) (hi : ¬ (i < 0 ∨ n ≤ i.toNatClampNeg)) : jx_ar jt_O jt_N k t i q = q n := by
  unfold jx_ar
  rw [if_pos hk, ho]
  dsimp only
  rw [if_pos rfl, if_neg hi]
theorem jE_iald {d mi pc a1 a2 k n : Nat} {i : Int32} {l : jx_L} {st : List Value} {σ : jx_S} {r : Option Value × jx_S} (hC : jt_C mi pc = some (.iaload, a1, a2)) (hk : k < jt_N) (ho : jt_O k = .inr (0, n)) (hi : ¬ (i < 0 ∨ n ≤ i.toNatClampNeg)) (kk : jE d mi (pc + 1) l (.int (σ.1 k i.toNatClampNeg) :: st) σ r) : jE d mi pc l (.int i :: .ref k :: st) σ r :=
  jE_step hC (jx_ar_in hk ho hi) kk
theorem jE_bald {d mi pc a1 a2 k n : Nat} {i : Int32} {l : jx_L} {st : List Value} {σ : jx_S} {r : Option Value × jx_S} (hC : jt_C mi pc = some (.baload, a1, a2)) (hk : k < jt_N) (ho : jt_O k = .inr (2, n)) (hi : ¬ (i < 0 ∨ n ≤ i.toNatClampNeg)) (kk : jE d mi (pc + 1) l (.int (σ.1 k i.toNatClampNeg) :: st) σ r) : jE d mi pc l (.int i :: .ref k :: st) σ r :=
  jE_step hC (jx_ar_in hk ho hi) kk
theorem jE_lald {d mi pc a1 a2 k n : Nat} {i : Int32} {l : jx_L} {st : List Value} {σ : jx_S} {r : Option Value × jx_S} (hC : jt_C mi pc = some (.laload, a1, a2)) (hk : k < jt_N) (ho : jt_O k = .inr (1, n)) (hi : ¬ (i < 0 ∨ n ≤ i.toNatClampNeg)) (kk : jE d mi (pc + 1) l (.long (σ.2 k i.toNatClampNeg) :: st) σ r) : jE d mi pc l (.int i :: .ref k :: st) σ r :=
  jE_step hC (jx_ar_in hk ho hi) kk
theorem jE_iast {d mi pc a1 a2 k n : Nat} {i x : Int32} {l : jx_L} {st : List Value} {σ : jx_S} {r : Option Value × jx_S} (hC : jt_C mi pc = some (.iastore, a1, a2)) (hk : k < jt_N) (ho : jt_O k = .inr (0, n)) (hi : ¬ (i < 0 ∨ n ≤ i.toNatClampNeg)) (kk : jE d mi (pc + 1) l st (jx_i σ k i.toNatClampNeg x) r) : jE d mi pc l (.int x :: .int i :: .ref k :: st) σ r :=
  jE_step hC (jx_ar_in hk ho hi) kk
theorem jE_bast {d mi pc a1 a2 k n : Nat} {i x : Int32} {l : jx_L} {st : List Value} {σ : jx_S} {r : Option Value × jx_S} (hC : jt_C mi pc = some (.bastore, a1, a2)) (hk : k < jt_N) (ho : jt_O k = .inr (2, n)) (hi : ¬ (i < 0 ∨ n ≤ i.toNatClampNeg)) (hx : x = 0 ∨ x = 1) (kk : jE d mi (pc + 1) l st (jx_i σ k i.toNatClampNeg x) r) : jE d mi pc l (.int x :: .int i :: .ref k :: st) σ r :=
  jE_step hC ((jx_ar_in hk ho hi).trans (if_pos hx)) kk
theorem jE_last {d mi pc a1 a2 k n : Nat} {i : Int32} {x : Int64} {l : jx_L} {st : List Value} {σ : jx_S} {r : Option Value × jx_S} (hC : jt_C mi pc = some (.lastore, a1, a2)) (hk : k < jt_N) (ho : jt_O k = .inr (1, n)) (hi : ¬ (i < 0 ∨ n ≤ i.toNatClampNeg)) (kk : jE d mi (pc + 1) l st (jx_l σ k i.toNatClampNeg x) r) : jE d mi pc l (.long x :: .int i :: .ref k :: st) σ r :=
  jE_step hC (jx_ar_in hk ho hi) kk
theorem jE_idiv {d mi pc a1 a2 : Nat} {x y : Int32} {l : jx_L} {st : List Value} {σ : jx_S} {r : Option Value × jx_S} (hC : jt_C mi pc = some (.idiv, a1, a2)) (hy : ¬ y = 0) (kk : jE d mi (pc + 1) l (.int (x / y) :: st) σ r) : jE d mi pc l (.int y :: .int x :: st) σ r :=
  jE_step hC (if_neg hy) kk
theorem jE_irem {d mi pc a1 a2 : Nat} {x y : Int32} {l : jx_L} {st : List Value} {σ : jx_S} {r : Option Value × jx_S} (hC : jt_C mi pc = some (.irem, a1, a2)) (hy : ¬ y = 0) (kk : jE d mi (pc + 1) l (.int (x - x / y * y) :: st) σ r) : jE d mi pc l (.int y :: .int x :: st) σ r :=
  jE_step hC (if_neg hy) kk
