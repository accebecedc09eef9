/-! Fewer locals known: the same run. -/
def jx_Rl (l l' : jx_L) : Prop := (l.map Prod.fst).Nodup ∧ ∀ i v, l.lookup i = some v → l'.lookup i = some v
theorem jx_lk_mem {l : jx_L} (hn : (l.map Prod.fst).Nodup) {j : Nat} {w : Value} (h : (j, w) ∈ l) : l.lookup j = some w := by
  induction l with
  | nil => cases h
  | cons q l ih =>
    obtain ⟨a, b⟩ := q
    simp only [List.map_cons, List.nodup_cons] at hn
    rw [List.lookup_cons]
    rcases List.mem_cons.mp h with e | h2
    · cases e
      simp
    · have hne : ¬ j = a := fun e => hn.1 (by rw [← e]; exact List.mem_map.mpr ⟨(j, w), h2, rfl⟩)
      rw [show (j == a) = false by simp [hne]]
      exact ih hn.2 h2
theorem jx_lk_up {l : jx_L} {p : Nat × Value → Bool} {j : Nat} {w : Value} (h : l.lookup j = some w) (hp : p (j, w) = true) : (l.filter p).lookup j = some w := by
  induction l with
  | nil => cases h
  | cons q l ih =>
    obtain ⟨a, b⟩ := q
    rw [List.lookup_cons] at h
    by_cases e : j = a
    · subst e
      simp at h
      subst h
      rw [List.filter_cons, if_pos hp, List.lookup_cons]
      simp
    · rw [show (j == a) = false by simp [e]] at h
      rw [List.filter_cons]
      by_cases hq : p (a, b) = true
      · rw [if_pos hq, List.lookup_cons, show (j == a) = false by simp [e]]
        exact ih h
      · rw [if_neg hq]
        exact ih h
theorem jx_lk_dn {l : jx_L} {p : Nat × Value → Bool} (hn : (l.map Prod.fst).Nodup) {j : Nat} {w : Value} (h : (l.filter p).lookup j = some w) : l.lookup j = some w ∧ p (j, w) = true := by
  have h1 := List.mem_filter.mp (jx_lookup h)
  exact ⟨jx_lk_mem hn h1.1, h1.2⟩
theorem jx_Rl_st {l l' : jx_L} (h : jx_Rl l l') (i : Nat) (v : Value) (p : Nat × Value → Bool) (hp : ∀ q, p q = true → q.1 ≠ i) : jx_Rl ((i, v) :: l.filter p) ((i, v) :: l'.filter p) := by
  refine ⟨?_, fun j w hj => ?_⟩
  · rw [List.map_cons, List.nodup_cons]
    refine ⟨fun hm => ?_, ?_⟩
    · obtain ⟨q, hq, e⟩ := List.mem_map.mp hm
      exact hp q (List.mem_filter.mp hq).2 e
    · exact List.Nodup.sublist (List.Sublist.map _ List.filter_sublist) h.1
  · rw [List.lookup_cons] at hj ⊢
    by_cases e : j = i
    · subst e
      simpa using hj
    · rw [show (j == i) = false by simp [e]] at hj ⊢
      obtain ⟨h1, h2⟩ := jx_lk_dn h.1 hj
      exact jx_lk_up (h.2 j w h1) h2
theorem jx_Rl_st1 {l l' : jx_L} (h : jx_Rl l l') (i : Nat) (v : Value) : jx_Rl (jx_st1 l i v) (jx_st1 l' i v) := jx_Rl_st h i v _ (fun q hq e => by simp [e] at hq)
theorem jx_Rl_st2 {l l' : jx_L} (h : jx_Rl l l') (i : Nat) (v : Value) : jx_Rl (jx_st2 l i v) (jx_st2 l' i v) := jx_Rl_st h i v _ (fun q hq e => by simp [e] at hq)
def jx_Rr (r r' : jx_R) : Prop := match r, r' with
  | .inl (pc, l, st, σ), .inl (pc', l', st', σ') => pc = pc' ∧ jx_Rl l l' ∧ st = st' ∧ σ = σ'
  | .inr a, .inr b => a = b
  | _, _ => False
theorem jx_Rr_nx {a : Nat} {b b' : jx_L} {c : List Value} {d : jx_S} {r : jx_R} (hR : jx_Rl b b') (h : jx_nx a b c d = some r) : ∃ r', jx_nx a b' c d = some r' ∧ jx_Rr r r' := by
  cases h
  exact ⟨_, rfl, rfl, hR, rfl, rfl⟩
theorem jx_Rr_go {a : Nat} {o : Int} {b b' : jx_L} {c : List Value} {d : jx_S} {r : jx_R} (hR : jx_Rl b b') (h : jx_go a o b c d = some r) : ∃ r', jx_go a o b' c d = some r' ∧ jx_Rr r r' := by
  unfold jx_go at h ⊢
  obtain ⟨h1, h2⟩ := jx_ite0_inv h
  rw [if_neg h1]
  exact jx_Rr_nx hR h2
theorem jx_Rr_br {a : Nat} {o : Int} {x : Bool} {b b' : jx_L} {c : List Value} {d : jx_S} {r : jx_R} (hR : jx_Rl b b') (h : jx_br a o x b c d = some r) : ∃ r', jx_br a o x b' c d = some r' ∧ jx_Rr r r' := by
  unfold jx_br at h ⊢
  obtain ⟨h1, h2⟩ := jx_ite0_inv h
  rw [if_neg h1]
  by_cases hx : x = true
  · rw [if_pos hx] at h2 ⊢
    exact jx_Rr_nx hR h2
  · rw [if_neg hx] at h2 ⊢
    exact jx_Rr_nx hR h2
theorem jx_Rr_ite {c : Prop} [Decidable c] {t t' : Option jx_R} {r : jx_R} (k : t = some r → ∃ r', t' = some r' ∧ jx_Rr r r') (h : (if c then t else none) = some r) : ∃ r', (if c then t' else none) = some r' ∧ jx_Rr r r' := by
  obtain ⟨h1, h2⟩ := jx_ite_inv h
  rw [if_pos h1]
  exact k h2
theorem jx_Rr_ite0 {c : Prop} [Decidable c] {t t' : Option jx_R} {r : jx_R} (k : t = some r → ∃ r', t' = some r' ∧ jx_Rr r r') (h : (if c then none else t) = some r) : ∃ r', (if c then none else t') = some r' ∧ jx_Rr r r' := by
  obtain ⟨h1, h2⟩ := jx_ite0_inv h
  rw [if_neg h1]
  exact k h2
theorem jx_Rr_rfl {r : Option Value ⊕ (Nat × List Value × Nat × List Value)} : jx_Rr (.inr r) (.inr r) := rfl
section JXL
variable {O : jx_O} {N : Nat} {M : jx_M}
theorem jx_Rr_i2 {st : List Value} {k k' : Int32 → Int32 → List Value → Option jx_R} {r : jx_R} (hk : ∀ x y t, k x y t = some r → ∃ r', k' x y t = some r' ∧ jx_Rr r r') (h : jx_i2 st k = some r) : ∃ r', jx_i2 st k' = some r' ∧ jx_Rr r r' := by
  obtain ⟨x, y, t, rfl, h2⟩ := jx_i2_inv h
  exact hk x y t h2
theorem jx_Rr_l2 {st : List Value} {k k' : Int64 → Int64 → List Value → Option jx_R} {r : jx_R} (hk : ∀ x y t, k x y t = some r → ∃ r', k' x y t = some r' ∧ jx_Rr r r') (h : jx_l2 st k = some r) : ∃ r', jx_l2 st k' = some r' ∧ jx_Rr r r' := by
  obtain ⟨x, y, t, rfl, h2⟩ := jx_l2_inv h
  exact hk x y t h2
theorem jx_Rr_li {st : List Value} {k k' : Int64 → Int32 → List Value → Option jx_R} {r : jx_R} (hk : ∀ x y t, k x y t = some r → ∃ r', k' x y t = some r' ∧ jx_Rr r r') (h : jx_li st k = some r) : ∃ r', jx_li st k' = some r' ∧ jx_Rr r r' := by
  obtain ⟨x, y, t, rfl, h2⟩ := jx_li_inv h
  exact hk x y t h2
theorem jx_Rr_i1 {st : List Value} {k k' : Int32 → List Value → Option jx_R} {r : jx_R} (hk : ∀ x t, k x t = some r → ∃ r', k' x t = some r' ∧ jx_Rr r r') (h : jx_i1 st k = some r) : ∃ r', jx_i1 st k' = some r' ∧ jx_Rr r r' := by
  obtain ⟨x, t, rfl, h2⟩ := jx_i1_inv h
  exact hk x t h2
theorem jx_Rr_l1 {st : List Value} {k k' : Int64 → List Value → Option jx_R} {r : jx_R} (hk : ∀ x t, k x t = some r → ∃ r', k' x t = some r' ∧ jx_Rr r r') (h : jx_l1 st k = some r) : ∃ r', jx_l1 st k' = some r' ∧ jx_Rr r r' := by
  obtain ⟨x, t, rfl, h2⟩ := jx_l1_inv h
  exact hk x t h2
theorem jx_Rr_a1 {st : List Value} {k k' : Nat → List Value → Option jx_R} {r : jx_R} (hk : ∀ x t, k x t = some r → ∃ r', k' x t = some r' ∧ jx_Rr r r') (h : jx_a1 st k = some r) : ∃ r', jx_a1 st k' = some r' ∧ jx_Rr r r' := by
  obtain ⟨x, t, rfl, h2⟩ := jx_a1_inv h
  exact hk x t h2
theorem jx_Rr_li0 {l l' : jx_L} {i : Nat} {k k' : Int32 → Option jx_R} {r : jx_R} (hR : jx_Rl l l') (hk : ∀ x, k x = some r → ∃ r', k' x = some r' ∧ jx_Rr r r') (h : jx_li0 l i k = some r) : ∃ r', jx_li0 l' i k' = some r' ∧ jx_Rr r r' := by
  obtain ⟨x, h1, h2⟩ := jx_li0_inv h
  unfold jx_li0
  rw [hR.2 i _ h1]
  exact hk x h2
theorem jx_Rr_ll0 {l l' : jx_L} {i : Nat} {k k' : Int64 → Option jx_R} {r : jx_R} (hR : jx_Rl l l') (hk : ∀ x, k x = some r → ∃ r', k' x = some r' ∧ jx_Rr r r') (h : jx_ll0 l i k = some r) : ∃ r', jx_ll0 l' i k' = some r' ∧ jx_Rr r r' := by
  obtain ⟨x, h1, h2⟩ := jx_ll0_inv h
  unfold jx_ll0
  rw [hR.2 i _ h1]
  exact hk x h2
theorem jx_Rr_la0 {l l' : jx_L} {i : Nat} {k k' : Nat → Option jx_R} {r : jx_R} (hR : jx_Rl l l') (hk : ∀ x, k x = some r → ∃ r', k' x = some r' ∧ jx_Rr r r') (h : jx_la0 l i k = some r) : ∃ r', jx_la0 l' i k' = some r' ∧ jx_Rr r r' := by
  obtain ⟨x, h1, h2⟩ := jx_la0_inv h
  unfold jx_la0
  rw [hR.2 i _ h1]
  exact hk x h2
theorem jx_Rr_ar {k t : Nat} {i : Int32} {q q' : Nat → Option jx_R} {r : jx_R} (hk : ∀ n, q n = some r → ∃ r', q' n = some r' ∧ jx_Rr r r') (h : jx_ar O N k t i q = some r) : ∃ r', jx_ar O N k t i q' = some r' ∧ jx_Rr r r' := by
  obtain ⟨n, h1, h2, h3, h4⟩ := jx_ar_inv h
  unfold jx_ar
  rw [if_pos h1, h2]
  dsimp only
  rw [if_pos rfl, if_neg h3]
  exact hk n h4
theorem jx_Rr_ob {k ci j : Nat} {q q' : Nat → Option jx_R} {r : jx_R} (hk : ∀ n, q n = some r → ∃ r', q' n = some r' ∧ jx_Rr r r') (h : jx_ob O N k ci j q = some r) : ∃ r', jx_ob O N k ci j q' = some r' ∧ jx_Rr r r' := by
  obtain ⟨kds, kd, h1, h2, h3, h4⟩ := jx_ob_inv h
  unfold jx_ob
  rw [if_pos h1, h2]
  dsimp only
  rw [if_pos rfl, h3]
  exact hk kd h4
theorem jx_step_loc {i : Instr} {a1 a2 pc : Nat} {l l' : jx_L} {st : List Value} {σ : jx_S} {r : jx_R} (hR : jx_Rl l l') (h : jx_step O N M i a1 a2 pc l st σ = some r) : ∃ r', jx_step O N M i a1 a2 pc l' st σ = some r' ∧ jx_Rr r r' := by
  cases i with
  | return_ =>
    refine ⟨r, h, ?_⟩
    replace h : jx_vrt st = some r := h
    unfold jx_vrt at h
    split at h
    · cases h; rfl
    · cases h
  | ireturn =>
    refine ⟨r, h, ?_⟩
    replace h : jx_irt a1 st = some r := h
    unfold jx_irt at h
    split at h
    · split at h
      · cases h; rfl
      · obtain ⟨-, h⟩ := jx_ite_inv h; cases h; rfl
    · cases h
  | lreturn =>
    refine ⟨r, h, ?_⟩
    replace h : jx_lrt st = some r := h
    unfold jx_lrt at h
    split at h
    · cases h; rfl
    · cases h
  | invokevirtual ix =>
    refine ⟨r, h, ?_⟩
    replace h : jx_cv1 O N M pc a1 st = some r := h
    unfold jx_cv1 at h
    obtain ⟨-, h⟩ := jx_ite0_inv h
    split at h
    · obtain ⟨-, h⟩ := jx_ite_inv h
      split at h
      · obtain ⟨-, h⟩ := jx_ite_inv h; cases h; rfl
      · cases h
    · cases h
  | invokestatic ix =>
    refine ⟨r, h, ?_⟩
    replace h : jx_cs1 M pc a1 st = some r := h
    unfold jx_cs1 at h
    obtain ⟨-, h⟩ := jx_ite_inv h
    obtain ⟨-, h⟩ := jx_ite_inv h
    cases h; rfl
  | iconst n => exact jx_Rr_nx hR h
  | bipush n => exact jx_Rr_nx hR h
  | sipush n => exact jx_Rr_nx hR h
  | lconst n => exact jx_Rr_nx hR h
  | ldc n => exact jx_Rr_nx hR h
  | ldc_w n => exact jx_Rr_nx hR h
  | ldc2_w n => exact jx_Rr_nx hR h
  | iload n => exact jx_Rr_li0 hR (fun x => jx_Rr_nx hR) h
  | iload_n n => exact jx_Rr_li0 hR (fun x => jx_Rr_nx hR) h
  | lload n => exact jx_Rr_ll0 hR (fun x => jx_Rr_nx hR) h
  | lload_n n => exact jx_Rr_ll0 hR (fun x => jx_Rr_nx hR) h
  | aload n => exact jx_Rr_la0 hR (fun x => jx_Rr_nx hR) h
  | aload_n n => exact jx_Rr_la0 hR (fun x => jx_Rr_nx hR) h
  | istore n => exact jx_Rr_i1 (fun x t => jx_Rr_ite (jx_Rr_nx (jx_Rl_st1 hR _ _))) h
  | istore_n n => exact jx_Rr_i1 (fun x t => jx_Rr_ite (jx_Rr_nx (jx_Rl_st1 hR _ _))) h
  | lstore n => exact jx_Rr_l1 (fun x t => jx_Rr_ite (jx_Rr_nx (jx_Rl_st2 hR _ _))) h
  | lstore_n n => exact jx_Rr_l1 (fun x t => jx_Rr_ite (jx_Rr_nx (jx_Rl_st2 hR _ _))) h
  | astore n => exact jx_Rr_a1 (fun x t => jx_Rr_ite (jx_Rr_nx (jx_Rl_st1 hR _ _))) h
  | astore_n n => exact jx_Rr_a1 (fun x t => jx_Rr_ite (jx_Rr_nx (jx_Rl_st1 hR _ _))) h
  | iinc n k => exact jx_Rr_li0 hR (fun x => jx_Rr_ite (jx_Rr_nx (jx_Rl_st1 hR _ _))) h
  | iadd => exact jx_Rr_i2 (fun x y t => jx_Rr_nx hR) h
  | isub => exact jx_Rr_i2 (fun x y t => jx_Rr_nx hR) h
  | imul => exact jx_Rr_i2 (fun x y t => jx_Rr_nx hR) h
  | iand => exact jx_Rr_i2 (fun x y t => jx_Rr_nx hR) h
  | ior => exact jx_Rr_i2 (fun x y t => jx_Rr_nx hR) h
  | ishl => exact jx_Rr_i2 (fun x y t => jx_Rr_nx hR) h
  | ishr => exact jx_Rr_i2 (fun x y t => jx_Rr_nx hR) h
  | idiv => exact jx_Rr_i2 (fun x y t => jx_Rr_ite0 (jx_Rr_nx hR)) h
  | irem => exact jx_Rr_i2 (fun x y t => jx_Rr_ite0 (jx_Rr_nx hR)) h
  | ineg => exact jx_Rr_i1 (fun x t => jx_Rr_nx hR) h
  | i2l => exact jx_Rr_i1 (fun x t => jx_Rr_nx hR) h
  | l2i => exact jx_Rr_l1 (fun x t => jx_Rr_nx hR) h
  | ladd => exact jx_Rr_l2 (fun x y t => jx_Rr_nx hR) h
  | lsub => exact jx_Rr_l2 (fun x y t => jx_Rr_nx hR) h
  | lmul => exact jx_Rr_l2 (fun x y t => jx_Rr_nx hR) h
  | land => exact jx_Rr_l2 (fun x y t => jx_Rr_nx hR) h
  | lor => exact jx_Rr_l2 (fun x y t => jx_Rr_nx hR) h
  | lcmp => exact jx_Rr_l2 (fun x y t => jx_Rr_nx hR) h
  | lshl => exact jx_Rr_li (fun x y t => jx_Rr_nx hR) h
  | lshr => exact jx_Rr_li (fun x y t => jx_Rr_nx hR) h
  | lushr => exact jx_Rr_li (fun x y t => jx_Rr_nx hR) h
  | goto off => exact jx_Rr_go hR h
  | ifCond cd off => exact jx_Rr_i1 (fun x t => jx_Rr_br hR) h
  | if_icmp cd off => exact jx_Rr_i2 (fun x y t => jx_Rr_br hR) h
  | tableswitch dflt lo hi offs =>
    refine jx_Rr_i1 (fun x t h => ?_) h
    by_cases hc : x.toInt < lo ∨ hi < x.toInt
    · rw [if_pos hc] at h ⊢
      exact jx_Rr_go hR h
    · rw [if_neg hc] at h ⊢
      split at h
      · rename_i off ho
        exact jx_Rr_go hR h
      · cases h
  | lookupswitch dflt ps => exact jx_Rr_i1 (fun x t => jx_Rr_ite (jx_Rr_go hR)) h
  | dup =>
    replace h : jx_dup pc l st σ = some r := h
    show ∃ r', jx_dup pc l' st σ = some r' ∧ jx_Rr r r'
    unfold jx_dup at h ⊢
    split at h
    · exact jx_Rr_ite (jx_Rr_nx hR) h
    · cases h
  | dup2 =>
    replace h : jx_dup2 pc l st σ = some r := h
    show ∃ r', jx_dup2 pc l' st σ = some r' ∧ jx_Rr r r'
    unfold jx_dup2 at h ⊢
    split at h
    · exact jx_Rr_ite (jx_Rr_nx hR) h
    · cases h
  | getfield ix => exact jx_Rr_a1 (fun x t => jx_Rr_ob (fun n => jx_Rr_nx hR)) h
  | putfield ix =>
    replace h : jx_put O N a1 a2 pc l st σ = some r := h
    show ∃ r', jx_put O N a1 a2 pc l' st σ = some r' ∧ jx_Rr r r'
    unfold jx_put at h ⊢
    split at h
    · refine jx_Rr_ob (fun n h => ?_) h
      by_cases h0 : n = 0
      · rw [if_pos h0] at h ⊢
        exact jx_Rr_nx hR h
      · rw [if_neg h0] at h ⊢
        exact jx_Rr_ite (jx_Rr_ite (jx_Rr_nx hR)) h
    · exact jx_Rr_ob (fun n => jx_Rr_ite (jx_Rr_nx hR)) h
    · cases h
  | iaload =>
    replace h : jx_ald O N pc 0 l st σ = some r := h
    show ∃ r', jx_ald O N pc 0 l' st σ = some r' ∧ jx_Rr r r'
    unfold jx_ald at h ⊢
    split at h
    · exact jx_Rr_ar (fun n => jx_Rr_nx hR) h
    · cases h
  | laload =>
    replace h : jx_ald O N pc 1 l st σ = some r := h
    show ∃ r', jx_ald O N pc 1 l' st σ = some r' ∧ jx_Rr r r'
    unfold jx_ald at h ⊢
    split at h
    · exact jx_Rr_ar (fun n => jx_Rr_nx hR) h
    · cases h
  | baload =>
    replace h : jx_ald O N pc 2 l st σ = some r := h
    show ∃ r', jx_ald O N pc 2 l' st σ = some r' ∧ jx_Rr r r'
    unfold jx_ald at h ⊢
    split at h
    · exact jx_Rr_ar (fun n => jx_Rr_nx hR) h
    · cases h
  | iastore =>
    replace h : jx_ast O N pc 0 l st σ = some r := h
    show ∃ r', jx_ast O N pc 0 l' st σ = some r' ∧ jx_Rr r r'
    unfold jx_ast at h ⊢
    split at h
    · refine jx_Rr_ar (fun n h => ?_) h
      rw [if_neg (by decide)] at h ⊢
      exact jx_Rr_nx hR h
    · cases h
  | bastore =>
    replace h : jx_ast O N pc 2 l st σ = some r := h
    show ∃ r', jx_ast O N pc 2 l' st σ = some r' ∧ jx_Rr r r'
    unfold jx_ast at h ⊢
    split at h
    · refine jx_Rr_ar (fun n h => ?_) h
      rw [if_pos rfl] at h ⊢
      exact jx_Rr_ite (jx_Rr_nx hR) h
    · cases h
  | lastore =>
    replace h : jx_lst O N pc l st σ = some r := h
    show ∃ r', jx_lst O N pc l' st σ = some r' ∧ jx_Rr r r'
    unfold jx_lst at h ⊢
    split at h
    · exact jx_Rr_ar (fun n => jx_Rr_nx hR) h
    · cases h
  | arraylength =>
    refine jx_Rr_a1 (fun k t h => ?_) h
    unfold jx_aln at h ⊢
    obtain ⟨h1, h2⟩ := jx_ite_inv h
    rw [if_pos h1]
    split at h2
    · exact jx_Rr_ite (jx_Rr_nx hR) h2
    · cases h2
  | _ =>
    exfalso
    have h9 : (none : Option jx_R) = some r := h
    cases h9
end JXL
theorem jx_run_loc {C : jx_C} {O : jx_O} {N : Nat} {M : jx_M} : ∀ (n d mi pc : Nat) (l l' : jx_L) (st : List Value) (σ : jx_S) (r : Option Value × jx_S), jx_Rl l l' → jx_run C O N M n d mi pc l st σ = some r → jx_run C O N M n d mi pc l' st σ = some r := by
  intro n
  induction n with
  | zero => intro d mi pc l l' st σ r hR h; cases h
  | succ n ih =>
    intro d mi pc l l' st σ r hR h
    rw [jx_run] at h ⊢
    split at h
    · cases h
    · rename_i i a1 a2 hC
      split at h
      · cases h
      · rename_i pc1 l1 st1 σ1 hs
        obtain ⟨r', h1, h2⟩ := jx_step_loc hR hs
        rw [h1]
        rcases r' with ⟨pc2, l2, st2, σ2⟩ | r'
        · obtain ⟨rfl, hR2, rfl, rfl⟩ := h2
          exact ih _ _ _ _ _ _ _ _ hR2 h
        · exact h2.elim
      · rename_i v hs
        obtain ⟨r', h1, h2⟩ := jx_step_loc hR hs
        rw [h1]
        rcases r' with r' | r'
        · exact h2.elim
        · cases h2
          exact h
      · rename_i mj as pc1 st1 hs
        obtain ⟨r', h1, h2⟩ := jx_step_loc hR hs
        rw [h1]
        rcases r' with r' | r'
        · exact h2.elim
        · cases h2
          dsimp only
          split at h
          · cases h
          · split at h
            · exact ih _ _ _ _ _ _ _ _ hR h
            · obtain ⟨hm, h⟩ := jx_ite_inv h
              rw [if_pos hm]
              split at h
              · cases h
              · exact ih _ _ _ _ _ _ _ _ hR h
/-- what is known of the locals, one by one -/
def jx_subl : jx_L → jx_L → Prop
  | [], _ => True
  | q :: l, l' => l'.lookup q.1 = some q.2 ∧ jx_subl l l'
theorem jx_subl_use {l l' : jx_L} (h : jx_subl l l') : ∀ i v, l.lookup i = some v → l'.lookup i = some v := by
  induction l with
  | nil => intro i v h1; cases h1
  | cons q l ih =>
    intro i v h1
    rw [List.lookup_cons] at h1
    by_cases e : i = q.1
    · subst e
      simp at h1
      subst h1
      exact h.1
    · rw [show (i == q.1) = false by simp [e]] at h1
      exact ih h.2 i v h1
theorem jE_loc {d mi pc : Nat} {l l' : jx_L} {ks : List Nat} {st : List Value} {σ : jx_S} {r : Option Value × jx_S} (hk : l.map Prod.fst = ks) (hn : ks.Nodup) (hs : jx_subl l l') (h : jE d mi pc l st σ r) : jE d mi pc l' st σ r := by
  obtain ⟨n, h⟩ := h
  exact ⟨n, jx_run_loc _ _ _ _ _ _ _ _ _ ⟨by rw [hk]; exact hn, jx_subl_use hs⟩ h⟩
