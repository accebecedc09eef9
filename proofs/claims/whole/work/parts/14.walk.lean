section JXS
variable {C : jx_C} {O : jx_O} {N : Nat} {M : jx_M} {cl : List vw_C} {Ts : List Cond} {bytes : Nat → ByteArray} {own : Nat → String} {yy : Nat → MethodName} {mx : Nat → Nat} {rt : Nat → Option FieldType}
variable {D : va_G} {dA : Nat → ClassId} {ad : Nat → Nat}
theorem jx_nx_no {a : Nat} {b : jx_L} {c : List Value} {d : jx_S} {r : Option Value ⊕ (Nat × List Value × Nat × List Value)} (h : jx_nx a b c d = some (.inr r)) : False := by cases h
theorem jx_go_no {a : Nat} {o : Int} {b : jx_L} {c : List Value} {d : jx_S} {r : Option Value ⊕ (Nat × List Value × Nat × List Value)} (h : jx_go a o b c d = some (.inr r)) : False := by
  unfold jx_go at h
  split at h
  · cases h
  · exact jx_nx_no h
theorem jx_br_no {a : Nat} {o : Int} {x : Bool} {b : jx_L} {c : List Value} {d : jx_S} {r : Option Value ⊕ (Nat × List Value × Nat × List Value)} (h : jx_br a o x b c d = some (.inr r)) : False := by
  unfold jx_br at h
  split at h
  · cases h
  · split at h <;> exact jx_nx_no h
/-- only returns and calls end in the right half -/
theorem jx_end_inv {i : Instr} {a1 a2 pc : Nat} {lc : jx_L} {st : List Value} {σ : jx_S} {r : Option Value ⊕ (Nat × List Value × Nat × List Value)} (h : jx_step O N M i a1 a2 pc lc st σ = some (.inr r)) :
    (i = .return_ ∧ jx_vrt st = some (.inr r)) ∨ (i = .ireturn ∧ jx_irt a1 st = some (.inr r)) ∨ (i = .lreturn ∧ jx_lrt st = some (.inr r)) ∨ (∃ ix, i = .invokevirtual ix ∧ jx_cv1 O N M pc a1 st = some (.inr r)) ∨ (∃ ix, i = .invokestatic ix ∧ jx_cs1 M pc a1 st = some (.inr r)) := by
  cases i with
  | return_ => exact Or.inl ⟨rfl, h⟩
  | ireturn => exact Or.inr (Or.inl ⟨rfl, h⟩)
  | lreturn => exact Or.inr (Or.inr (Or.inl ⟨rfl, h⟩))
  | invokevirtual ix => exact Or.inr (Or.inr (Or.inr (Or.inl ⟨ix, rfl, h⟩)))
  | invokestatic ix => exact Or.inr (Or.inr (Or.inr (Or.inr ⟨ix, rfl, h⟩)))
  | iconst n => exact (jx_nx_no h).elim
  | bipush n => exact (jx_nx_no h).elim
  | sipush n => exact (jx_nx_no h).elim
  | lconst n => exact (jx_nx_no h).elim
  | ldc n => exact (jx_nx_no h).elim
  | ldc_w n => exact (jx_nx_no h).elim
  | ldc2_w n => exact (jx_nx_no h).elim
  | iload n => obtain ⟨x, -, h⟩ := jx_li0_inv h; exact (jx_nx_no h).elim
  | iload_n n => obtain ⟨x, -, h⟩ := jx_li0_inv h; exact (jx_nx_no h).elim
  | lload n => obtain ⟨x, -, h⟩ := jx_ll0_inv h; exact (jx_nx_no h).elim
  | lload_n n => obtain ⟨x, -, h⟩ := jx_ll0_inv h; exact (jx_nx_no h).elim
  | aload n => obtain ⟨x, -, h⟩ := jx_la0_inv h; exact (jx_nx_no h).elim
  | aload_n n => obtain ⟨x, -, h⟩ := jx_la0_inv h; exact (jx_nx_no h).elim
  | istore n => obtain ⟨x, t, -, h⟩ := jx_i1_inv h; exact (jx_nx_no (jx_ite_inv h).2).elim
  | istore_n n => obtain ⟨x, t, -, h⟩ := jx_i1_inv h; exact (jx_nx_no (jx_ite_inv h).2).elim
  | lstore n => obtain ⟨x, t, -, h⟩ := jx_l1_inv h; exact (jx_nx_no (jx_ite_inv h).2).elim
  | lstore_n n => obtain ⟨x, t, -, h⟩ := jx_l1_inv h; exact (jx_nx_no (jx_ite_inv h).2).elim
  | astore n => obtain ⟨x, t, -, h⟩ := jx_a1_inv h; exact (jx_nx_no (jx_ite_inv h).2).elim
  | astore_n n => obtain ⟨x, t, -, h⟩ := jx_a1_inv h; exact (jx_nx_no (jx_ite_inv h).2).elim
  | iinc n k => obtain ⟨x, -, h⟩ := jx_li0_inv h; exact (jx_nx_no (jx_ite_inv h).2).elim
  | iadd => obtain ⟨x, y, t, -, h⟩ := jx_i2_inv h; exact (jx_nx_no h).elim
  | isub => obtain ⟨x, y, t, -, h⟩ := jx_i2_inv h; exact (jx_nx_no h).elim
  | imul => obtain ⟨x, y, t, -, h⟩ := jx_i2_inv h; exact (jx_nx_no h).elim
  | iand => obtain ⟨x, y, t, -, h⟩ := jx_i2_inv h; exact (jx_nx_no h).elim
  | ior => obtain ⟨x, y, t, -, h⟩ := jx_i2_inv h; exact (jx_nx_no h).elim
  | ishl => obtain ⟨x, y, t, -, h⟩ := jx_i2_inv h; exact (jx_nx_no h).elim
  | ishr => obtain ⟨x, y, t, -, h⟩ := jx_i2_inv h; exact (jx_nx_no h).elim
  | idiv => obtain ⟨x, y, t, -, h⟩ := jx_i2_inv h; exact (jx_nx_no (jx_ite0_inv h).2).elim
  | irem => obtain ⟨x, y, t, -, h⟩ := jx_i2_inv h; exact (jx_nx_no (jx_ite0_inv h).2).elim
  | ineg => obtain ⟨x, t, -, h⟩ := jx_i1_inv h; exact (jx_nx_no h).elim
  | i2l => obtain ⟨x, t, -, h⟩ := jx_i1_inv h; exact (jx_nx_no h).elim
  | l2i => obtain ⟨x, t, -, h⟩ := jx_l1_inv h; exact (jx_nx_no h).elim
  | ladd => obtain ⟨x, y, t, -, h⟩ := jx_l2_inv h; exact (jx_nx_no h).elim
  | lsub => obtain ⟨x, y, t, -, h⟩ := jx_l2_inv h; exact (jx_nx_no h).elim
  | lmul => obtain ⟨x, y, t, -, h⟩ := jx_l2_inv h; exact (jx_nx_no h).elim
  | land => obtain ⟨x, y, t, -, h⟩ := jx_l2_inv h; exact (jx_nx_no h).elim
  | lor => obtain ⟨x, y, t, -, h⟩ := jx_l2_inv h; exact (jx_nx_no h).elim
  | lcmp => obtain ⟨x, y, t, -, h⟩ := jx_l2_inv h; exact (jx_nx_no h).elim
  | lshl => obtain ⟨x, y, t, -, h⟩ := jx_li_inv h; exact (jx_nx_no h).elim
  | lshr => obtain ⟨x, y, t, -, h⟩ := jx_li_inv h; exact (jx_nx_no h).elim
  | lushr => obtain ⟨x, y, t, -, h⟩ := jx_li_inv h; exact (jx_nx_no h).elim
  | goto off => exact (jx_go_no h).elim
  | ifCond cd off => obtain ⟨x, t, -, h⟩ := jx_i1_inv h; exact (jx_br_no h).elim
  | if_icmp cd off => obtain ⟨x, y, t, -, h⟩ := jx_i2_inv h; exact (jx_br_no h).elim
  | tableswitch dflt lo hi offs =>
    obtain ⟨x, t, -, h⟩ := jx_i1_inv h
    split at h
    · exact (jx_go_no h).elim
    · split at h
      · exact (jx_go_no h).elim
      · cases h
  | lookupswitch dflt ps => obtain ⟨x, t, -, h⟩ := jx_i1_inv h; exact (jx_go_no (jx_ite_inv h).2).elim
  | dup =>
    replace h : jx_dup pc lc st σ = some (.inr r) := h
    unfold jx_dup at h
    split at h
    · exact (jx_nx_no (jx_ite_inv h).2).elim
    · cases h
  | dup2 =>
    replace h : jx_dup2 pc lc st σ = some (.inr r) := h
    unfold jx_dup2 at h
    split at h
    · exact (jx_nx_no (jx_ite_inv h).2).elim
    · cases h
  | getfield ix => obtain ⟨k, t, -, h⟩ := jx_a1_inv h; obtain ⟨kds, kd, -, -, -, h⟩ := jx_ob_inv h; exact (jx_nx_no h).elim
  | putfield ix =>
    replace h : jx_put O N a1 a2 pc lc st σ = some (.inr r) := h
    unfold jx_put at h
    split at h
    · obtain ⟨kds, kd, -, -, -, h⟩ := jx_ob_inv h
      split at h
      · exact (jx_nx_no h).elim
      · exact (jx_nx_no (jx_ite_inv (jx_ite_inv h).2).2).elim
    · obtain ⟨kds, kd, -, -, -, h⟩ := jx_ob_inv h
      exact (jx_nx_no (jx_ite_inv h).2).elim
    · cases h
  | iaload =>
    replace h : jx_ald O N pc 0 lc st σ = some (.inr r) := h
    unfold jx_ald at h
    split at h
    · obtain ⟨n, -, -, -, h⟩ := jx_ar_inv h; exact (jx_nx_no h).elim
    · cases h
  | laload =>
    replace h : jx_ald O N pc 1 lc st σ = some (.inr r) := h
    unfold jx_ald at h
    split at h
    · obtain ⟨n, -, -, -, h⟩ := jx_ar_inv h; exact (jx_nx_no h).elim
    · cases h
  | baload =>
    replace h : jx_ald O N pc 2 lc st σ = some (.inr r) := h
    unfold jx_ald at h
    split at h
    · obtain ⟨n, -, -, -, h⟩ := jx_ar_inv h; exact (jx_nx_no h).elim
    · cases h
  | iastore =>
    replace h : jx_ast O N pc 0 lc st σ = some (.inr r) := h
    unfold jx_ast at h
    split at h
    · obtain ⟨n, -, -, -, h⟩ := jx_ar_inv h; rw [if_neg (by decide)] at h; exact (jx_nx_no h).elim
    · cases h
  | bastore =>
    replace h : jx_ast O N pc 2 lc st σ = some (.inr r) := h
    unfold jx_ast at h
    split at h
    · obtain ⟨n, -, -, -, h⟩ := jx_ar_inv h; rw [if_pos rfl] at h; exact (jx_nx_no (jx_ite_inv h).2).elim
    · cases h
  | lastore =>
    replace h : jx_lst O N pc lc st σ = some (.inr r) := h
    unfold jx_lst at h
    split at h
    · obtain ⟨n, -, -, -, h⟩ := jx_ar_inv h; exact (jx_nx_no h).elim
    · cases h
  | arraylength =>
    obtain ⟨k, t, -, h⟩ := jx_a1_inv h
    unfold jx_aln at h
    obtain ⟨-, h⟩ := jx_ite_inv h
    split at h
    · exact (jx_nx_no (jx_ite_inv h).2).elim
    · cases h
  | _ =>
    exfalso
    have h9 : (none : Option jx_R) = some (.inr r) := h
    cases h9
theorem jx_ret_inv {i : Instr} {a1 a2 pc : Nat} {lc : jx_L} {st : List Value} {σ : jx_S} {v : Option Value} (h : jx_step O N M i a1 a2 pc lc st σ = some (.inr (.inl v))) :
    (i = .return_ ∧ v = none ∧ st = []) ∨ (∃ x, i = .ireturn ∧ v = some (.int x) ∧ st = [.int x] ∧ (a1 = 0 ∨ x = 0 ∨ x = 1)) ∨ (∃ x, i = .lreturn ∧ v = some (.long x) ∧ st = [.long x]) := by
  replace h := jx_end_inv h
  rcases h with ⟨rfl, h⟩ | ⟨rfl, h⟩ | ⟨rfl, h⟩ | ⟨ix, rfl, h⟩ | ⟨ix, rfl, h⟩
  · unfold jx_vrt at h
    split at h
    · cases h; exact Or.inl ⟨rfl, rfl, rfl⟩
    · cases h
  · unfold jx_irt at h
    split at h
    · rename_i x
      by_cases ha : a1 = 0
      · rw [if_pos ha] at h
        cases h
        exact Or.inr (Or.inl ⟨x, rfl, rfl, rfl, Or.inl ha⟩)
      · rw [if_neg ha] at h
        obtain ⟨hx, h2⟩ := jx_ite_inv h
        cases h2
        exact Or.inr (Or.inl ⟨x, rfl, rfl, rfl, Or.inr hx⟩)
    · cases h
  · unfold jx_lrt at h
    split at h
    · cases h; exact Or.inr (Or.inr ⟨_, rfl, rfl, rfl⟩)
    · cases h
  · exfalso
    unfold jx_cv1 at h
    split at h
    · cases h
    · split at h
      · obtain ⟨-, h⟩ := jx_ite_inv h
        split at h
        · obtain ⟨-, h⟩ := jx_ite_inv h; cases h
        · cases h
      · cases h
  · exfalso
    unfold jx_cs1 at h
    obtain ⟨-, h⟩ := jx_ite_inv h
    obtain ⟨-, h⟩ := jx_ite_inv h
    cases h
theorem jx_call_inv {i : Instr} {a1 a2 pc mj pc1 : Nat} {lc : jx_L} {st as st1 : List Value} {σ : jx_S} (h : jx_step O N M i a1 a2 pc lc st σ = some (.inr (.inr (mj, as, pc1, st1)))) :
    pc1 = pc + 3 ∧ a1 = mj ∧ jx_w8 st1 = true ∧ jx_wn as ≤ (M mj).2.2.2 ∧ ((∃ ix b bs kds, i = .invokevirtual ix ∧ (M mj).1 = false ∧ as = .ref b :: bs ∧ bs.length = (M mj).2.1 ∧ st = bs.reverse ++ .ref b :: st1 ∧ b < N ∧ O b = .inl ((M mj).2.2.1, kds)) ∨ (∃ ix, i = .invokestatic ix ∧ (M mj).1 = true ∧ as.length = (M mj).2.1 ∧ st = as.reverse ++ st1)) := by
  replace h := jx_end_inv h
  rcases h with ⟨rfl, h⟩ | ⟨rfl, h⟩ | ⟨rfl, h⟩ | ⟨ix, rfl, h⟩ | ⟨ix, rfl, h⟩
  · exfalso
    unfold jx_vrt at h
    split at h <;> cases h
  · exfalso
    unfold jx_irt at h
    split at h
    · split at h
      · cases h
      · obtain ⟨-, h⟩ := jx_ite_inv h; cases h
    · cases h
  · exfalso
    unfold jx_lrt at h
    split at h <;> cases h
  · unfold jx_cv1 at h
    obtain ⟨h1, h2⟩ := jx_ite0_inv h
    split at h2
    · rename_i b r hdr
      obtain ⟨⟨hb, hln, h8, hwn⟩, h3⟩ := jx_ite_inv h2
      split at h3
      · rename_i c1 kds ho
        obtain ⟨h4, h5⟩ := jx_ite_inv h3
        cases h5
        subst h4
        refine ⟨rfl, rfl, h8, hwn, Or.inl ⟨ix, b, _, kds, rfl, by simpa using h1, rfl, by simpa using hln, ?_, hb, ho⟩⟩
        rw [List.reverse_reverse, ← hdr, List.take_append_drop]
      · cases h3
    · cases h2
  · unfold jx_cs1 at h
    obtain ⟨h1, h2⟩ := jx_ite_inv h
    obtain ⟨⟨hln, h8, hwn⟩, h3⟩ := jx_ite_inv h2
    cases h3
    refine ⟨rfl, rfl, h8, hwn, Or.inr ⟨ix, rfl, h1, by simpa using hln, ?_⟩⟩
    rw [List.reverse_reverse, List.take_append_drop]
theorem jx_sl_len (ad : Nat → Nat) (as : List Value) : (lg_sl (jx_vs ad as)).length = jx_wn as := by
  induction as with
  | nil => rfl
  | cons v as ih =>
    simp only [lg_sl, jx_vs, jx_wn, List.map_cons, List.flatMap_cons, List.length_append, List.sum_cons, jx_cv_cat] at ih ⊢
    rw [ih]
    rcases lv_cat v with e | e <;> simp [e]
/-- THE WALK, at depth d: in every activation -/
def jx_P (C : jx_C) (O : jx_O) (N : Nat) (M : jx_M) (cl : List vw_C) (Ts : List Cond) (bytes : Nat → ByteArray) (own : Nat → String) (mx : Nat → Nat) (rt : Nat → Option FieldType) (D : va_G) (dA : Nat → ClassId) (ad : Nat → Nat) (l : Launch) (d : Nat) : Prop :=
  ∀ (p : Program) (e : Env) (R : Room) (s : State) (m : MethodId) (args : Array Value) (below : List Frame) (meth : Method) (c : Code) (cells slots : Nat) (Q : State → Prop) (A : Nat → Prop) (H0 : Heap) (mi : Nat),
    p.tables.exec = Jvm.exec → c.code = bytes mi → c.maxLocals = mx mi → s.vm.findClass (own mi) = some m.cls → (∀ w ∈ Ts, w.before args s = true) → va_K D cl (jx_tys dA) s → (∀ q, H0.size ≤ q → A q) → (d ≤ R.frames ∧ 100 * d ≤ R.locals) → (cells ≤ R.cells ∧ slots ≤ R.slots) →
    ∀ (n pc : Nat) (lc : jx_L) (st : List Value) (σ : jx_S) (v : Option Value) (σ' : jx_S), jx_run C O N M n d mi pc lc st σ = some (v, σ') →
    ∀ (H : Heap) (locs : List Loc) (ls : Array Slot), lv_has ls (mx mi) (jx_cl ad lc) → va_P D cl (jx_W ad dA O N σ) H → va_D A (jx_W ad dA O N σ) → va_S A H0 H locs →
    (∀ (pcR : Nat) (iR : Instr) (H1 : Heap) (locs1 : List Loc) (ls1 : Array Slot), decode (bytes mi) pcR = .ok (iR, 1) → jx_ret (rt mi) iR v → va_P D cl (jx_W ad dA O N σ') H1 → va_D A (jx_W ad dA O N σ') → va_S A H0 H1 locs1 → W p l e R s m args below meth c H1 locs1 cells slots Q (F0 m pcR ls1 v.toList)) →
    W p l e R s m args below meth c H locs cells slots Q (F0 m pc ls (jx_vs ad st))
/-- a contract out of the walk -/
theorem jx_met (hOk : jx_Ok C O N M cl Ts bytes own yy mx rt) {l : Launch} {d : Nat} (hP : jx_P C O N M cl Ts bytes own mx rt D dA ad l d) {mj n : Nat} {as : List Value} {σ σ' : jx_S} {v : Option Value} (hm : jx_mok M cl Ts bytes own yy mx rt mj) (hrun : jx_run C O N M n d mj 0 (lv_args 0 as) [] σ = some (v, σ')) (hwn : jx_wn as ≤ (M mj).2.2.2) : jx_Met l D dA ad O N cl Ts bytes yy mx rt d mj as σ v σ' := by
  obtain ⟨hcode, hini, hcls, hpl, hmh, hds, hmx, hm4⟩ := hm
  have hlen : (lg_sl (jx_vs ad as)).length ≤ mx mj := by rw [jx_sl_len]; omega
  intro sz
  refine Met.ofW (cc := bytes mj) (maxL := mx mj) (ret := rt mj) hpl rfl ?_
  intro p e s m args below meth c s₁ B hml hv
  obtain ⟨rfl, hsz, hPw, hK, hD0⟩ := hv
  have hx := B.exec
  have hb := B.bytes
  have hr := B.returns
  have hts0 := atoms_spec (ws := Cond.code (yy mj) (bytes mj) (mx mj) (rt mj) :: Ts) B.pre
  have hts : ∀ w ∈ Ts, w.before (jx_vs ad as).toArray s = true := fun w h => hts0 w (List.mem_cons_of_mem _ h)
  have hown : s.vm.findClass (own mj) = some m.cls := by rw [← hcls]; exact findClass_of_methodNamed B.named
  have hlocks := B.notSynchronized
  subst hsz
  have hD := hD0.self (sz := s.heap.size)
  have hS : va_S (va_A (jx_W ad dA O N σ) s.heap.size) s.heap s.heap [] := va_S.rf
  have hl := lv_entry (jx_vs ad as) (n := mx mj) hlen
  rw [lg_entry_eq]
  rw [jx_args_cl ad as 0] at hl
  refine hP p e _ s m _ below meth c 0 0 _ (va_A (jx_W ad dA O N σ) s.heap.size) s.heap mj hx hb hml hown hts hK (fun q h => Or.inr h) ⟨Nat.le_refl _, Nat.le_refl _⟩ ⟨Nat.zero_le _, Nat.zero_le _⟩ n 0 _ [] σ v σ' hrun s.heap [] _ hl hPw hD hS ?_
  intro pcR iR H1 locs1 ls1 hdg hret hP1 hD1 hS1
  rcases hret with ⟨rfl, rfl, hrt⟩ | ⟨x, rfl, rfl, ty, hrt, hn⟩ | ⟨x, rfl, rfl, hrt⟩
  · exact W.vret hx hb (hr.trans hrt) (fun t ht hW => ⟨⟨rfl, by rw [ht]; exact hP1⟩, hS1.F ht⟩) hS1.2.2 hdg
  · exact W.zret hx hb (hr.trans hrt) hn (fun t ht hW => ⟨⟨rfl, by rw [ht]; exact hP1⟩, hS1.F ht⟩) hS1.2.2 hdg
  · exact W.lret hx hb (hr.trans hrt) (fun t ht hW => ⟨⟨rfl, by rw [ht]; exact hP1⟩, hS1.F ht⟩) hS1.2.2 hdg
theorem jx_blind {as : List Value} {σ : jx_S} {sz : Nat} : FrameBlind (va_Pc (jx_vs ad as) (fun U => U.heap.size = sz ∧ va_P D cl (jx_W ad dA O N σ) U.heap ∧ va_K D cl (jx_tys dA) U ∧ va_D (fun _ => True) (jx_W ad dA O N σ))) := by
  intro a U g mk q
  obtain ⟨q0, q1, qP, qK, qD⟩ := q
  exact ⟨q0, q1, qP, va_K.moved (u := U) (U := U.calling g mk a) (Vm.Alike.refl U.vm) qK, qD⟩
theorem jx_goodc {big ws : List Cond} {c1 c2 c3 c4 : Cond} (hg : GoodIn big big) (h1 : c1 ∈ big) (h2 : c2 ∈ big) (h3 : c3 ∈ big) (h4 : c4 ∈ big) (hw : ∀ w ∈ ws, w ∈ big) : GoodIn big ([c1, c2, c3, c4] ++ ws) := by
  intro w h
  apply hg
  rcases List.mem_append.mp h with h | h
  · simp only [List.mem_cons, List.not_mem_nil, or_false] at h
    rcases h with rfl | rfl | rfl | rfl <;> assumption
  · exact hw w h
theorem jx_goodc3 {big ws : List Cond} {c1 c2 c3 : Cond} (hg : GoodIn big big) (h1 : c1 ∈ big) (h2 : c2 ∈ big) (h3 : c3 ∈ big) (hw : ∀ w ∈ ws, w ∈ big) : GoodIn big ([c1, c2, c3] ++ ws) := by
  intro w h
  apply hg
  rcases List.mem_append.mp h with h | h
  · simp only [List.mem_cons, List.not_mem_nil, or_false] at h
    rcases h with rfl | rfl | rfl <;> assumption
  · exact hw w h
set_option maxHeartbeats 4000000 in
theorem jx_walk1 (hOk : jx_Ok C O N M cl Ts bytes own yy mx rt) (l : Launch) (d : Nat) (ihd : ∀ d1, d = d1 + 1 → jx_P C O N M cl Ts bytes own mx rt D dA ad l d1) : jx_P C O N M cl Ts bytes own mx rt D dA ad l d := by
  intro p e R s m args below meth c cells slots Q A H0 mi hx hb hml hown hts hK hA hR hcs n
  induction n with
  | zero => intro pc lc st σ v σ' h; cases h
  | succ n ih =>
    intro pc lc st σ v σ' h H locs ls hl hP hD hS kk
    rw [jx_run] at h
    split at h
    · cases h
    · rename_i i a1 a2 hC
      split at h
      · cases h
      · rename_i pc1 l1 st1 σ1 hs
        exact jx_one hOk hx hb hown hts hK hC hs hl hP hD hS (fun H1 locs1 ls1 hP1 hD1 hS1 hl1 => ih pc1 l1 st1 σ1 v σ' h H1 locs1 ls1 hl1 hP1 hD1 hS1 kk)
      · rename_i v1 hs
        cases h
        obtain ⟨hdec, -, -, -, -, -, -, -, hr1, hr2, hr3, -, -, -, -, -, -, -⟩ := hOk
        obtain ⟨len, hdg, hlen⟩ := hdec mi pc i a1 a2 hC
        rcases jx_ret_inv hs with ⟨rfl, rfl, rfl⟩ | ⟨x, rfl, rfl, rfl, hx1⟩ | ⟨x, rfl, rfl, rfl⟩
        · obtain rfl := hlen.resolve_left (by simp [jx_len])
          exact kk pc _ H locs ls hdg (Or.inl ⟨rfl, rfl, hr3 _ _ _ _ hC⟩) hP hD hS
        · obtain rfl := hlen.resolve_left (by simp [jx_len])
          refine kk pc _ H locs ls hdg (Or.inr (Or.inl ⟨x, rfl, rfl, _, hr1 _ _ _ _ hC, ?_⟩)) hP hD hS
          by_cases h0 : a1 = 0
          · rw [if_pos h0]; rfl
          · rw [if_neg h0]; exact (jx_narrow_b (hx1.resolve_left h0)).1
        · obtain rfl := hlen.resolve_left (by simp [jx_len])
          exact kk pc _ H locs ls hdg (Or.inr (Or.inr ⟨x, rfl, rfl, hr2 _ _ _ _ hC⟩)) hP hD hS
      · rename_i mj as pc1 st1 hs
        obtain ⟨rfl, rfl, h8, hwn, hcall⟩ := jx_call_inv hs
        split at h
        · cases h
        · rename_i d1
          have hOk0 := hOk
          split at h
          · rename_i v1 hpr
            obtain ⟨hdec, -, -, -, -, -, hcv, hcs1, hr1, hr2, hr3, hgood, hp1, hp2, -, -, -, -⟩ := hOk
            obtain ⟨len, hdg, hlen⟩ := hdec mi pc i _ a2 hC
            have h8' : (st1.map fun v => v.category).sum ≤ 8 := by simpa [jx_w8] using h8
            have h8c : ((jx_vs ad st1).map fun v => v.category).sum ≤ 8 := by
              have : ((jx_vs ad st1).map fun v => v.category) = st1.map fun v => v.category := by
                rw [List.map_map]; exact List.map_congr_left (fun v _ => jx_cv_cat ad v)
              rw [this]
              exact h8'
            have k1 := ih (pc + 3) lc (v1 :: st1) σ v σ' h H locs ls hl hP hD hS kk
            rcases hcall with ⟨ix, b, bs, kds, rfl, hst, rfl, hbl, rfl, hbN, hO⟩ | ⟨ix, rfl, hst, hbl, rfl⟩
            · exfalso
              unfold jx_prim at hpr
              split at hpr
              · rename_i e1; cases e1
              · rename_i e1; cases e1
              · cases hpr
            · obtain rfl := hlen.resolve_left (by simp [jx_len])
              unfold jx_prim at hpr
              split at hpr
              · rename_i x y
                obtain ⟨e1, e2⟩ := jx_ite_inv hpr
                cases e2
                subst e1
                obtain ⟨w1, w2, w3, w4⟩ := hp1 _ _ _ _ hC
                exact va_mmax (rest := jx_vs ad st1) hx hb (hml.trans hl.1.symm) hown (hts _ w1) (hts _ w2) (hts _ w3) (hts _ w4) (by omega) (by omega) hcs.1 hcs.2 hdg k1
              · rename_i x y
                obtain ⟨e1, e2⟩ := jx_ite_inv hpr
                cases e2
                subst e1
                obtain ⟨w1, w2, w3, w4⟩ := hp2 _ _ _ _ hC
                exact va_mmin_long (rest := jx_vs ad st1) hx hb (hml.trans hl.1.symm) hown (hts _ w1) (hts _ w2) (hts _ w3) (hts _ w4) (by omega) (by omega) hcs.1 hcs.2 hdg k1
              · cases hpr
          obtain ⟨hmj, h⟩ := jx_ite_inv h
          split at h
          · cases h
          · rename_i v1 σ1 hrun
            have hP1 := ihd d1 rfl
            obtain ⟨hdec, -, -, -, -, -, hcv, hcs1, hr1, hr2, hr3, hgood, hp1, hp2, -, -, -, -⟩ := hOk
            obtain ⟨len, hdg, hlen⟩ := hdec mi pc i _ a2 hC
            have h8' : (st1.map fun v => v.category).sum ≤ 8 := by simpa [jx_w8] using h8
            have h8c : 2 * (F0 m pc ls (jx_vs ad st)).monitorRoom + ((jx_vs ad st1).map fun v => v.category).sum ≤ 8 := by
              have : ((jx_vs ad st1).map fun v => v.category) = st1.map fun v => v.category := by
                rw [List.map_map]; exact List.map_congr_left (fun v _ => jx_cv_cat ad v)
              rw [this]
              show 2 * 0 + _ ≤ 8
              omega
            have kkk : ∀ (H1 : Heap) (locs1 : List Loc), va_P D cl (jx_W ad dA O N σ1) H1 → va_D A (jx_W ad dA O N σ1) → va_S A H0 H1 locs1 → W p l e R s m args below meth c H1 locs1 cells slots Q (F0 m (pc + 3) ls ((v1.map (jx_cv ad)).toList ++ jx_vs ad st1)) := by
              intro H1 locs1 hP2 hD2 hS2
              have := ih (pc + 3) lc (v1.toList ++ st1) σ1 v σ' h H1 locs1 ls hl hP2 hD2 hS2 kk
              have e : jx_vs ad (v1.toList ++ st1) = (v1.map (jx_cv ad)).toList ++ jx_vs ad st1 := by cases v1 <;> simp [jx_vs]
              rw [e] at this
              exact this
            rcases hcall with ⟨ix, b, bs, kds, rfl, hst, rfl, hbl, rfl, hbN, hO⟩ | ⟨ix, rfl, hst, hbl, rfl⟩
            · obtain rfl := hlen.resolve_left (by simp [jx_len])
              obtain ⟨w1, w2, w3, hm, T, NN, hcl⟩ := hcv _ _ _ _ _ hC hst
              have hM := jx_met hOk0 hP1 (ad := ad) hm hrun hwn
              obtain ⟨m1, m2, m3, m4, m5, m6, m7, m8⟩ := hm
              refine jx_call (a := #[]) (σ := σ) (σ' := σ1) (v := v1) (va_runV (As := jx_vs ad bs) (b := ad b) (rest := jx_vs ad st1) (C := own _) ⟨hx, hb, hml, hown, hts⟩ (hM H.size) (cwV (M _).2.1 hts (jx_goodc hgood w1 w2 w3 m2 (fun w hw => by rcases List.mem_cons.mp hw with rfl | hw; exact m1; exact hw)) rfl rfl rfl ⟨m3, m5.1, m5.2, m6⟩ ⟨hR.1, by show 8 + (_ + 11) + 100 * d1 ≤ R.locals; omega⟩) ⟨jx_blind, va_recv hK hP hcl (jx_Wobj hbN hO), fun U hU hW => ⟨rfl, by rw [hU], by rw [hU]; exact hP, va_K.moved hW.alike hK, hD.weaken (fun _ _ _ _ => trivial)⟩⟩ rfl (by rw [List.length_map]; exact hbl) hl.1 (by simp [jx_vs, jx_cv]) h8c hdg ⟨hcs.1, hcs.2⟩) hD hS hA kkk
            · obtain rfl := hlen.resolve_left (by simp [jx_len])
              obtain ⟨w1, w2, hm⟩ := hcs1 _ _ _ _ _ hC hmj hst
              have hM := jx_met hOk0 hP1 (ad := ad) hm hrun hwn
              obtain ⟨m1, m2, m3, m4, m5, m6, m7, m8⟩ := hm
              refine jx_call (a := #[]) (σ := σ) (σ' := σ1) (v := v1) (va_runS (As := jx_vs ad as) (rest := jx_vs ad st1) ⟨hx, hb, hml, hown, hts⟩ (hM H.size) (va_cwS (M _).2.1 hts (jx_goodc3 hgood w1 w2 (by rw [m3]; exact m2) (fun w hw => by rcases List.mem_cons.mp hw with rfl | hw; exact m1; exact hw)) rfl rfl rfl ⟨m5.1, m5.2, m6⟩ ⟨hR.1, by show 8 + (_ + 11) + 100 * d1 ≤ R.locals; omega⟩) ⟨jx_blind, fun U hU hW => ⟨rfl, by rw [hU], by rw [hU]; exact hP, va_K.moved hW.alike hK, hD.weaken (fun _ _ _ _ => trivial)⟩⟩ rfl (by rw [List.length_map]; exact hbl) hl.1 (by simp [jx_vs]) h8c hdg ⟨hcs.1, hcs.2⟩) hD hS hA kkk
/-- THE WALK -/
theorem jx_walk (hOk : jx_Ok C O N M cl Ts bytes own yy mx rt) (l : Launch) : ∀ d, jx_P C O N M cl Ts bytes own mx rt D dA ad l d
  | 0 => jx_walk1 hOk l 0 (fun d1 h => by omega)
  | d + 1 => jx_walk1 hOk l (d + 1) (fun d1 h => by have e : d1 = d := by omega
                                                    subst e
                                                    exact jx_walk hOk l d1)
end JXS
