/-! CONSTRUCTORS, 6: one instruction. -/
section JC1
variable {p : Program} {l : Launch} {e : Env} {R : Room} {s s0 : State} {m : MethodId} {args : Array Value} {below : List Frame} {meth : Method} {c : Code} {H : Heap} {locs : List Loc} {cells slots : Nat} {Q : State → Prop}
variable {D : va_G} {dA : Nat → ClassId} {ad : Nat → Nat} {h n0 m0 : Nat}
/-- what stands around a constructor's walk -/
def jcA (p : Program) (s s0 : State) (m : MethodId) (args : Array Value) (meth : Method) (c : Code) (D : va_G) (dA : Nat → ClassId) (ad : Nat → Nat) (h n0 mi : Nat) : Prop :=
  p.tables.exec = Jvm.exec ∧ c.code = jc_by mi ∧ c.maxLocals = jc_mx mi ∧ s.vm.findClass (jc_own mi) = some m.cls ∧ (∀ w ∈ jt_Ts, w.before args s = true) ∧ va_K D jt_cl (jx_tys dA) s ∧ s.heap.size = h + n0 ∧ (∀ k, k < 1000 → ad k = h + k) ∧ (mi < 13 → meth.name = "<init>") ∧ jFrom s0 s ∧ jW1 s0 ∧ vk_R "LazyStrict$Tokens" 33 "int list let in if then else case of empty nil cons error " (ad 1000) s0 ∧ s0.heap.size ≤ h ∧ ∃ (a2 : Nat) (fm : Value), jsU s0 s0 (ad 1000) a2 fm
/-- the heap's size -/
theorem jc_size {T : State} {ws : jc_W} (X : Stand p l e R s m args below meth c T locs cells slots) (hT : T.heap = H) (hs : s.heap.size = h + n0) (hc : cells + n0 = ws.length) (had : ∀ k, k < 1000 → ad k = h + k) (hn : ws.length ≤ 1000) (hP : va_P D jt_cl (jc_ww ad dA ws) H) (hS : va_S (fun q : Nat => h ≤ q) s.heap H locs) : H.size = h + ws.length := by
  have h1 : T.heap.size ≤ s.heap.size + cells := X.same.2.2.1
  rw [hT] at h1
  have h2 := hS.1
  by_cases z : ws.length = 0
  · omega
  · have hk : ws.length - 1 < ws.length := by omega
    have h3 := (hP (ws.length - 1) _ (jc_ww_get (List.getElem?_eq_getElem hk))).lt
    have h4 : ad (ws.length - 1) < H.size := h3
    rw [had _ (by omega)] at h4
    omega
/-- the walk goes on, wherever the world is as ws says -/
def jcG (p : Program) (l : Launch) (e : Env) (R : Room) (s : State) (m : MethodId) (args : Array Value) (below : List Frame) (meth : Method) (c : Code) (Q : State → Prop) (D : va_G) (dA : Nat → ClassId) (ad : Nat → Nat) (h n0 m0 mi : Nat) (pc : Nat) (lc : jx_L) (st : List Value) (ws : jc_W) : Prop :=
  ∀ (H : Heap) (locs : List Loc) (ls : Array Slot) (cells slots : Nat), cells + n0 = ws.length → slots + m0 = jc_sl ws → lv_has ls (jc_mx mi) (jx_cl ad lc) → va_P D jt_cl (jc_ww ad dA ws) H → va_S (fun q : Nat => h ≤ q) s.heap H locs → W p l e R s m args below meth c H locs cells slots Q (F0 m pc ls (jx_vs ad st))
theorem jc_ld_inv {k pc i pc1 : Nat} {lc l1 : jx_L} {st st1 : List Value} {ws ws1 : jc_W} (hs : jc_ld k pc i lc st ws = some (.inl (pc1, l1, st1, ws1))) : pc1 = pc ∧ l1 = lc ∧ ws1 = ws ∧ ∃ v, lc.lookup i = some v ∧ st1 = v :: st ∧ ((k = 0 ∧ ∃ x, v = .int x) ∨ (k = 1 ∧ ∃ x, v = .long x) ∨ (k = 2 ∧ ∃ x, v = .ref x)) := by
  unfold jc_ld at hs
  split at hs
  · rename_i x e1
    cases hs
    exact ⟨rfl, rfl, rfl, _, e1, rfl, Or.inl ⟨rfl, x, rfl⟩⟩
  · rename_i x e1
    cases hs
    exact ⟨rfl, rfl, rfl, _, e1, rfl, Or.inr (Or.inl ⟨rfl, x, rfl⟩)⟩
  · rename_i x e1
    cases hs
    exact ⟨rfl, rfl, rfl, _, e1, rfl, Or.inr (Or.inr ⟨rfl, x, rfl⟩)⟩
  · cases hs
theorem jc_ty_inv {t : ArrayType} {kt : Nat} (h : jc_ty t = some kt) : (t = .int ∧ kt = 0) ∨ (t = .long ∧ kt = 1) ∨ (t = .boolean ∧ kt = 2) := by
  cases t <;> simp_all [jc_ty]
theorem jc_ty_ok {ci : Nat} (h : ci < 13) : ∀ j, j < (jt_cw ci).2.2 → parseFieldDescriptor ((jt_cw ci).2.1 j).2.2.1 = some (jt_tyc ci j) := fun j hj => by
  have := List.all_eq_true.mp (List.all_eq_true.mp jt_tyk ci (List.mem_range.mpr h)) j (List.mem_range.mpr hj)
  simpa using this
theorem jc_def_ok {ad : Nat → Nat} {ci : Nat} (_ : ci < 13) : ∀ j, j < (jt_cw ci).2.2 → defaultValue (jt_tyc ci j) = vp_V ((jc_def ci).map (jx_cv ad)) j := fun j hj => by
  unfold vp_V jc_def
  rw [List.getD_eq_getElem?_getD, List.map_map, List.getElem?_map, List.getElem?_range hj]
  show _ = jx_cv ad (defaultValue (jt_tyc ci j))
  cases jt_tyc ci j <;> rfl
/-- a new cell lies behind all others -/
theorem jc_newq {T : State} {ws : jc_W} {q : Nat} {E : va_E} (X : Stand p l e R s m args below meth c T locs (cells + 1) slots) (hT : T.heap = H) (hs : s.heap.size = h + n0) (hc : cells + n0 = ws.length) (had : ∀ k, k < 1000 → ad k = h + k) (hn : ws.length < 1000) (hP : va_P D jt_cl (jc_ww ad dA ws ++ [(q, E)]) H) (hD : va_D (fun q : Nat => h ≤ q) (jc_ww ad dA ws ++ [(q, E)])) : q = ad ws.length := by
  have h1 : T.heap.size ≤ s.heap.size + (cells + 1) := X.same.2.2.1
  rw [hT] at h1
  have e1 : (jc_ww ad dA ws ++ [(q, E)])[ws.length]? = some (q, E) := by
    rw [List.getElem?_append_right (by rw [jc_ww_len]; exact Nat.le_refl _), jc_ww_len, Nat.sub_self]; rfl
  have h2 : q < H.size := (hP _ _ e1).lt
  have h3 : h ≤ q := hD.2 _ _ e1
  rw [had _ hn]
  apply Classical.byContradiction
  intro z
  have hk : q - h < ws.length := by omega
  have e2 : (jc_ww ad dA ws ++ [(q, E)])[q - h]? = some (ad (q - h), jc_e ad dA ws[q - h]) := by
    rw [List.getElem?_append_left (by rw [jc_ww_len]; exact hk)]
    exact jc_ww_get (List.getElem?_eq_getElem hk)
  have := hD.1 _ _ _ _ e2 e1 (by show ad (q - h) = q; rw [had _ (by omega)]; omega)
  omega
theorem jc_finA : (List.range 13).all (fun ci => (List.range (jt_cw ci).2.2).all fun j => !jc_rfy (jt_tyc ci j) || ((jt_cw ci).2.1 j).2.2.2) = true := by decide +kernel
theorem jc_cwA : (List.range 13).all (fun mi => decide ((jt_cw mi).1 = jc_own mi)) = true := by decide +kernel
theorem jc_nmd {ci : Nat} (h : ci < 13) : ∀ a, a < (jt_cw ci).2.2 → ∀ b, b < (jt_cw ci).2.2 → a ≠ b → ((jt_cw ci).2.1 a).2.1 ≠ ((jt_cw ci).2.1 b).2.1 := fun a ha b hb hab => by
  rcases Nat.lt_or_gt_of_ne hab with q | q
  · exact fun z => jt_nm h hb q z.symm
  · exact jt_nm h ha q
theorem jc_fits {t : FieldType} {x : Nat} (h : jc_rfy t = true) : narrow t (.ref x) = .ref x ∧ fits t (.ref x) = true := by
  cases t <;> first | exact ⟨rfl, rfl⟩ | cases h
/-- which call an instruction is -/
theorem jc_cs_inv {i : Instr} {mi pc mj k : Nat} {st : List Value} (h : jc_cs i mi pc st = some (mj, k)) : ∃ ix, (ix, mj, k) ∈ jc_iv mi ∧ ((i = .invokespecial ix ∧ (k = 0 ∨ k = 1 ∨ k = 4)) ∨ (i = .invokevirtual ix ∧ (k = 2 ∨ k = 5 ∨ k = 6)) ∨ (i = .invokestatic ix ∧ k = 3)) := by
  unfold jc_cs at h
  split at h
  · rename_i ix
    cases hf : (jc_iv mi).find? (fun e => e.1 == ix) with
    | none => rw [hf] at h; cases h
    | some ee =>
      rw [hf] at h
      obtain ⟨hq, h2⟩ := jx_ite_inv h
      cases h2
      have hix : ee.1 = ix := by simpa using List.find?_some hf
      exact ⟨ix, by rw [← hix]; exact List.mem_of_find?_eq_some hf, Or.inl ⟨rfl, hq⟩⟩
  · rename_i ix
    cases hf : (jc_iv mi).find? (fun e => e.1 == ix) with
    | none => rw [hf] at h; cases h
    | some ee =>
      rw [hf] at h
      obtain ⟨hq, h2⟩ := jx_ite_inv h
      cases h2
      have hix : ee.1 = ix := by simpa using List.find?_some hf
      exact ⟨ix, by rw [← hix]; exact List.mem_of_find?_eq_some hf, Or.inr (Or.inl ⟨rfl, hq⟩)⟩
  · rename_i ix
    cases hf : (jc_iv mi).find? (fun e => e.1 == ix) with
    | none => rw [hf] at h; cases h
    | some ee =>
      rw [hf] at h
      obtain ⟨hq, h2⟩ := jx_ite_inv h
      cases h2
      have hix : ee.1 = ix := by simpa using List.find?_some hf
      exact ⟨ix, by rw [← hix]; exact List.mem_of_find?_eq_some hf, Or.inr (Or.inr ⟨rfl, hq⟩)⟩
  · cases h
/-- the words of the calls -/
def jc_ivk (mi : Nat) (e : Nat × Nat × Nat) : Bool := match e.2.2 with
  | 4 => decide (Cond.methodLink (jc_own mi) e.1 Lib.objectInit ∈ lw_tbl)
  | 5 => decide (mi = 2 ∧ e.1 = 35)
  | 6 => decide (mi = 2 ∧ e.1 = 41)
  | 0 => decide (e.2.1 < 13) && decide (Cond.methodLink (jc_own mi) e.1 (jc_yy e.2.1) ∈ lw_tbl)
  | 1 => decide (e.2.1 < 13) && decide (Cond.methodLinkNest (jc_own mi) e.1 (jc_yy e.2.1) "LazyStrict" ∈ lw_tbl)
  | 2 => decide (e.2.1 = 14) && decide (Cond.methodLink (jc_own mi) e.1 (jc_yy e.2.1) ∈ lw_tbl)
  | 3 => decide (e.2.1 = 13) && decide (Cond.methodLink (jc_own mi) e.1 (jc_yy e.2.1) ∈ lw_tbl)
  | _ => false
theorem jc_ivA1 : (List.range 3).all (fun mi => (jc_iv mi).all (jc_ivk mi)) = true := by decide +kernel
theorem jc_ivA2 : (List.range 15).all (fun mi => decide (mi < 3) || (jc_iv mi).all (jc_ivk mi)) = true := by decide +kernel
theorem jc_ivD {mi : Nat} {e : Nat × Nat × Nat} (h : mi < 15) (he : e ∈ jc_iv mi) : jc_ivk mi e = true := by
  by_cases h3 : mi < 3
  · exact List.all_eq_true.mp (List.all_eq_true.mp jc_ivA1 mi (List.mem_range.mpr h3)) e he
  · have := List.all_eq_true.mp jc_ivA2 mi (List.mem_range.mpr h)
    rw [show decide (mi < 3) = false from by simp [h3], Bool.false_or] at this
    exact List.all_eq_true.mp this e he
theorem jc_oiA : Cond.instanceMethod Lib.objectInit ∈ lw_tbl ∧ Cond.code Lib.objectInit ⟨#[0xb1]⟩ 1 none ∈ lw_tbl := by decide +kernel
theorem jc_w8c {ad : Nat → Nat} {st : List Value} (h : jx_w8 st = true) : ((jx_vs ad st).map fun v => v.category).sum ≤ 8 := by
  have : ((jx_vs ad st).map fun v => v.category) = st.map fun v => v.category := by
    rw [List.map_map]; exact List.map_congr_left (fun v _ => jx_cv_cat ad v)
  rw [this]
  simpa [jx_w8] using h
theorem jc_fh {s0 s : State} {H : Heap} {locs : List Loc} {h : Nat} (hF : jFrom s0 s) (hS : va_S (fun q : Nat => h ≤ q) s.heap H locs) (hs : s0.heap.size ≤ h) : ∀ a, a < s0.heap.size → H[a]? = s0.heap[a]? := fun a ha => by
  have h1 := hF.2 a ha
  have h2 : a < s.heap.size := by
    rw [Array.getElem?_eq_getElem ha] at h1
    exact (Array.getElem?_eq_some_iff.mp h1).1
  rw [hS.2.1 a h2 (by show ¬ h ≤ a; omega)]
  exact h1
theorem jc_one {i : Instr} {mi pc pc1 : Nat} {lc l1 : jx_L} {st st1 : List Value} {ws ws1 : jc_W} (Z : jcA p s s0 m args meth c D dA ad h n0 mi) (hmi : mi < 15) (hC : (jc_C mi).lookup pc = some i) (hs : jc_step i mi pc lc st ws = some (.inl (pc1, l1, st1, ws1))) (hb1 : ws1.length ≤ n0 + R.cells) (hb2 : jc_sl ws1 ≤ m0 + R.slots) (h1000 : ws1.length ≤ 1000) (hR : 6 ≤ R.frames ∧ 600 ≤ R.locals)
    (k : jcG p l e R s m args below meth c Q D dA ad h n0 m0 mi pc1 l1 st1 ws1) : jcG p l e R s m args below meth c Q D dA ad h n0 m0 mi pc lc st ws := by
  obtain ⟨hx, hb, hml, hown, hts, hK, hs0, had, hnm, hF, hW1, hstr, hs0h, a2, fm, hjs⟩ := id Z
  have hdg := jc_dec hC
  intro H locs ls cells slots hc hsl hl hP hS
  have hA : ∀ q : Nat, s.heap.size ≤ q → (fun q : Nat => h ≤ q) q := fun q hq => by show h ≤ q; omega
  unfold jc_step at hs
  split at hs
  · cases hs
    exact lv_iconst hx hb hdg rfl (k H locs ls cells slots hc hsl hl hP hS)
  · cases hs
    exact lv_bipush hx hb hdg rfl (k H locs ls cells slots hc hsl hl hP hS)
  · cases hs
    exact lv_sipush hx hb hdg rfl (k H locs ls cells slots hc hsl hl hP hS)
  · cases hs
    exact lv_lconst hx hb hdg rfl (k H locs ls cells slots hc hsl hl hP hS)
  · split at hs
    · rename_i q
      obtain ⟨rfl, rfl⟩ := q
      cases hs
      exact va_ldcS (own := "LazyStrict$Tokens") hx hb hown (vk_R.warm hF.1 hstr) hdg (k H locs ls cells slots hc hsl hl hP hS)
    · split at hs
      · rename_i v hv
        cases hs
        unfold jc_ic at hv
        split at hv
        · rename_i q
          cases hv
          rcases q with ⟨rfl, rfl⟩ | ⟨rfl, rfl⟩
          · exact lv_ldc hx hb hown (hts _ (jt_inT (by decide +kernel) rfl)) hdg (k H locs ls cells slots hc hsl hl hP hS)
          · exact lv_ldc hx hb hown (hts _ (jt_inT (by decide +kernel) rfl)) hdg (k H locs ls cells slots hc hsl hl hP hS)
        · cases hv
      · cases hs
  · split at hs
    · rename_i q
      obtain ⟨rfl, rfl⟩ := q
      cases hs
      exact lv_ldc2 hx hb hown (hts _ (jt_inT (by decide +kernel) rfl)) hdg (k H locs ls cells slots hc hsl hl hP hS)
    · cases hs
  · obtain ⟨rfl, rfl, rfl, v, e1, rfl, ⟨-, x, rfl⟩ | ⟨q, -⟩ | ⟨q, -⟩⟩ := jc_ld_inv hs
    · exact lv_iload hx hb hdg (jx_loc hl e1) (k H locs ls cells slots hc hsl hl hP hS)
    · cases q
    · cases q
  · obtain ⟨rfl, rfl, rfl, v, e1, rfl, ⟨-, x, rfl⟩ | ⟨q, -⟩ | ⟨q, -⟩⟩ := jc_ld_inv hs
    · exact lv_iload_n hx hb hdg rfl (jx_loc hl e1) (k H locs ls cells slots hc hsl hl hP hS)
    · cases q
    · cases q
  · obtain ⟨rfl, rfl, rfl, v, e1, rfl, ⟨q, -⟩ | ⟨-, x, rfl⟩ | ⟨q, -⟩⟩ := jc_ld_inv hs
    · cases q
    · exact lv_lload_n hx hb hdg rfl (jx_loc hl e1) (k H locs ls cells slots hc hsl hl hP hS)
    · cases q
  · obtain ⟨rfl, rfl, rfl, v, e1, rfl, ⟨q, -⟩ | ⟨q, -⟩ | ⟨-, x, rfl⟩⟩ := jc_ld_inv hs
    · cases q
    · cases q
    · exact lv_aload hx hb hdg (jx_loc hl e1) (k H locs ls cells slots hc hsl hl hP hS)
  · obtain ⟨rfl, rfl, rfl, v, e1, rfl, ⟨q, -⟩ | ⟨q, -⟩ | ⟨-, x, rfl⟩⟩ := jc_ld_inv hs
    · cases q
    · cases q
    · exact lv_aload_n hx hb hdg rfl (jx_loc hl e1) (k H locs ls cells slots hc hsl hl hP hS)
  · rename_i n x st'
    obtain ⟨hn, hs⟩ := jx_ite_inv hs
    cases hs
    exact lv_istore hx hb hdg hl hn (jx_st1_cl ad lc n (.int x)) (fun ls1 hl1 => k H locs ls1 cells slots hc hsl hl1 hP hS)
  · rename_i n x st'
    obtain ⟨hn, hs⟩ := jx_ite_inv hs
    cases hs
    exact lv_istore_n hx hb hdg rfl hl hn (jx_st1_cl ad lc n (.int x)) (fun ls1 hl1 => k H locs ls1 cells slots hc hsl hl1 hP hS)
  · rename_i n x st'
    obtain ⟨hn, hs⟩ := jx_ite_inv hs
    cases hs
    exact lv_lstore_n hx hb hdg rfl hl hn (jx_st2_cl ad lc n (.long x)) (fun ls1 hl1 => k H locs ls1 cells slots hc hsl hl1 hP hS)
  · rename_i st' n kk
    split at hs
    · rename_i x e1
      obtain ⟨hn, hs⟩ := jx_ite_inv hs
      cases hs
      obtain ⟨j, hj⟩ := List.getElem?_of_mem (List.mem_map.mpr ⟨(n, Value.int x), jx_lookup e1, rfl⟩ : (n, Value.int x) ∈ jx_cl ad lc)
      exact lv_iinc hx hb hdg hl hj rfl hn (jx_st1_cl ad lc n (.int (x + Int32.ofInt kk))) (fun ls1 hl1 => k H locs ls1 cells slots hc hsl hl1 hP hS)
    · cases hs
  · cases hs
    exact lv_iadd hx hb hdg (k H locs ls cells slots hc hsl hl hP hS)
  · cases hs
    exact lv_isub hx hb hdg (k H locs ls cells slots hc hsl hl hP hS)
  · cases hs
    exact lv_i2l hx hb hdg rfl (k H locs ls cells slots hc hsl hl hP hS)
  · cases hs
    exact lv_lmul hx hb hdg (k H locs ls cells slots hc hsl hl hP hS)
  · cases hs
    exact lv_ladd hx hb hdg (k H locs ls cells slots hc hsl hl hP hS)
  · rename_i off st'
    unfold jc_go at hs
    obtain ⟨hn, hs⟩ := jx_ite0_inv hs
    cases hs
    exact lv_goto hx hb hdg (Int.toNat_of_nonneg (by omega)).symm (k H locs ls cells slots hc hsl hl hP hS)
  · rename_i cd off x st'
    by_cases hcd : jx_cd cd x 0 = true
    · rw [if_pos hcd] at hs
      unfold jc_go at hs
      obtain ⟨hn, hs⟩ := jx_ite0_inv hs
      cases hs
      have k1 := (k H locs ls cells slots hc hsl hl hP hS)
      have ht : (pc : Int) + off = ((((pc : Int) + off).toNat : Nat) : Int) := (Int.toNat_of_nonneg (by omega)).symm
      cases cd <;> simp only [jx_cd, decide_eq_true_eq] at hcd
      · exact lv_if_eq hx hb hdg ht (fun _ => k1) (fun q => absurd hcd q)
      · exact lv_if_ne hx hb hdg ht (fun _ => k1) (fun q => absurd q hcd)
      · exact lv_if_lt hx hb hdg ht (fun _ => k1) (fun q => absurd hcd q)
      · exact lv_if_ge hx hb hdg ht (fun _ => k1) (fun q => absurd hcd q)
      · exact lv_if_gt hx hb hdg ht (fun _ => k1) (fun q => absurd hcd q)
      · exact lv_if_le hx hb hdg ht (fun _ => k1) (fun q => absurd hcd q)
    · rw [if_neg hcd] at hs
      obtain ⟨hn, hs⟩ := jx_ite0_inv hs
      cases hs
      have k1 := (k H locs ls cells slots hc hsl hl hP hS)
      have ht : (pc : Int) + off = ((((pc : Int) + off).toNat : Nat) : Int) := (Int.toNat_of_nonneg (by omega)).symm
      cases cd <;> simp only [jx_cd, decide_eq_true_eq] at hcd
      · exact lv_if_eq hx hb hdg ht (fun q => absurd q hcd) (fun _ => k1)
      · exact lv_if_ne hx hb hdg ht (fun q => absurd q hcd) (fun _ => k1)
      · exact lv_if_lt hx hb hdg ht (fun q => absurd q hcd) (fun _ => k1)
      · exact lv_if_ge hx hb hdg ht (fun q => absurd q hcd) (fun _ => k1)
      · exact lv_if_gt hx hb hdg ht (fun q => absurd q hcd) (fun _ => k1)
      · exact lv_if_le hx hb hdg ht (fun q => absurd q hcd) (fun _ => k1)
  · rename_i cd off y x st'
    by_cases hcd : jx_cd cd x y = true
    · rw [if_pos hcd] at hs
      unfold jc_go at hs
      obtain ⟨hn, hs⟩ := jx_ite0_inv hs
      cases hs
      have k1 := (k H locs ls cells slots hc hsl hl hP hS)
      have ht : (pc : Int) + off = ((((pc : Int) + off).toNat : Nat) : Int) := (Int.toNat_of_nonneg (by omega)).symm
      cases cd <;> simp only [jx_cd, decide_eq_true_eq] at hcd
      · exact lv_icmp_eq hx hb hdg ht (fun _ => k1) (fun q => absurd hcd q)
      · exact lv_icmp_ne hx hb hdg ht (fun _ => k1) (fun q => absurd q hcd)
      · exact lv_icmp_lt hx hb hdg ht (fun _ => k1) (fun q => absurd hcd q)
      · exact lv_icmp_ge hx hb hdg ht (fun _ => k1) (fun q => absurd hcd q)
      · exact lv_icmp_gt hx hb hdg ht (fun _ => k1) (fun q => absurd hcd q)
      · exact lv_icmp_le hx hb hdg ht (fun _ => k1) (fun q => absurd hcd q)
    · rw [if_neg hcd] at hs
      obtain ⟨hn, hs⟩ := jx_ite0_inv hs
      cases hs
      have k1 := (k H locs ls cells slots hc hsl hl hP hS)
      have ht : (pc : Int) + off = ((((pc : Int) + off).toNat : Nat) : Int) := (Int.toNat_of_nonneg (by omega)).symm
      cases cd <;> simp only [jx_cd, decide_eq_true_eq] at hcd
      · exact lv_icmp_eq hx hb hdg ht (fun q => absurd q hcd) (fun _ => k1)
      · exact lv_icmp_ne hx hb hdg ht (fun q => absurd q hcd) (fun _ => k1)
      · exact lv_icmp_lt hx hb hdg ht (fun q => absurd q hcd) (fun _ => k1)
      · exact lv_icmp_ge hx hb hdg ht (fun q => absurd q hcd) (fun _ => k1)
      · exact lv_icmp_gt hx hb hdg ht (fun q => absurd q hcd) (fun _ => k1)
      · exact lv_icmp_le hx hb hdg ht (fun q => absurd q hcd) (fun _ => k1)
  · cases hs
    exact lv_dup hx hb hdg rfl (k H locs ls cells slots hc hsl hl hP hS)
  · rename_i st' ix
    split at hs
    · rename_i ee he
      cases hs
      have hmem := List.mem_of_find?_eq_some he
      have hix : ee.1 = ix := by simpa using List.find?_some he
      have hnv := List.all_eq_true.mp (List.all_eq_true.mp jc_nvA mi (List.mem_range.mpr hmi)) ee hmem
      simp only [Bool.and_eq_true, decide_eq_true_eq] at hnv
      obtain ⟨⟨n1, n2⟩, n3⟩ := hnv
      rw [hix] at n2
      have hin : Cond.instantiable (jt_cw ee.2).1 (jt_cw ee.2).2.2 ∈ lw_tbl := by
        have := List.all_eq_true.mp lw_inst ee.2 (List.mem_range.mpr n1)
        simpa using this
      have hlen : (jc_def ee.2).length = (jt_cw ee.2).2.2 := by simp [jc_def]
      have hsz : jc_sl (ws ++ [.inl (ee.2, jc_def ee.2)]) = jc_sl ws + (jt_cw ee.2).2.2 := by rw [jc_sl_app]; show _ + (jc_def ee.2).length = _; rw [hlen]
      rw [List.length_append] at hb1 h1000
      rw [hsz] at hb2
      have hD := jc_ww_D (dA := dA) (ws := ws) had (by simp at h1000; omega)
      refine va_new (ci := ee.2) (fs := (jc_def ee.2).map (jx_cv ad)) (C := (jt_cw ee.2).1) (T := (jt_cw ee.2).2.1) (N := (jt_cw ee.2).2.2) (Ts := jt_Ts) hx hb hts (jt_ws_in n1) (jt_tyc ee.2) (jc_ty_ok n1) hown (hts _ (jt_inT n2 rfl)) (hts _ (jt_inT hin rfl)) (hts _ (jt_inT n3 rfl)) hK hP hD hS hA (jt_cl_get n1) (jc_def_ok n1) (by simp at hb1; omega) (by omega) hdg (fun q H1 hP1 hD1 hS1 => ?_)
      intro T2 hT2 X2
      have hq := jc_newq X2 hT2 hs0 hc had (by simp at h1000; omega) hP1 hD1
      rw [hq] at hP1
      have hP2 : va_P D jt_cl (jc_ww ad dA (ws ++ [.inl (ee.2, jc_def ee.2)])) H1 := by rw [jc_ww_app]; exact hP1
      rw [hq]
      exact k H1 locs ls (cells + 1) (slots + (jt_cw ee.2).2.2) (by rw [List.length_append]; show _ = _ + 1; omega) (by rw [hsz]; omega) hl hP2 hS1 T2 hT2 X2
    · cases hs
  · rename_i t n st'
    split at hs
    · rename_i kt he
      obtain ⟨hn, hs⟩ := jx_ite0_inv hs
      cases hs
      have hn2 : ¬ 70000 < n.toNatClampNeg := fun z => hn (Or.inr z)
      have hsz : jc_sl (ws ++ [.inr (kt, n.toNatClampNeg, [])]) = jc_sl ws + n.toNatClampNeg := by rw [jc_sl_app]; rfl
      rw [List.length_append] at hb1 h1000
      rw [hsz] at hb2
      have hD := jc_ww_D (dA := dA) (ws := ws) had (by simp at h1000; omega)
      rcases jc_ty_inv he with ⟨rfl, rfl⟩ | ⟨rfl, rfl⟩ | ⟨rfl, rfl⟩
      · refine va_newa (atype := .int) (ty := .int) (a0 := (n.toNatClampNeg, .inl (fun _ => 0))) hx hb (hts _ (jt_inT (by decide +kernel) rfl)) rfl hK hP hD hS hA (fun _ => rfl) (fun z => hn (Or.inl z)) rfl (by show n.toNatClampNeg * 4 ≤ 536870912; omega) (by simp at hb1; omega) (by omega) hdg (fun q cA H1 hK1 hP1 hD1 hS1 => ?_)
        intro T2 hT2 X2
        have hq := jc_newq X2 hT2 hs0 hc had (by simp at h1000; omega) hP1 hD1
        have hcA : cA = dA 0 := Option.some.inj ((hK1.2 3 (cA, .int) rfl).2.symm.trans (hK.2 0 (dA 0, .int) rfl).2)
        rw [hq, hcA] at hP1
        have hP2 : va_P D jt_cl (jc_ww ad dA (ws ++ [.inr (0, n.toNatClampNeg, [])])) H1 := by rw [jc_ww_app]; exact hP1
        rw [hq]
        exact k H1 locs ls (cells + 1) (slots + n.toNatClampNeg) (by rw [List.length_append]; show _ = _ + 1; omega) (by rw [hsz]; omega) hl hP2 hS1 T2 hT2 X2
      · refine va_newa (atype := .long) (ty := .long) (a0 := (n.toNatClampNeg, .inr (.inl (fun _ => 0)))) hx hb (hts _ (jt_inT (by decide +kernel) rfl)) rfl hK hP hD hS hA (fun _ => rfl) (fun z => hn (Or.inl z)) rfl (by show n.toNatClampNeg * 8 ≤ 536870912; omega) (by simp at hb1; omega) (by omega) hdg (fun q cA H1 hK1 hP1 hD1 hS1 => ?_)
        intro T2 hT2 X2
        have hq := jc_newq X2 hT2 hs0 hc had (by simp at h1000; omega) hP1 hD1
        have hcA : cA = dA 1 := Option.some.inj ((hK1.2 3 (cA, .long) rfl).2.symm.trans (hK.2 1 (dA 1, .long) rfl).2)
        rw [hq, hcA] at hP1
        have hP2 : va_P D jt_cl (jc_ww ad dA (ws ++ [.inr (1, n.toNatClampNeg, [])])) H1 := by rw [jc_ww_app]; exact hP1
        rw [hq]
        exact k H1 locs ls (cells + 1) (slots + n.toNatClampNeg) (by rw [List.length_append]; show _ = _ + 1; omega) (by rw [hsz]; omega) hl hP2 hS1 T2 hT2 X2
      · refine va_newa (atype := .boolean) (ty := .boolean) (a0 := (n.toNatClampNeg, .inl (fun _ => 0))) hx hb (hts _ (jt_inT (by decide +kernel) rfl)) rfl hK hP hD hS hA (fun _ => rfl) (fun z => hn (Or.inl z)) rfl (by show n.toNatClampNeg * 1 ≤ 536870912; omega) (by simp at hb1; omega) (by omega) hdg (fun q cA H1 hK1 hP1 hD1 hS1 => ?_)
        intro T2 hT2 X2
        have hq := jc_newq X2 hT2 hs0 hc had (by simp at h1000; omega) hP1 hD1
        have hcA : cA = dA 2 := Option.some.inj ((hK1.2 3 (cA, .boolean) rfl).2.symm.trans (hK.2 2 (dA 2, .boolean) rfl).2)
        rw [hq, hcA] at hP1
        have hP2 : va_P D jt_cl (jc_ww ad dA (ws ++ [.inr (2, n.toNatClampNeg, [])])) H1 := by rw [jc_ww_app]; exact hP1
        rw [hq]
        exact k H1 locs ls (cells + 1) (slots + n.toNatClampNeg) (by rw [List.length_append]; show _ = _ + 1; omega) (by rw [hsz]; omega) hl hP2 hS1 T2 hT2 X2
    · cases hs
  · rename_i ix b st'
    split at hs
    · rename_i ee he
      obtain ⟨ix', ci, kf⟩ := ee
      have hmem := List.mem_of_find?_eq_some he
      have hix : ix' = ix := by simpa using List.find?_some he
      subst hix
      obtain ⟨n1, n2, n3, n4⟩ := jc_fwD hmi hmem
      unfold jc_get at hs
      split at hs
      · rename_i c1 fs hb2'
        obtain ⟨hc1, hs⟩ := jx_ite_inv hs
        replace hc1 : c1 = ci := hc1
        subst hc1
        split at hs
        · rename_i v hv
          cases hs
          exact va_get (Ts := jt_Ts) (T := (jt_cw c1).2.1) (N := (jt_cw c1).2.2) (C := (jt_cw c1).1) hx hb hts (jt_ws_in n1) hown hK hP b (jc_ww_get hb2') (jt_cl_get n1) kf n2 (hts _ n3) (fun _ q => q) (v := jx_cv ad v) (by rw [List.getElem?_map, show fs[kf]? = some v from hv]; rfl) hdg (k H locs ls cells slots hc hsl hl hP hS)
        · cases hs
      · cases hs
    · cases hs
  · rename_i ix v b st'
    split at hs
    · rename_i ee he
      obtain ⟨ix', ci, kf⟩ := ee
      have hmem := List.mem_of_find?_eq_some he
      have hix : ix' = ix := by simpa using List.find?_some he
      subst hix
      obtain ⟨n1, n2, n3, n4⟩ := jc_fwD hmi hmem
      obtain ⟨hq, hs⟩ := jx_ite_inv hs
      unfold jc_put at hs
      split at hs
      · rename_i c1 fs hb2'
        obtain ⟨⟨hc1, hlt⟩, hs⟩ := jx_ite_inv hs
        replace hc1 : c1 = ci := hc1
        replace hlt : kf < fs.length := hlt
        cases hs
        subst hc1
        have hD := jc_ww_D (dA := dA) (ws := ws) had (by rw [List.length_set] at h1000; exact h1000)
        obtain ⟨rfl, q2, q3⟩ := hq
        replace q2 : c1 = 12 := q2
        replace q3 : kf = 5 := q3
        subst q2
        subst q3
        refine va_put (v := .int v) (Ts := jt_Ts) (T := (jt_cw 12).2.1) (N := (jt_cw 12).2.2) (C := (jt_cw 12).1) (ty := .int) hx hb hts (jt_ws_in n1) (jt_tyc 12) (jc_ty_ok n1) (jc_nmd n1) hown hK hP hD hS b (jc_ww_get hb2') (jt_cl_get n1) 5 n2 (hts _ n3) (fun _ q => q) (by decide +kernel) (by decide +kernel) rfl rfl (by rw [List.length_map]; exact hlt) hdg (fun H1 locs1 hP1 hD1 hS1 => ?_)
        have e2 : (fs.map (jx_cv ad)).set 5 (.int v) = (fs.set 5 (.int v)).map (jx_cv ad) := by rw [List.map_set]; rfl
        rw [e2] at hP1
        have hP2 : va_P D jt_cl (jc_ww ad dA (ws.set b (.inl (12, fs.set 5 (.int v))))) H1 := by rw [← jc_ww_set hb2']; exact hP1
        exact k H1 locs1 ls cells slots (by rw [List.length_set]; exact hc) (by rw [jc_sl_set hb2' (by show (fs.set 5 _).length = fs.length; simp)]; exact hsl) hl hP2 hS1
      · cases hs
    · cases hs
  · rename_i ix v b st'
    split at hs
    · rename_i ee he
      obtain ⟨ix', ci, kf⟩ := ee
      have hmem := List.mem_of_find?_eq_some he
      have hix : ix' = ix := by simpa using List.find?_some he
      subst hix
      obtain ⟨n1, n2, n3, n4⟩ := jc_fwD hmi hmem
      obtain ⟨hq, hs⟩ := jx_ite_inv hs
      unfold jc_put at hs
      split at hs
      · rename_i c1 fs hb2'
        obtain ⟨⟨hc1, hlt⟩, hs⟩ := jx_ite_inv hs
        replace hc1 : c1 = ci := hc1
        replace hlt : kf < fs.length := hlt
        cases hs
        subst hc1
        have hD := jc_ww_D (dA := dA) (ws := ws) had (by rw [List.length_set] at h1000; exact h1000)
        obtain ⟨q2, q3⟩ := hq
        replace q2 : c1 = mi := q2
        replace q3 : jc_rfy (jt_tyc c1 kf) = true := q3
        have hfin : ((jt_cw c1).2.1 kf).2.2.2 = true := by
          have := List.all_eq_true.mp (List.all_eq_true.mp jc_finA c1 (List.mem_range.mpr n1)) kf (List.mem_range.mpr n2)
          rw [q3] at this
          simpa using this
        have hcw : (jt_cw c1).1 = jc_own mi := by
          have := List.all_eq_true.mp jc_cwA c1 (List.mem_range.mpr n1)
          rw [← q2]
          simpa using this
        refine va_putF (v := .ref (ad v)) (Ts := jt_Ts) (T := (jt_cw c1).2.1) (N := (jt_cw c1).2.2) (C := (jt_cw c1).1) (ty := jt_tyc c1 kf) hx hb hts (jt_ws_in n1) (jt_tyc c1) (jc_ty_ok n1) (jc_nmd n1) hown hK hP hD hS b (jc_ww_get hb2') (jt_cl_get n1) kf n2 (hts _ n3) (fun _ q => q) hfin (hnm (by rw [← q2]; exact n1)) (n4.trans hcw) (jc_ty_ok n1 kf n2) (jc_fits q3).1 (jc_fits q3).2 (by rw [List.length_map]; exact hlt) hdg (fun H1 locs1 hP1 hD1 hS1 => ?_)
        have e2 : (fs.map (jx_cv ad)).set kf (.ref (ad v)) = (fs.set kf (.ref v)).map (jx_cv ad) := by rw [List.map_set]; rfl
        rw [e2] at hP1
        have hP2 : va_P D jt_cl (jc_ww ad dA (ws.set b (.inl (c1, fs.set kf (.ref v))))) H1 := by rw [← jc_ww_set hb2']; exact hP1
        exact k H1 locs1 ls cells slots (by rw [List.length_set]; exact hc) (by rw [jc_sl_set hb2' (by show (fs.set kf _).length = fs.length; simp)]; exact hsl) hl hP2 hS1
      · cases hs
    · cases hs
  · rename_i b st'
    split at hs
    · rename_i n w hb2'
      cases hs
      exact va_alen hx hb hK hP b 1 (jc_ww_get hb2') (ty := .long) rfl rfl hdg (k H locs ls cells slots hc hsl hl hP hS)
    · cases hs
  · rename_i v i' b st'
    split at hs
    · rename_i n w hb2'
      obtain ⟨hn, hs⟩ := jx_ite0_inv hs
      cases hs
      have hD := jc_ww_D (dA := dA) (ws := ws) had (by rw [List.length_set] at h1000; exact h1000)
      refine va_last hx hb hK hP hD hS b 1 (jc_ww_get hb2') rfl hn hdg (fun H1 locs1 hP1 hD1 hS1 => ?_)
      have hP2 : va_P D jt_cl (jc_ww ad dA (ws.set b (.inr (1, n, (i'.toNatClampNeg, v) :: w)))) H1 := by
        rw [← jc_ww_set hb2']
        have e2 : vp_updL (fun j => (w.lookup j).getD 0) i'.toNatClampNeg v = fun j => (((i'.toNatClampNeg, v) :: w).lookup j).getD 0 := by
          funext j
          unfold vp_updL
          rw [List.lookup_cons]
          by_cases z : j = i'.toNatClampNeg
          · rw [if_pos z, show (j == i'.toNatClampNeg) = true from by simp [z]]; rfl
          · rw [if_neg z, show (j == i'.toNatClampNeg) = false from by simp [z]]
        rw [e2] at hP1
        exact hP1
      exact k H1 locs1 ls cells slots (by rw [List.length_set]; exact hc) (by rw [jc_sl_set (E := .inr (1, n, (i'.toNatClampNeg, v) :: w)) hb2' rfl]; exact hsl) hl hP2 hS1
    · cases hs
  · cases hs
  · cases hs
  · split at hs
    · rename_i mj hcs
      split at hs
      · rename_i b st2
        obtain ⟨h8, hs⟩ := jx_ite_inv hs
        cases hs
        obtain ⟨ix, hmem, ⟨rfl, -⟩ | ⟨-, q⟩ | ⟨-, q⟩⟩ := jc_cs_inv hcs
        · have w := jc_ivD hmi hmem
          replace w : Cond.methodLink (jc_own mi) ix Lib.objectInit ∈ lw_tbl := by simpa [jc_ivk] using w
          have h8' : (List.map (fun v => v.category) (List.map (jx_cv ad) st1)).sum ≤ 8 := jc_w8c (ad := ad) h8
          exact W.objInit hx hb hown (hts _ (jt_inT w rfl)) (hts _ (jt_inT jc_oiA.1 rfl)) (hts _ (jt_inT jc_oiA.2 rfl)) rfl (by rw [hml]; exact hl.1) rfl hdg (by omega) (by show 2 * 0 + _ + 12 ≤ _; omega) (k H locs ls cells slots hc hsl hl hP hS)
        · omega
        · omega
      · cases hs
    · rename_i mj hcs
      obtain ⟨st2, rfl⟩ : ∃ st2, st = Value.ref 1000 :: st2 := by
        split at hs
        · exact ⟨_, rfl⟩
        · cases hs
      · try dsimp only at hs
        obtain ⟨h8, hs⟩ := jx_ite_inv hs
        cases hs
        obtain ⟨ix, hmem, ⟨-, q⟩ | ⟨rfl, -⟩ | ⟨-, q⟩⟩ := jc_cs_inv hcs
        · omega
        · have w := jc_ivD hmi hmem
          replace w : mi = 2 ∧ ix = 35 := by simpa [jc_ivk] using w
          obtain ⟨rfl, rfl⟩ := w
          have h8' := jc_w8c (ad := ad) h8
          obtain ⟨u1, -⟩ := jsU_at hjs (U := s) hF
          exact js_V (As := []) (rest := jx_vs ad st2) (own := "LazyStrict$Tokens") (js_len_m hjs) hx hb hml hl.1 hown hts hF.1 (jc_fh hF hS hs0h) (js_wi (k := 24) rfl) (js_wi (k := 25) rfl) (js_wi (k := 26) rfl) (js_wi (k := 3) rfl) (js_wi (k := 27) rfl) ⟨by decide, by decide, by decide +kernel⟩ (Nat.le_of_ble_eq_true rfl) ⟨by omega, by omega⟩ ⟨by omega, by omega⟩ (by
            obtain ⟨cell, z1, z2, z3, z4⟩ := u1
            exact ⟨cell, by rw [hS.2.1 _ (Array.getElem?_eq_some_iff.mp z1).1 (by show ¬ h ≤ _; exact fun z => z4 (Nat.le_trans hs0h z))]; exact z1, z2, z3⟩) h8' hdg (k H locs ls cells slots hc hsl hl hP hS)
        · omega
    · rename_i mj hcs
      obtain ⟨x, st2, rfl⟩ : ∃ x st2, st = Value.int x :: Value.ref 1000 :: st2 := by
        split at hs
        · exact ⟨_, _, rfl⟩
        · cases hs
      · try dsimp only at hs
        obtain ⟨hn, hs⟩ := jx_ite0_inv hs
        cases hs
        obtain ⟨ix, hmem, ⟨-, q⟩ | ⟨rfl, -⟩ | ⟨-, q⟩⟩ := jc_cs_inv hcs
        · omega
        · have w := jc_ivD hmi hmem
          replace w : mi = 2 ∧ ix = 41 := by simpa [jc_ivk] using w
          obtain ⟨rfl, rfl⟩ := w
          have h8 : jx_w8 st2 = true := by
            cases hq : jx_w8 st2 with
            | true => rfl
            | false => exact absurd (Or.inr hq) hn
          have hx0 : ¬ x < 0 := fun z => hn (Or.inl (Or.inl z))
          have hx2 : x.toNatClampNeg < 58 := Nat.lt_of_not_le (fun z => hn (Or.inl (Or.inr z)))
          have hx1 : x < 58 := by
            have h0 : (0 : Int) ≤ x.toInt := by
              have := Int32.not_lt.mp hx0
              simpa using Int32.le_iff_toInt_le.mp this
            have h2 : x.toInt.toNat < 58 := hx2
            rw [Int32.lt_iff_toInt_lt]
            show x.toInt < 58
            omega
          have h8' := jc_w8c (ad := ad) h8
          obtain ⟨u1, -⟩ := jsU_at hjs (U := s) hF
          exact js_V (As := [.int x]) (rest := jx_vs ad st2) (own := "LazyStrict$Tokens") (js_chr_m hjs hx0 hx1 hx2 (js_bytes _ hx2)) hx hb hml hl.1 hown hts hF.1 (jc_fh hF hS hs0h) (js_wi (k := 28) rfl) (js_wi (k := 29) rfl) (js_wi (k := 30) rfl) (js_wi (k := 3) rfl) (js_wi (k := 31) rfl) ⟨by decide, by decide, show (parseMethodDescriptor js_chr.desc).map (fun d => d.parameters.length) = some 1 by decide +kernel⟩ (Nat.le_of_ble_eq_true rfl) ⟨by omega, by omega⟩ ⟨by omega, by omega⟩ (by
            obtain ⟨cell, z1, z2, z3, z4⟩ := u1
            exact ⟨cell, by rw [hS.2.1 _ (Array.getElem?_eq_some_iff.mp z1).1 (by show ¬ h ≤ _; exact fun z => z4 (Nat.le_trans hs0h z))]; exact z1, z2, z3⟩) h8' hdg (k H locs ls cells slots hc hsl hl hP hS)
        · omega
    · exfalso
      split at hs <;> cases hs
    · exfalso
      repeat' split at hs
      all_goals cases hs
    · cases hs
end JC1
