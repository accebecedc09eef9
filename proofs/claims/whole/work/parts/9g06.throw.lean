/-! THROWS, 5: the contract of a method that throws. -/
/-- the start's words -/
def jW0 (s0 : State) : Prop := ∃ a0 : Array Value, (∀ w ∈ lw_tbl, w.before a0 s0 = true) ∧ (Cond.isRef (.static "java/lang/Throwable" "UNASSIGNED_STACK" "[Ljava/lang/StackTraceElement;")).before a0 s0 = true ∧ (Cond.isRef (.static "java/lang/Throwable" "SUPPRESSED_SENTINEL" "Ljava/util/List;")).before a0 s0 = true
/-- all that a throw site asks of a state -/
def jSite (i0 i1 i2 : Nat) (cls text : String) (U : State) : Prop := ∀ a : Array Value, (Cond.classLink "LazyStrict" i0 cls).before a U = true ∧ (Cond.instantiable cls 6).before a U = true ∧ (Cond.initialized cls).before a U = true ∧ (∃ q, vk_R "LazyStrict" i1 text q U) ∧ ∀ w ∈ Bundle.ownAtoms "LazyStrict" i2 cls jth_names, w.before a U = true
theorem jth_str {s0 : State} {a0 : Array Value} {own tx : String} {k : Nat} (h : (Cond.stringRef own k tx).before a0 s0 = true) : ∃ q, vk_R own k tx q s0 := by
  have hc : ∃ cur, s0.vm.findClass own = some cur := by
    have h1 := h
    simp only [Cond.before, Cond.holds, Cond.value] at h1
    cases hc : s0.vm.findClass own with
    | none => simp [hc] at h1
    | some cur => exact ⟨cur, rfl⟩
  obtain ⟨cur, hcur⟩ := hc
  obtain ⟨k', cf, i, a, hk, hcf, hcp, hv, hr, hev⟩ := Cond.stringRef_spec hcur h
  refine ⟨a, ?_, ?_⟩
  · have h1 := h
    simp only [Cond.before, Cond.holds, Cond.value] at h1 ⊢
    exact h1
  · have h2 := hev
    simp only [Term.eval] at h2 ⊢
    exact h2
theorem jth_site {s0 U : State} (h0 : jW0 s0) (hF : jFrom s0 U) {i0 i1 i2 : Nat} {cls text : String} (w1 : Cond.classLink "LazyStrict" i0 cls ∈ lw_tbl) (w2 : Cond.instantiable cls 6 ∈ lw_tbl) (w3 : Cond.initialized cls ∈ lw_tbl) (w4 : Cond.stringRef "LazyStrict" i1 text ∈ lw_tbl) (w5 : (Bundle.ownAtoms "LazyStrict" i2 cls jth_names).all jth_ok = true) : jSite i0 i1 i2 cls text U := by
  obtain ⟨a0, hw, h1, h2⟩ := h0
  intro a
  refine ⟨jf_any hF rfl (hw _ w1), jf_any hF rfl (hw _ w2), jf_any hF rfl (hw _ w3), ?_, fun w hin => ?_⟩
  · obtain ⟨q, hq⟩ := jth_str (hw _ w4)
    exact ⟨q, jf_str hF hq⟩
  · have := List.all_eq_true.mp w5 w hin
    unfold jth_ok at this
    rw [Bool.and_eq_true, Bool.or_eq_true, Bool.or_eq_true, decide_eq_true_eq, decide_eq_true_eq, decide_eq_true_eq] at this
    obtain ⟨k1, k2⟩ := this
    rcases k2 with (k2 | k2) | k2
    · exact jf_any hF k1 (hw _ k2)
    · rw [k2]; exact jf_ir hF h1
    · rw [k2]; exact jf_ir hF h2
/-- a method's contract, that it throws -/
def jx_MetT (l : Launch) (s0 : State) (D : va_G) (dA : Nat → ClassId) (ad : Nat → Nat) (d mj : Nat) (as : List Value) (σ : jx_S) (cls : String) : Prop :=
  ∀ sz : Nat, MetFree l (jt_yy mj) (headSpec (Cond.code (jt_yy mj) (jt_by mj) (jt_mx mj) (jt_rt mj) :: jt_Ts) ({ frames := d + 1, cells := 1, slots := 6, locals := 100 * (d + 1) } : Room))
    (va_Pc (jx_vs ad as) (fun U => U.heap.size = sz ∧ va_P D jt_cl (jx_W ad dA jt_O jt_N σ) U.heap ∧ va_K D jt_cl (jx_tys dA) U ∧ va_D (fun _ => True) (jx_W ad dA jt_O jt_N σ) ∧ jFrom s0 U)) (fun _ _ _ _ _ => True)
    (fun _ st o t => ∃ x, o = .threw x ∧ (va_P D jt_cl (jx_W ad dA jt_O jt_N σ) t.heap ∧ va_F (va_A (jx_W ad dA jt_O jt_N σ) sz) st t ∧ ∃ ce, t.heap[x]? = some ce ∧ st.vm.findClass cls = some ce.cls ∧ st.vm.assignable ce.cls ce.cls = true ∧ ce.vm = .none) ∧ ∃ L, Free.FrameEndT st o t L 1 6 ∧ ∀ q ∈ L, va_A (jx_W ad dA jt_O jt_N σ) sz q.base)
theorem jx_metT {l : Launch} {s0 : State} {D : va_G} {dA : Nat → ClassId} {ad : Nat → Nat} {d mj tgt i0 i1 i2 : Nat} {as : List Value} {lc : jx_L} {σ : jx_S} {cls text : String} (h0 : jW0 s0) (htr : l.stackTraces = false) (had : ∀ k, k < jt_N → s0.heap.size ≤ ad k) (hmj : mj < 233) (how : jt_ow mj = "LazyStrict") (hd : 8 ≤ d) (hwn : jx_wn as ≤ (jt_M mj).2.2.2)
    (way : ∀ P : Nat → jx_L → List Value → jx_S → Prop, jCl mj d P → P tgt lc [] σ → P 0 (lv_args 0 as) [] σ)
    (hcls : Bundle.fit cls = true) (w1 : Cond.classLink "LazyStrict" i0 cls ∈ lw_tbl) (w2 : Cond.instantiable cls 6 ∈ lw_tbl) (w3 : Cond.initialized cls ∈ lw_tbl) (w4 : Cond.stringRef "LazyStrict" i1 text ∈ lw_tbl) (w5 : (Bundle.ownAtoms "LazyStrict" i2 cls jth_names).all jth_ok = true)
    (hd0 : decode (jt_by mj) tgt = .ok (.new i0, 3)) (hd1 : decode (jt_by mj) (tgt + 3) = .ok (.dup, 1)) (hd2 : decode (jt_by mj) (tgt + 4) = .ok (.ldc i1, 2)) (hd3 : decode (jt_by mj) (tgt + 6) = .ok (.invokespecial i2, 3)) (hd4 : decode (jt_by mj) (tgt + 9) = .ok (.athrow, 1)) : jx_MetT l s0 D dA ad d mj as σ cls := by
  obtain ⟨hcode, hini, hclsm, hpl, hmh, hds, hmx, hm4⟩ := jt_mok hmj
  have hlen : (lg_sl (jx_vs ad as)).length ≤ jt_mx mj := by rw [jx_sl_len]; omega
  intro sz
  refine MetFree.of_bodyS (code := jt_by mj) (maxLocals := jt_mx mj) (ret := jt_rt mj) hpl ?_ ?_
  · intro args s m h hn
    obtain ⟨meth, c, h1, h2, h3, h4, h5, h6, -, -⟩ := Cond.code_spec hn (atoms_spec (ws := Cond.code (jt_yy mj) (jt_by mj) (jt_mx mj) (jt_rt mj) :: jt_Ts) h _ List.mem_cons_self)
    exact ⟨meth, c, h1, h2, h3, h4, h5, h6⟩
  · intro p e s m args below meth c s₁ B hml hv _
    obtain ⟨rfl, hsz, hPw, hK, hD0, hF⟩ := hv
    have hx := B.exec
    have hb := B.bytes
    have hts0 := atoms_spec (ws := Cond.code (jt_yy mj) (jt_by mj) (jt_mx mj) (jt_rt mj) :: jt_Ts) B.pre
    have hts : ∀ w ∈ jt_Ts, w.before (jx_vs ad as).toArray s = true := fun w h => hts0 w (List.mem_cons_of_mem _ h)
    have hnoh := B.noHandlers (hts0 _ List.mem_cons_self)
    have hown : s.vm.findClass (jt_ow mj) = some m.cls := by rw [← hclsm]; exact findClass_of_methodNamed B.named
    have hlocks := B.notSynchronized
    subst hsz
    have hD := hD0.self (sz := s.heap.size)
    have hS : va_S (va_A (jx_W ad dA jt_O jt_N σ) s.heap.size) s.heap s.heap [] := va_S.rf
    have hle : s0.heap.size ≤ s.heap.size := by
      by_cases z : s0.heap.size = 0
      · omega
      · have h1 := hF.2 (s0.heap.size - 1) (by omega)
        rw [Array.getElem?_eq_getElem (show s0.heap.size - 1 < s0.heap.size by omega)] at h1
        have := (Array.getElem?_eq_some_iff.mp h1).1
        omega
    have hnA : ∀ a, a < s0.heap.size → ¬ va_A (jx_W ad dA jt_O jt_N σ) s.heap.size a := fun a ha q => by
      rcases q with ⟨k, ee, hk⟩ | q
      · obtain ⟨q1, q2⟩ := jx_W_inv hk
        have := had k q1
        have e3 : a = ad k := congrArg Prod.fst q2
        omega
      · omega
    have X₁ := Stand.of_body B
    have htr' : e.platform.stackTraces = false := by rw [X₁.admits.platform]; exact htr
    have hl := lv_entry (jx_vs ad as) (n := jt_mx mj) hlen
    rw [jx_args_cl ad as 0] at hl
    have hem : c.exceptionTable.toList = [] := by
      have := hnoh
      rw [Array.isEmpty_iff] at this
      rw [this]
    have K : W p l e ({ frames := d + 1, cells := 1, slots := 6, locals := 100 * (d + 1) } : Room) s m (jx_vs ad as).toArray below meth c s.heap [] 0 0 (fun t => ∃ H locs, va_P D jt_cl (jx_W ad dA jt_O jt_N σ) H ∧ va_S (va_A (jx_W ad dA jt_O jt_N σ) s.heap.size) s.heap H locs ∧ jx_QT below cls s H locs t) (entryFrame m (jx_vs ad as).toArray (jt_mx mj)) := by
      rw [lg_entry_eq]
      refine way _ (jG_cl (D := D) (dA := dA) (ad := ad) (p := p) (l := l) (e := e) (s := s) (m := m) (args := (jx_vs ad as).toArray) (below := below) (meth := meth) (c := c) (A := va_A (jx_W ad dA jt_O jt_N σ) s.heap.size) (H0 := s.heap) (mi := mj) (d := d) ⟨hx, hb, hml, hown, hts, hK, fun q h => Or.inr h, ⟨Nat.le_refl _, Nat.le_refl _⟩, ⟨Nat.zero_le _, Nat.zero_le _⟩⟩) ?_ s.heap [] _ hl hPw hD hS
      intro H locs ls hl1 hP1 hD1 hS1 T hT X
      obtain ⟨t, st, q⟩ := jx_thr (own := "LazyStrict") (cls := cls) (text := text) (names := jth_names) (i0 := i0) (i1 := i1) (i2 := i2) (pc := tgt) (ls := ls) hx hb htr' (by rw [hl1.1, hml]) hcls (by decide +kernel) (fun s' e1 e2 => by
        have hF' : jFrom s0 s' := ⟨by rw [e1]; exact hF.1, fun a ha => by rw [e2, hS1.2.1 a (by omega) (hnA a ha)]; exact hF.2 a ha⟩
        obtain ⟨v1, v2, v3, v4, v5⟩ := jth_site h0 hF' w1 w2 w3 w4 w5 (jx_vs ad as).toArray
        exact ⟨by rw [e1, ← how]; exact hown, v1, v2, v3, v4, v5⟩) hd0 hd1 hd2 hd3 hd4 (by rw [hem]; intro x hx; cases hx) hlocks (Nat.le_refl _) (Nat.le_refl _) (by show 2 + 3 < d + 1; omega) (by show 13 * (2 + 1) + 43 ≤ 100 * (d + 1); omega) T hT X
      exact ⟨t, st, H, locs, hP1, hS1, q⟩
    obtain ⟨t, st, H, locs, hP1, hS1, x, u1, u2, u3, u4, u5, u6, ce, u7, u8, u9, u10⟩ := K s₁ (by rw [B.state]; rfl) X₁
    refine ⟨t, .threw x, st, u1, u2, x, rfl, ⟨hP1.kept (fun k q hk => u5 _ (hP1 k q hk).lt), ⟨Nat.le_trans hS1.1 u6, fun q q1 q2 => by rw [u5 q (Nat.lt_of_lt_of_le q1 hS1.1)]; exact hS1.2.1 q q1 q2⟩, ce, u7, u8, u9, u10⟩, locs, ⟨⟨x, rfl⟩, u3, u4⟩, hS1.2.2⟩
