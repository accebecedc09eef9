/-! CATCH: a call that throws, caught in the caller. -/
section JTC
variable {l : Launch} {s0 : State} {D : va_G} {dA : Nat → ClassId} {ad : Nat → Nat} {σ : jx_S}
variable {p : Program} {e : Env} {R : Room} {s : State} {m : MethodId} {args : Array Value} {below : List Frame} {meth : Method} {c : Code} {H : Heap} {locs : List Loc} {cells slots : Nat} {Q : State → Prop} {A : Nat → Prop} {H0 : Heap}
/-- the premise on a callee that throws, out of its contract -/
theorem jx_backT {d mj sz : Nat} {as : List Value} {cls : String} (hM : jx_MetT l s0 D dA ad d mj as σ cls) (hmj : mj < 233) (hts : ∀ w ∈ jt_Ts, w.before args s = true) (hRf : d + 2 ≤ R.frames) (hRl : 8 + 71 + 100 * (d + 1) ≤ R.locals) :
    Free.BackT l R p e below s args (jt_yy mj) 3 8 (fun Pa a => Pa.cells + 1 ≤ R.cells ∧ Pa.slots + 6 ≤ R.slots ∧ va_Pc (jx_vs ad as) (fun U => U.heap.size = sz ∧ va_P D jt_cl (jx_W ad dA jt_O jt_N σ) U.heap ∧ va_K D jt_cl (jx_tys dA) U ∧ va_D (fun _ => True) (jx_W ad dA jt_O jt_N σ) ∧ jFrom s0 U) a Pa.U)
      (fun Pa _ x B => ∃ (t : State) (L : List Loc), B.U.heap = t.heap ∧ B.locs = Pa.locs ++ L ∧ B.cells = Pa.cells + 1 ∧ B.slots = Pa.slots + 6 ∧ (∀ q ∈ L, va_A (jx_W ad dA jt_O jt_N σ) sz q.base) ∧ va_P D jt_cl (jx_W ad dA jt_O jt_N σ) t.heap ∧ va_F (va_A (jx_W ad dA jt_O jt_N σ) sz) Pa.U t ∧ ∃ ce, t.heap[x]? = some ce ∧ Pa.U.vm.findClass cls = some ce.cls ∧ Pa.U.vm.assignable ce.cls ce.cls = true ∧ ce.vm = .none) := by
  obtain ⟨hcode, hini, hclsm, hpl, hmh, hds, hmx, hm4⟩ := jt_mok hmj
  have hgood : GoodIn jt_Ts jt_Ts := by
    obtain ⟨-, -, -, -, -, -, -, -, -, -, -, hg, -⟩ := jt_Ok
    exact hg
  refine Free.BackT.of_free (bytes := jt_by mj) (maxL := jt_mx mj) (ret := jt_rt mj) (E := fun _ _ _ _ L k n => k = 1 ∧ n = 6 ∧ ∀ q ∈ L, va_A (jx_W ad dA jt_O jt_N σ) sz q.base) (hM sz) (by show d + 1 + 1 ≤ R.frames; omega) (by show 8 + (jt_mx mj + 11) + 100 * (d + 1) ≤ R.locals; omega) ?_ ?_ (fun _ _ _ _ _ _ _ _ _ => trivial) ?_ ?_
  · intro m1 meth1 c1 Pa a X hp
    have hw : ∀ w ∈ jt_Ts, w.before a Pa.U = true := fun w h => word_at X.warmed (hgood w h).2 (hts w h)
    refine ⟨atoms_intro fun w h => ?_, hw _ hcode, ?_, hp.1, hp.2.1⟩
    · rcases List.mem_cons.mp h with rfl | h
      · exact hw _ hcode
      · exact hw w h
    · rw [hclsm]; exact hw _ hini
  · intro m1 meth1 c1 Pa a g mk X hp
    obtain ⟨-, -, q0, q1, qP, qK, qD, qF⟩ := hp
    exact ⟨q0, q1, qP, va_K.moved (u := Pa.U) (U := Pa.U.calling g mk a) (Vm.Alike.refl Pa.U.vm) qK, qD, qF⟩
  · intro a first o t hq
    obtain ⟨x, rfl, hq1, L, hL, hf⟩ := hq
    exact ⟨L, 1, 6, hL, rfl, rfl, hf⟩
  · intro m1 meth1 c1 Pa a g mk v t L k n X hp hq hF hE
    obtain ⟨rfl, rfl, hL⟩ := hE
    obtain ⟨x, hx, ⟨q1, q2, ce, q3, q4, q5, q6⟩, -⟩ := hq
    cases hx
    exact ⟨t, L, rfl, rfl, rfl, rfl, hL, q1, q2, ce, q3, q4, q5, q6⟩
theorem jx_tcall {cc : ByteArray} {own cls : String} {ix mj d pc : Nat} {bs rest : List Value} {ls : Array Slot} (hM : jx_MetT l s0 D dA ad d mj (.ref 0 :: bs) σ cls) (hmj : mj < 233) (how : jt_ow mj = "LazyStrict") (hx : p.tables.exec = Jvm.exec) (hb : c.code = cc) (hml : ls.size = c.maxLocals) (hown : s.vm.findClass own = some m.cls) (hts : ∀ w ∈ jt_Ts, w.before args s = true) (hK : va_K D jt_cl (jx_tys dA) s) (hA : ∀ q, H0.size ≤ q → A q) (hF : s0.WarmedH s.vm) (hFH : ∀ a, a < s0.heap.size → H[a]? = s0.heap[a]?)
    (hlink : (Cond.methodLink own ix (jt_yy mj)).before args s = true) (hinst : (Cond.instanceMethod (jt_yy mj)).before args s = true) (hsel : (Cond.selects "LazyStrict" (jt_yy mj) (jt_yy mj)).before args s = true) (hbl : bs.length = (jt_M mj).2.1) (hRf : d + 2 ≤ R.frames) (hRl : 8 + 71 + 100 * (d + 1) ≤ R.locals) (hc1 : cells + 1 ≤ R.cells) (hs1 : slots + 6 ≤ R.slots) (hdg : decode cc pc = .ok (.invokevirtual ix, 3)) (h8 : (rest.map fun v => v.category).sum ≤ 8)
    {pre post : List ExceptionTableEntry} {ent : ExceptionTableEntry} (hsplit : c.exceptionTable.toList = pre ++ ent :: post) (hcov : covers ent pc = true) (h0c : ent.catchType ≠ 0) (hclink : (Cond.classLink own ent.catchType cls).before args s = true) (hpass : ∀ thrown, s.vm.findClass cls = some thrown → ∀ y ∈ pre, RowPassed e.platform s m.cls pc thrown y)
    (hP : va_P D jt_cl (jx_W ad dA jt_O jt_N σ) H) (hD : va_D A (jx_W ad dA jt_O jt_N σ)) (hS : va_S A H0 H locs)
    (kk : ∀ (H1 : Heap) (locs1 : List Loc) (x : Nat), va_P D jt_cl (jx_W ad dA jt_O jt_N σ) H1 → va_S A H0 H1 locs1 → W p l e R s m args below meth c H1 locs1 (cells + 1) (slots + 6) Q (F0 m ent.handlerPc ls [.ref x])) :
    W p l e R s m args below meth c H locs cells slots Q (F0 m pc ls ((jx_vs ad bs).reverse ++ .ref (ad 0) :: rest)) := by
  obtain ⟨hcode, hini, hclsm, hpl, hmh, hds, hmx, hm4⟩ := jt_mok hmj
  have hf : ∀ q, va_A (jx_W ad dA jt_O jt_N σ) H.size q → A q := by
    intro q h
    rcases h with ⟨k, e, hk⟩ | h
    · exact hD.2 k _ hk
    · exact hA q (Nat.le_trans hS.1 h)
  intro T hT X
  have hBT := jx_backT (p := p) (e := e) (R := R) (s := s) (args := args) (below := below) (sz := H.size) hM hmj hts hRf hRl
  obtain ⟨cellB, hcellB, hobjB, hclsB⟩ := va_recv (q0 := 0) (ci := 0) (a := ad 0) (q := ("LazyStrict", jt_T0, 13)) hK hP rfl (jx_Wobj (O := jt_O) (N := jt_N) (k := 0) (by decide) rfl)
  obtain ⟨mk, methM, hnamed, hmethM, hstM, habM⟩ := Cond.instanceMethod_spec hinst
  obtain ⟨methM', cM, hmethM', -, -, -, -, -, -, hsigM⟩ := Cond.code_spec hnamed (hts _ hcode)
  cases hmethM.symm.trans hmethM'
  obtain ⟨c2, r2, m2, q1, q2, q3, q4, kP, hkP, hkPi⟩ := Cond.selects_spec hsel
  cases hclsB.symm.trans q1
  cases (State.methodFound?_of_named hnamed hmh).symm.trans q2
  cases hnamed.symm.trans q3
  have hselP : selectMethod e.platform s.vm cellB.cls mk = .method mk := by rw [Launch.admits_selectMethod X.admits]; exact q4
  obtain ⟨vm₁, X₁, hstep₁⟩ := X.invokevirtual hx hown hlink hnamed hmethM hstM hkP hkPi hmh (a := ad 0) (cell := cellB) (by rw [hT]; exact hcellB)
    (fun z h => by rw [h] at hobjB; cases hobjB) hselP hmethM habM hkP hkPi (g := F0 m pc ls ((jx_vs ad bs).reverse ++ .ref (ad 0) :: rest)) rfl (argsL := jx_vs ad bs) (rest := rest) (by
      have h2 := hds
      rw [hsigM] at h2
      rw [List.length_map, hbl]
      exact (Option.some.inj h2).symm) rfl (by rw [hb]; exact hdg)
  obtain ⟨x, B, X', ⟨t, L, b1, b2, b3, b4, b5, b6, b7, ce, b8, b9, b10, b11⟩, hsteps⟩ := hBT m meth c ⟨T.setVm vm₁, locs, cells, slots⟩ (F0 m pc ls rest) (.invokevirtual ix) mk (Value.ref (ad 0) :: jx_vs ad bs).toArray X₁ rfl hml (by rw [hb]; exact hdg) (by show 2 * 0 + (rest.map fun v => v.category).sum ≤ 8; omega) (X₁.named hnamed)
    ⟨hc1, hs1, rfl, by show T.heap.size = _; rw [hT], by show va_P _ _ _ T.heap; rw [hT]; exact hP, va_K.moved X₁.warmed.alike hK, hD.weaken (fun _ _ _ _ => trivial), State.WarmedH.trans hF X₁.warmed, fun a ha => by show T.heap[a]? = _; rw [hT]; exact hFH a ha⟩
  have hal : s.vm.Alike vm₁ := X₁.warmed.alike
  have b9' : vm₁.findClass cls = some ce.cls := b9
  have b10' : vm₁.assignable ce.cls ce.cls = true := b10
  rw [hal.findClass] at b9'
  rw [hal.assignable] at b10'
  obtain ⟨hend, hk0⟩ := X'.catches_of_link hown h0c hclink b9' b10'
  have hcome : Steps p.tables e below (T.setTop (F0 m pc ls ((jx_vs ad bs).reverse ++ .ref (ad 0) :: rest))) ((B.U.setTop (F0 m pc ls rest)).pushFrame (.throwing x)) := hstep₁ _ fun acts => by rw [doInvoke_state]; exact hsteps
  obtain ⟨vm', XV, st⟩ := X'.thenCaughtThrough x (g := F0 m pc ls rest) rfl hcome (by rw [b1]; exact b8) (by rw [b11]; rfl) hk0 pre ent post hsplit (hpass _ b9') hcov hend
  obtain ⟨B1, B2, B3, B4⟩ := B
  dsimp only [Free.Pt.U, Free.Pt.locs, Free.Pt.cells, Free.Pt.slots] at b1 b2 b3 b4 XV st
  subst b2; subst b3; subst b4
  have hz : H.size ≤ t.heap.size := by have := b7.1; rw [show ((T.setVm vm₁).heap = H) from hT] at this; exact this
  have hS1 : va_S A H0 t.heap (locs ++ L) := ⟨Nat.le_trans hS.1 hz, fun q h1 h2 => by
      have := b7.2 q (by show q < T.heap.size; rw [hT]; exact Nat.lt_of_lt_of_le h1 hS.1) (fun z => h2 (hf q z))
      rw [show ((T.setVm vm₁).heap = H) from hT] at this
      rw [this]; exact hS.2.1 q h1 h2, fun q hq => by
      rcases List.mem_append.mp hq with h | h
      · exact hS.2.2 q h
      · exact hf _ (b5 q h)⟩
  obtain ⟨t2, a1, a2⟩ := kk t.heap (locs ++ L) x b6 hS1 (B1.setVm vm') b1 XV
  exact ⟨t2, st.trans a1, a2⟩
end JTC
