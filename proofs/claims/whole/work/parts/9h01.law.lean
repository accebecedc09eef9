/-! THE LAW, 1: its calls. -/
section JLW
variable {l : Launch} {s0 : State} {D : va_G} {dA : Nat → ClassId} {ad : Nat → Nat} {σ σ1 : jx_S}
variable {p : Program} {e : Env} {R : Room} {s : State} {m : MethodId} {args : Array Value} {below : List Frame} {meth : Method} {c : Code} {H : Heap} {locs : List Loc} {cells slots : Nat} {Q : State → Prop} {A : Nat → Prop} {H0 : Heap}
theorem jt_gg : GoodIn jt_Ts jt_Ts := by
  obtain ⟨-, -, -, -, -, -, -, -, -, -, -, hg, -⟩ := jt_Ok
  exact hg
/-- a call of a method of the class or of the reference -/
theorem jl_call {cc : ByteArray} {ix mj pc nL ob ci : Nat} {bs rest : List Value} {ls : Array Slot} {v : Option Value} {cn : String} {T : u_T} {NN : Nat} {kds : List Nat} (hrun : jE 400 mj 0 (lv_args 0 (.ref ob :: bs)) [] σ (v, σ1)) (hmj : mj < 233) (how : jt_ow mj = cn) (hwn : jx_wn (.ref ob :: bs) ≤ (jt_M mj).2.2.2) (hbl : bs.length = (jt_M mj).2.1)
    (hob : ob < jt_N) (hO : jt_O ob = .inl (ci, kds)) (hcl : jt_cl[ci]? = some (cn, T, NN))
    (w1 : Cond.methodLink "LazyStrictLaw" ix (jt_yy mj) ∈ jt_Ts) (w2 : Cond.instanceMethod (jt_yy mj) ∈ jt_Ts) (w3 : Cond.selects (jt_ow mj) (jt_yy mj) (jt_yy mj) ∈ jt_Ts)
    (hx : p.tables.exec = Jvm.exec) (hb : c.code = cc) (hml : c.maxLocals = nL) (hls : ls.size = nL) (hown : s.vm.findClass "LazyStrictLaw" = some m.cls) (hts : ∀ w ∈ jt_Ts, w.before args s = true) (hK : va_K D jt_cl (jx_tys dA) s) (hA : ∀ q, H0.size ≤ q → A q) (hRf : 401 ≤ R.frames) (hRl : 8 + 71 + 40000 ≤ R.locals) (hcs : cells ≤ R.cells ∧ slots ≤ R.slots) (hd0 : decode cc pc = .ok (.invokevirtual ix, 3)) (h8 : (rest.map fun v => v.category).sum ≤ 8)
    (hP : va_P D jt_cl (jx_W ad dA jt_O jt_N σ) H) (hD : va_D A (jx_W ad dA jt_O jt_N σ)) (hS : va_S A H0 H locs)
    (kk : ∀ (H1 : Heap) (locs1 : List Loc), va_P D jt_cl (jx_W ad dA jt_O jt_N σ1) H1 → va_D A (jx_W ad dA jt_O jt_N σ1) → va_S A H0 H1 locs1 → W p l e R s m args below meth c H1 locs1 cells slots Q (F0 m (pc + 3) ls ((v.map (jx_cv ad)).toList ++ rest))) :
    W p l e R s m args below meth c H locs cells slots Q (F0 m pc ls ((jx_vs ad bs).reverse ++ .ref (ad ob) :: rest)) := by
  obtain ⟨m1, m2, m3, m4, m5, m6, m7, m8⟩ := jt_mok hmj
  obtain ⟨n, hrun⟩ := hrun
  have hM := jx_met jt_Ok (jx_walk (D := D) (dA := dA) (ad := ad) jt_Ok l 400) (ad := ad) (jt_mok hmj) hrun hwn
  exact jx_call (a := #[]) (σ := σ) (σ' := σ1) (v := v) (A := A) (H0 := H0) (va_runV (As := jx_vs ad bs) (b := ad ob) (rest := rest) (C := jt_ow mj) ⟨hx, hb, hml, hown, hts⟩ (hM H.size) (cwV (jt_M mj).2.1 hts (jx_goodc jt_gg w1 w2 w3 m2 (fun w hw => by rcases List.mem_cons.mp hw with rfl | hw; exact m1; exact hw)) rfl rfl rfl ⟨m3, m5.1, m5.2, m6⟩ ⟨by show 400 + 1 ≤ R.frames; omega, by show 8 + (jt_mx mj + 11) + 100 * 400 ≤ R.locals; omega⟩) ⟨jx_blind, by rw [how]; exact va_recv (q0 := ob) (ci := ci) (a := ad ob) (q := (cn, T, NN)) hK hP hcl (jx_Wobj hob hO), fun U hU hW => ⟨rfl, by rw [hU], by rw [hU]; exact hP, va_K.moved hW.alike hK, hD.weaken (fun _ _ _ _ => trivial)⟩⟩ rfl (by rw [List.length_map]; exact hbl) hls rfl (by show 2 * 0 + _ ≤ 8; omega) hd0 ⟨hcs.1, hcs.2⟩) hD hS hA kk
/-- a call of a wrapper -/
theorem jl_wcall {cc bytes : ByteArray} {ix pc nL mxL n : Nat} {y : MethodName} {hh : List (Nat × Nat × Nat × Nat)} {as rest : List Value} {ls : Array Slot} {k : Int32} (hM : jx_WrM l s0 D dA ad y bytes mxL hh as σ k σ1) (hy : y.cls = "LazyStrictLaw") (hds : (parseMethodDescriptor y.desc).map (fun d => d.parameters.length) = some as.length)
    (w1 : Cond.methodLink "LazyStrictLaw" ix y ∈ jt_Ts) (w2 : Cond.static y ∈ jt_Ts) (w3 : Cond.initialized "LazyStrictLaw" ∈ jt_Ts) (w4 : Cond.codeWith y bytes mxL (some .int) hh ∈ jt_Ts) (hmx : mxL ≤ 60)
    (hx : p.tables.exec = Jvm.exec) (hb : c.code = cc) (hml : c.maxLocals = nL) (hls : ls.size = nL) (hown : s.vm.findClass "LazyStrictLaw" = some m.cls) (hts : ∀ w ∈ jt_Ts, w.before args s = true) (hK : va_K D jt_cl (jx_tys dA) s) (hA : ∀ q, H0.size ≤ q → A q) (hF : s0.WarmedH s.vm) (hFH : ∀ a, a < s0.heap.size → H[a]? = s0.heap[a]?) (hRf : 403 ≤ R.frames) (hRl : 8 + 71 + 40200 ≤ R.locals) (hc1 : cells + 1 ≤ R.cells) (hs1 : slots + 6 ≤ R.slots) (hd0 : decode cc pc = .ok (.invokestatic ix, 3)) (h8 : (rest.map fun v => v.category).sum ≤ 8)
    (hP : va_P D jt_cl (jx_W ad dA jt_O jt_N σ) H) (hD : va_D A (jx_W ad dA jt_O jt_N σ)) (hS : va_S A H0 H locs)
    (kk : ∀ (H1 : Heap) (locs1 : List Loc), va_P D jt_cl (jx_W ad dA jt_O jt_N σ1) H1 → va_D A (jx_W ad dA jt_O jt_N σ1) → va_S A H0 H1 locs1 → W p l e R s m args below meth c H1 locs1 (cells + 1) (slots + 6) Q (F0 m (pc + 3) ls (.int k :: rest))) :
    W p l e R s m args below meth c H locs cells slots Q (F0 m pc ls ((jx_vs ad as).reverse ++ rest)) := by
  have hf : ∀ q, va_A (jx_W ad dA jt_O jt_N σ) H.size q → A q := by
    intro q h
    rcases h with ⟨k, e, hk⟩ | h
    · exact hD.2 k _ hk
    · exact hA q (Nat.le_trans hS.1 h)
  have hyn : y.cls ≠ "java/lang/invoke/MethodHandle" ∧ y.cls ≠ "java/lang/invoke/VarHandle" := by rw [hy]; decide
  have hK0 : Back l R p e below s args y 3 8 (PreOf R 1 6 (va_Pc (jx_vs ad as) (fun U => U.heap.size = H.size ∧ va_P D jt_cl (jx_W ad dA jt_O jt_N σ) U.heap ∧ va_K D jt_cl (jx_tys dA) U ∧ va_D (fun _ => True) (jx_W ad dA jt_O jt_N σ) ∧ jFrom s0 U))) (PostOf (fun _ st oc t => (oc = .returned (some (.int k)) ∧ va_P D jt_cl (jx_W ad dA jt_O jt_N σ1) t.heap) ∧ va_F (va_A (jx_W ad dA jt_O jt_N σ) H.size) st t) 1 6 (va_A (jx_W ad dA jt_O jt_N σ) H.size)) := by
    refine va_backW (bytes := bytes) (maxL := mxL) (ret := some .int) (hh := hh) (hM H.size) ?_ rfl rfl (by show 402 + 1 ≤ R.frames; omega) (by show 8 + (mxL + 11) + 40200 ≤ R.locals; omega) (fun w hw a' U hU => ?_) List.mem_cons_self (fun a' U hU => by rw [hy]; exact word_at hU (jt_gg _ w3).2 (hts _ w3))
    · intro a U g mk q
      obtain ⟨q0, q1, qP, qK, qD, qF⟩ := q
      exact ⟨q0, q1, qP, va_K.moved (u := U) (U := U.calling g mk a) (Vm.Alike.refl U.vm) qK, qD, qF⟩
    · rcases List.mem_cons.mp hw with rfl | hw
      · exact word_at hU (jt_gg _ w4).2 (hts _ w4)
      · exact word_at hU (jt_gg _ hw).2 (hts _ hw)
  intro T hT X
  obtain ⟨mk, methM, cM, hnamed, hmethM, -, -, -, -, -, -, hsigM⟩ := Cond.codeWith_spec (hts _ w4)
  have hstatic : methM.isStatic = true := Cond.static_spec hnamed hmethM (hts _ w2)
  obtain ⟨kP, hkP, -⟩ := className_of_methodNamed hnamed
  have hinitP : kP.init = .initialized := Cond.initialized_spec (findClass_of_methodNamed hnamed) hkP (by rw [hy]; exact hts _ w3)
  obtain ⟨vm₁, X₁, hstep₁⟩ := X.invokestatic hx hown (hts _ w1) hnamed hmethM hstatic hkP hinitP hyn (g := F0 m pc ls ((jx_vs ad as).reverse ++ rest)) rfl (argsL := jx_vs ad as) (rest := rest) (by
      have h2 := hds
      rw [hsigM] at h2
      rw [List.length_map]
      exact (Option.some.inj h2).symm) rfl (by rw [hb]; exact hd0)
  obtain ⟨v, B, X', ⟨g', mk', t, L, b1, b2, ⟨⟨b3, b4⟩, b5⟩, b6, b7, b8, b9⟩, hsteps⟩ := hK0 m meth c ⟨T.setVm vm₁, locs, cells, slots⟩ (F0 m pc ls rest) (.invokestatic ix) mk (jx_vs ad as).toArray X₁ rfl (by rw [hml]; exact hls) (by rw [hb]; exact hd0) (by show 2 * 0 + (rest.map fun v => v.category).sum ≤ 8; omega) (X₁.named hnamed)
    ⟨hc1, hs1, rfl, by show T.heap.size = _; rw [hT], by show va_P _ _ _ T.heap; rw [hT]; exact hP, va_K.moved X₁.warmed.alike hK, hD.weaken (fun _ _ _ _ => trivial), State.WarmedH.trans hF X₁.warmed, fun a ha => by show T.heap[a]? = _; rw [hT]; exact hFH a ha⟩
  cases b3
  obtain ⟨B1, B2, B3, B4⟩ := B
  dsimp only [Free.Pt.U, Free.Pt.locs, Free.Pt.cells, Free.Pt.slots] at b1 b2 b6 b8 b9 X' hsteps
  subst b6; subst b8; subst b9
  have hz : H.size ≤ t.heap.size := by have := b5.1; rw [show (((T.setVm vm₁).calling g' mk' (jx_vs ad as).toArray).heap = H) from hT] at this; exact this
  have hS1 : va_S A H0 t.heap (locs ++ L) := ⟨Nat.le_trans hS.1 hz, fun q h1 h2 => by
      have := b5.2 q (by show q < T.heap.size; rw [hT]; exact Nat.lt_of_lt_of_le h1 hS.1) (fun z => h2 (hf q z))
      rw [show (((T.setVm vm₁).calling g' mk' (jx_vs ad as).toArray).heap = H) from hT] at this
      rw [this]; exact hS.2.1 q h1 h2, fun q hq => by
      rcases List.mem_append.mp hq with h | h
      · exact hS.2.2 q h
      · exact hf _ (b7 q h)⟩
  obtain ⟨t2, a1, a2⟩ := kk t.heap (locs ++ L) b4 (jx_D_any σ1 hD) hS1 B1 b1 X'
  exact ⟨t2, hstep₁ _ fun acts => by rw [doInvoke_state]; exact hsteps.trans a1, a2⟩
end JLW
