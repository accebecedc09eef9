/-! THE LAW'S START: what the words say. -/
theorem lw_inst : (List.range 13).all (fun ci => decide (Cond.instantiable (jt_cw ci).1 (jt_cw ci).2.2 ∈ lw_tbl)) = true := by decide +kernel
theorem lw_arr {s : State} {args : Array Value} {ty : FieldType} (h : (Cond.arrayClass ty).before args s = true) : ∃ cA : ClassId, ArrOfT s cA ty ∧ s.vm.findClass ("[" ++ ty.toString) = some cA := by
  obtain ⟨cA, kA, comp, h1, h2, h3⟩ := Cond.arrayClass_spec h
  exact ⟨cA, fun n z => ⟨fun k h => (by cases h), kA, h2, comp, h3⟩, h1⟩
theorem lw_K {s : State} {args : Array Value} (hts : ∀ w ∈ lw_tbl, w.before args s = true) : ∃ (D : va_G) (dA : Nat → ClassId), va_K D jt_cl (jx_tys dA) s := by
  have hT : ∀ w ∈ jt_Ts, w.before args s = true := fun w hw => hts w (List.mem_filter.mp hw).1
  have h1 : ∀ ci, ∃ q : ClassId × (Nat → Nat), ci < 13 → u_Kn s (jt_cw ci).1 (jt_cw ci).2.1 (jt_cw ci).2.2 q.1 q.2 := fun ci => by
    by_cases h : ci < 13
    · have hin : Cond.instantiable (jt_cw ci).1 (jt_cw ci).2.2 ∈ lw_tbl := by
        have := List.all_eq_true.mp lw_inst ci (List.mem_range.mpr h)
        simpa using this
      obtain ⟨cC, iS, hk⟩ := u_known hT (jt_ws_in h) (hts _ hin)
      exact ⟨(cC, iS), fun _ => hk⟩
    · exact ⟨(0, fun _ => 0), fun q => absurd q h⟩
  obtain ⟨f, hf⟩ := Classical.axiomOfChoice h1
  obtain ⟨cI, i1, i2⟩ := lw_arr (ty := .int) (hts _ (by decide +kernel))
  obtain ⟨cL, l1, l2⟩ := lw_arr (ty := .long) (hts _ (by decide +kernel))
  obtain ⟨cB, b1, b2⟩ := lw_arr (ty := .boolean) (hts _ (by decide +kernel))
  refine ⟨(fun c => (f c).1, fun c => (f c).2), fun t => if t = 0 then cI else if t = 1 then cL else cB, fun c q hq => ?_, fun k q hk => ?_⟩
  · have hc : c < 13 := by
      have := (List.getElem?_eq_some_iff.mp hq).1
      exact this
    have e := jt_cl_get hc
    rw [e] at hq
    cases hq
    exact hf c hc
  · match k, hk with
    | 0, hk => cases hk; exact ⟨i1, i2⟩
    | 1, hk => cases hk; exact ⟨l1, l2⟩
    | 2, hk => cases hk; exact ⟨b1, b2⟩
    | k + 3, hk => simp [jx_tys] at hk
theorem lw_W1 {s : State} {b : Nat} (hts : ∀ w ∈ lw_tbl, w.before #[Value.ref b] s = true) (hgv : (Jvm.Cond.and given_1 narrow_1).before #[Value.ref b] s = true) : jW1 s := by
  have hs := flat_of_before _ hgv
  exact ⟨⟨_, hts, hs _ (by decide +kernel), hs _ (by decide +kernel)⟩, _, hs _ (by decide +kernel)⟩
theorem lw_tr {l : Launch} (h : l.flags = flags0) : l.stackTraces = false := by
  unfold Launch.stackTraces
  rw [h]
  decide +kernel
