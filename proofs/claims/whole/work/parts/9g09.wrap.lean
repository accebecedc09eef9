/-! THE LAW'S WRAPPERS. -/
def jw_room : Room := { frames := 402, cells := 1, slots := 6, locals := 40200 }
/-- a wrapper's contract: it answers k, and the world is σ' -/
def jx_WrM (l : Launch) (s0 : State) (D : va_G) (dA : Nat → ClassId) (ad : Nat → Nat) (y : MethodName) (bytes : ByteArray) (mxL : Nat) (hh : List (Nat × Nat × Nat × Nat)) (as : List Value) (σ : jx_S) (k : Int32) (σ' : jx_S) : Prop :=
  ∀ sz : Nat, Met l y (Cond.codeWith y bytes mxL (some .int) hh :: jt_Ts) jw_room
    (va_Pc (jx_vs ad as) (fun U => U.heap.size = sz ∧ va_P D jt_cl (jx_W ad dA jt_O jt_N σ) U.heap ∧ va_K D jt_cl (jx_tys dA) U ∧ va_D (fun _ => True) (jx_W ad dA jt_O jt_N σ) ∧ jFrom s0 U))
    (fun _ st oc t => (oc = .returned (some (.int k)) ∧ va_P D jt_cl (jx_W ad dA jt_O jt_N σ') t.heap) ∧ va_F (va_A (jx_W ad dA jt_O jt_N σ) sz) st t) 1 6 (va_A (jx_W ad dA jt_O jt_N σ) sz)
/-- a wrapper's first instructions: they push out, 0, x and the arguments -/
def jw_pre (bytes : ByteArray) (mxL pc0 : Nat) (as bs : List Value) : Prop :=
  ∀ (ad : Nat → Nat) (p : Program) (l : Launch) (e : Env) (R : Room) (s : State) (m : MethodId) (args : Array Value) (below : List Frame) (meth : Method) (c : Code) (H : Heap) (locs : List Loc) (cells slots : Nat) (Q : State → Prop) (ls : Array Slot), p.tables.exec = Jvm.exec → c.code = bytes → lv_has ls mxL (jx_cl ad (lv_args 0 as)) →
    W p l e R s m args below meth c H locs cells slots Q (F0 m pc0 ls ((jx_vs ad bs).reverse ++ .ref (ad 0) :: [.int 0, .ref (ad 171)])) → W p l e R s m args below meth c H locs cells slots Q (F0 m 0 ls [])
section JWR
variable {l : Launch} {s0 : State} {D : va_G} {dA : Nat → ClassId} {ad : Nat → Nat} {σ σ1 : jx_S} {nm ds : String} {bytes : ByteArray} {mxL pc0 ix mj tgt : Nat} {hh : List (Nat × Nat × Nat × Nat)} {as bs : List Value} {off : Int}
theorem jx_wrG {r : Int32} (hpre : jw_pre bytes mxL pc0 as bs) (hwa : jx_wn as ≤ mxL) (hrun : jE 400 mj 0 (lv_args 0 (.ref 0 :: bs)) [] σ (some (.int r), σ1)) (hmj : mj < 233) (how : jt_ow mj = "LazyStrict") (hwn : jx_wn (.ref 0 :: bs) ≤ (jt_M mj).2.2.2) (hbl : bs.length = (jt_M mj).2.1)
    (w1 : Cond.methodLink "LazyStrictLaw" ix (jt_yy mj) ∈ jt_Ts) (w2 : Cond.instanceMethod (jt_yy mj) ∈ jt_Ts) (w3 : Cond.selects (jt_ow mj) (jt_yy mj) (jt_yy mj) ∈ jt_Ts)
    (hd0 : decode bytes pc0 = .ok (.invokevirtual ix, 3)) (hd1 : decode bytes (pc0 + 3) = .ok (.i2l, 1)) (hd2 : decode bytes (pc0 + 4) = .ok (.lastore, 1)) (hd3 : decode bytes (pc0 + 5) = .ok (.goto off, 3)) (ht : ((pc0 + 5 : Nat) : Int) + off = (tgt : Int)) (hd4 : decode bytes tgt = .ok (.iconst 0, 1)) (hd5 : decode bytes (tgt + 1) = .ok (.ireturn, 1)) :
    jx_WrM l s0 D dA ad ⟨"LazyStrictLaw", nm, ds⟩ bytes mxL hh as σ 0 (jx_l σ1 171 0 r.toInt64) := by
  obtain ⟨m1, m2, m3, m4, m5, m6, m7, m8⟩ := jt_mok hmj
  have hlen : (lg_sl (jx_vs ad as)).length ≤ mxL := by rw [jx_sl_len]; exact hwa
  have hgood : GoodIn jt_Ts jt_Ts := by
    obtain ⟨-, -, -, -, -, -, -, -, -, -, -, hg, -⟩ := jt_Ok
    exact hg
  intro sz
  refine va_MetW (cc := bytes) (maxL := mxL) (ret := some .int) (hh := hh) (ws' := jt_Ts) (by show plainName "LazyStrictLaw" = true; decide +kernel) rfl ?_
  intro p e s m args below meth c s₁ B hml hv
  obtain ⟨rfl, hsz, hPw, hK, hD0, hF⟩ := hv
  have hx := B.exec
  have hb := B.bytes
  have hts0 := atoms_spec (ws := Cond.codeWith ⟨"LazyStrictLaw", nm, ds⟩ bytes mxL (some .int) hh :: jt_Ts) B.pre
  have hts : ∀ w ∈ jt_Ts, w.before (jx_vs ad as).toArray s = true := fun w h => hts0 w (List.mem_cons_of_mem _ h)
  have hown : s.vm.findClass "LazyStrictLaw" = some m.cls := findClass_of_methodNamed B.named
  subst hsz
  have hD := hD0.self (sz := s.heap.size)
  have hS : va_S (va_A (jx_W ad dA jt_O jt_N σ) s.heap.size) s.heap s.heap [] := va_S.rf
  have hl := lv_entry (jx_vs ad as) (n := mxL) hlen
  rw [jx_args_cl ad as 0] at hl
  rw [lg_entry_eq]
  generalize (lg_sl (jx_vs ad as) ++ List.replicate (mxL - (lg_sl (jx_vs ad as)).length) Slot.unset).toArray = ls at hl ⊢
  refine hpre ad p l e _ s m _ below meth c s.heap [] 0 0 _ ls hx hb hl ?_
  obtain ⟨n, hrun⟩ := hrun
  have hM := jx_met jt_Ok (jx_walk (D := D) (dA := dA) (ad := ad) jt_Ok l 400) (ad := ad) (jt_mok hmj) hrun hwn
  refine jx_call (a := #[]) (σ := σ) (σ' := σ1) (v := some (.int r)) (A := va_A (jx_W ad dA jt_O jt_N σ) s.heap.size) (H0 := s.heap) (va_runV (As := jx_vs ad bs) (b := ad 0) (rest := [.int 0, .ref (ad 171)]) (C := jt_ow mj) ⟨hx, hb, hml, hown, hts⟩ (hM s.heap.size) (cwV (jt_M mj).2.1 hts (jx_goodc hgood w1 w2 w3 m2 (fun w hw => by rcases List.mem_cons.mp hw with rfl | hw; exact m1; exact hw)) rfl rfl rfl ⟨m3, m5.1, m5.2, m6⟩ ⟨by show 400 + 1 ≤ 402; omega, by show 8 + (jt_mx mj + 11) + 100 * 400 ≤ 40200; omega⟩) ⟨jx_blind, by rw [how]; exact va_recv (q0 := 0) (ci := 0) (a := ad 0) (q := ("LazyStrict", jt_T0, 13)) hK hPw rfl (jx_Wobj (O := jt_O) (N := jt_N) (k := 0) (by decide) rfl), fun U hU hW => ⟨rfl, by rw [hU], by rw [hU]; exact hPw, va_K.moved hW.alike hK, hD.weaken (fun _ _ _ _ => trivial)⟩⟩ rfl (by rw [List.length_map]; exact hbl) hl.1 rfl (by show 2 * 0 + 2 ≤ 8; omega) hd0 ⟨by show 0 + 0 ≤ 1; omega, by show 0 + 0 ≤ 6; omega⟩) hD hS (fun q h => Or.inr h) ?_
  intro H1 locs1 hP1 hD1 hS1
  show W p l e _ s m _ below meth c H1 locs1 0 0 _ (F0 m (pc0 + 3) ls [.int r, .int 0, .ref (ad 171)])
  refine lv_i2l hx hb hd1 rfl ?_
  refine va_last hx hb hK hP1 hD1 hS1 171 1 (jx_Warr1 (k := 171) (n := 1) (by decide) rfl) rfl (show ¬ ((0 : Int32) < 0 ∨ 1 ≤ (0 : Int32).toNatClampNeg) by decide) hd2 (fun H2 locs2 hP2 hD2 hS2 => ?_)
  rw [show (0 : Int32).toNatClampNeg = 0 from rfl, jx_Wset_b (O := jt_O) (k := 171) (n := 1) rfl] at hP2
  refine lv_goto hx hb hd3 ht ?_
  refine lv_iconst (v := 0) hx hb hd4 (by decide) ?_
  refine W.widen (k := 1) (n := 6) (by omega) (by omega) ?_
  exact W.iret hx hb B.returns (fun t ht hW => ⟨⟨rfl, by rw [ht]; exact hP2⟩, hS2.F ht⟩) hS2.2.2 hd5
/-- a wrapper's handler: it answers k -/
def jw_hnd (bytes : ByteArray) (mxL hpc : Nat) (k : Int32) (as : List Value) : Prop := ∃ q, decode bytes q = .ok (.ireturn, 1) ∧
  ∀ (ad : Nat → Nat) (p : Program) (l : Launch) (e : Env) (R : Room) (s : State) (m : MethodId) (args : Array Value) (below : List Frame) (meth : Method) (c : Code) (H : Heap) (locs : List Loc) (cells slots : Nat) (Q : State → Prop) (ls : Array Slot) (x : Nat), p.tables.exec = Jvm.exec → c.code = bytes → lv_has ls mxL (jx_cl ad (lv_args 0 as)) →
    (∀ ls' : Array Slot, W p l e R s m args below meth c H locs cells slots Q (F0 m q ls' [.int k])) → W p l e R s m args below meth c H locs cells slots Q (F0 m hpc ls [.ref x])
theorem jx_wrT {k : Int32} {cls : String} {pre post : List ExceptionTableEntry} {ent : ExceptionTableEntry} (hpre : jw_pre bytes mxL pc0 as bs) (hhnd : jw_hnd bytes mxL ent.handlerPc k as) (hwa : jx_wn as ≤ mxL) (hMT : jx_MetT l s0 D dA ad 8 mj (.ref 0 :: bs) σ cls) (had : ∀ k, k < jt_N → s0.heap.size ≤ ad k) (hmj : mj < 233) (how : jt_ow mj = "LazyStrict") (hbl : bs.length = (jt_M mj).2.1)
    (w1 : Cond.methodLink "LazyStrictLaw" ix (jt_yy mj) ∈ jt_Ts) (w2 : Cond.instanceMethod (jt_yy mj) ∈ jt_Ts) (w3 : Cond.selects (jt_ow mj) (jt_yy mj) (jt_yy mj) ∈ jt_Ts)
    (hd0 : decode bytes pc0 = .ok (.invokevirtual ix, 3)) (hsplit : tableOf hh = pre ++ ent :: post) (hcov : covers ent pc0 = true) (h0c : ent.catchType ≠ 0) (w4 : Cond.classLink "LazyStrictLaw" ent.catchType cls ∈ jt_Ts)
    (hpass : ∀ (pl : Platform) (s : State) (d : ClassId) (thrown : ClassId) (a : Array Value), pl.magicAccessors = ({} : Platform).magicAccessors → jFrom s0 s → s.vm.findClass "LazyStrictLaw" = some d → (∀ w ∈ jt_Ts, w.before a s = true) → s.vm.findClass cls = some thrown → ∀ y ∈ pre, RowPassed pl s d pc0 thrown y) :
    jx_WrM l s0 D dA ad ⟨"LazyStrictLaw", nm, ds⟩ bytes mxL hh as σ k σ := by
  have hlen : (lg_sl (jx_vs ad as)).length ≤ mxL := by rw [jx_sl_len]; exact hwa
  intro sz
  refine va_MetW (cc := bytes) (maxL := mxL) (ret := some .int) (hh := hh) (ws' := jt_Ts) (by show plainName "LazyStrictLaw" = true; decide +kernel) rfl ?_
  intro p e s m args below meth c s₁ B hml hv
  obtain ⟨rfl, hsz, hPw, hK, hD0, hF⟩ := hv
  have hx := B.exec
  have hb := B.bytes
  have hts0 := atoms_spec (ws := Cond.codeWith ⟨"LazyStrictLaw", nm, ds⟩ bytes mxL (some .int) hh :: jt_Ts) B.pre
  have hts : ∀ w ∈ jt_Ts, w.before (jx_vs ad as).toArray s = true := fun w h => hts0 w (List.mem_cons_of_mem _ h)
  have hown : s.vm.findClass "LazyStrictLaw" = some m.cls := findClass_of_methodNamed B.named
  have X₁ := Stand.of_body B
  have htab : c.exceptionTable.toList = pre ++ ent :: post := by
    obtain ⟨m', meth', c', q1, q2, q3, -, -, q4, -, -, -⟩ := Cond.codeWith_spec (hts0 _ List.mem_cons_self)
    cases B.named.symm.trans q1
    cases B.method.symm.trans q2
    cases X₁.code.symm.trans q3
    rw [← hsplit, ← q4, table_eq]
  have hpl : e.platform.magicAccessors = ({} : Platform).magicAccessors := by rw [X₁.admits.platform]
  subst hsz
  have hD := hD0.self (sz := s.heap.size)
  have hS : va_S (va_A (jx_W ad dA jt_O jt_N σ) s.heap.size) s.heap s.heap [] := va_S.rf
  have hl := lv_entry (jx_vs ad as) (n := mxL) hlen
  rw [jx_args_cl ad as 0] at hl
  rw [lg_entry_eq]
  generalize (lg_sl (jx_vs ad as) ++ List.replicate (mxL - (lg_sl (jx_vs ad as)).length) Slot.unset).toArray = ls at hl ⊢
  refine hpre ad p l e _ s m _ below meth c s.heap [] 0 0 _ ls hx hb hl ?_
  refine jx_tcall (A := va_A (jx_W ad dA jt_O jt_N σ) s.heap.size) (H0 := s.heap) (own := "LazyStrictLaw") (ix := ix) (pre := pre) (post := post) (ent := ent) hMT hmj how hx hb (by rw [hl.1, hml]) hown hts hK (fun q h => Or.inr h) hF.1 hF.2 (hts _ w1) (hts _ w2) (by rw [← how]; exact hts _ w3) hbl (by show 8 + 2 ≤ 402; omega) (by show 8 + 71 + 100 * (8 + 1) ≤ 40200; omega) (by show 0 + 1 ≤ 1; omega) (by show 0 + 6 ≤ 6; omega) hd0 (by show 1 + (1 + 0) ≤ 8; omega) htab hcov h0c (hts _ w4) (fun thrown q => hpass e.platform s m.cls thrown _ hpl hF hown hts q) hPw hD hS (fun H1 locs1 x hP1 hS1 => ?_)
  obtain ⟨q, hdq, hh1⟩ := hhnd
  refine hh1 ad p l e _ s m _ below meth c H1 locs1 _ _ _ ls x hx hb hl (fun ls' => ?_)
  exact W.iret hx hb B.returns (fun t ht hW => ⟨⟨rfl, by rw [ht]; exact hP1⟩, hS1.F ht⟩) hS1.2.2 hdq
end JWR
