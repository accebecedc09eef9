/-! CONSTRUCTORS, 5b: String.length and charAt of a constant of the class. -/
section JSTR
variable {l : Launch} {s0 : State}
/-- the start's String at a, its bytes at a2; constants of the library, as U has them -/
def jsU (s0 U : State) (a a2 : Nat) (fm : Value) : Prop := va_O "java/lang/String" a (fun q : Nat => s0.heap.size ≤ q) U U.heap ∧ va_OF "java/lang/String" "coder" "B" (.int 0) a (fun q : Nat => s0.heap.size ≤ q) U U.heap ∧ va_OF "java/lang/String" "value" "[B" (.ref a2) a (fun q : Nat => s0.heap.size ≤ q) U U.heap ∧ va_T .byte a2 58 (fun j => .int (Int32.ofNat (jc_txt.getD j 0))) (fun q : Nat => s0.heap.size ≤ q) U U.heap ∧ va_Z "java/lang/String" "COMPACT_STRINGS" "Z" (.int 1) (fun q : Nat => s0.heap.size ≤ q) U U.heap ∧ va_Z "jdk/internal/util/Preconditions" "SIOOBE_FORMATTER" "Ljava/util/function/BiFunction;" fm (fun q : Nat => s0.heap.size ≤ q) U U.heap ∧ (fm = .null ∨ ∃ q, fm = .ref q)
theorem jsU_at {a a2 : Nat} {fm : Value} {U : State} (h : jsU s0 s0 a a2 fm) (hF : jFrom s0 U) : jsU s0 U a a2 fm := by
  obtain ⟨u1, u2, u3, u4, u5, u6, u7⟩ := h
  have hq : ∀ a : Nat, a < s0.heap.size → ¬ (fun q : Nat => s0.heap.size ≤ q) a → U.heap[a]? = s0.heap[a]? := fun a h1 _ => hF.2 a h1
  have hv := hF.1.alike
  exact ⟨(u1.moved hv).kept hq, (u2.moved hv).kept hq, (u3.moved hv).kept hq, (u4.moved hv).kept hq, (u5.moved hv).kept hq, (u6.moved hv).kept hq, u7⟩
/-- a method of the library that changes nothing -/
def jsM (l : Launch) (s0 : State) (d : Nat) (y : MethodName) (bytes : ByteArray) (mx : Nat) (rt : Option FieldType) (as : List Value) (v : Option Value) : Prop :=
  Met l y (Cond.code y bytes mx rt :: jt_Ts) (jx_room d) (va_Pc as (fun U => jFrom s0 U)) (fun _ st oc t => oc = .returned v ∧ t.heap = st.heap) 0 0 (fun _ => False)
theorem js_met {d mx : Nat} {y : MethodName} {bytes : ByteArray} {rt : Option FieldType} {as : List Value} {v : Option Value} (hpl : plainName y.cls = true) (hlen : (lg_sl as).length ≤ mx)
    (K : ∀ (p : Program) (e : Env) (R : Room) (s : State) (m : MethodId) (args : Array Value) (below : List Frame) (meth : Method) (c : Code) (Q : State → Prop) (ls : Array Slot), p.tables.exec = Jvm.exec → c.code = bytes → c.maxLocals = mx → s.vm.findClass y.cls = some m.cls → (∀ w ∈ jt_Ts, w.before args s = true) → jFrom s0 s → (d ≤ R.frames ∧ 100 * d ≤ R.locals) → lv_has ls mx (lv_args 0 as) →
      (∀ (pcR : Nat) (iR : Instr) (ls1 : Array Slot), decode bytes pcR = .ok (iR, 1) → jx_ret rt iR v → W p l e R s m args below meth c s.heap [] 0 0 Q (F0 m pcR ls1 v.toList)) →
      W p l e R s m args below meth c s.heap [] 0 0 Q (F0 m 0 ls [])) : jsM l s0 d y bytes mx rt as v := by
  refine Met.ofW (cc := bytes) (maxL := mx) (ret := rt) hpl rfl ?_
  intro p e s m args below meth c s₁ B hml hv
  obtain ⟨rfl, hF⟩ := hv
  have hx := B.exec
  have hb := B.bytes
  have hr := B.returns
  have hts0 := atoms_spec (ws := Cond.code y bytes mx rt :: jt_Ts) B.pre
  have hts : ∀ w ∈ jt_Ts, w.before as.toArray s = true := fun w h => hts0 w (List.mem_cons_of_mem _ h)
  have hown : s.vm.findClass y.cls = some m.cls := findClass_of_methodNamed B.named
  have hlocks := B.notSynchronized
  have hl := lv_entry as (n := mx) hlen
  rw [lg_entry_eq]
  refine K p e _ s m _ below meth c _ _ hx hb hml hown hts hF ⟨Nat.le_refl _, Nat.le_refl _⟩ hl ?_
  intro pcR iR ls1 hdg hret
  rcases hret with ⟨rfl, rfl, hrt⟩ | ⟨x, rfl, rfl, ty, hrt, hn⟩ | ⟨x, rfl, rfl, hrt⟩
  · exact W.vret hx hb (hr.trans hrt) (fun t ht hW => ⟨rfl, ht⟩) (fun _ h => by cases h) hdg
  · exact W.zret hx hb (hr.trans hrt) hn (fun t ht hW => ⟨rfl, ht⟩) (fun _ h => by cases h) hdg
  · exact W.lret hx hb (hr.trans hrt) (fun t ht hW => ⟨rfl, ht⟩) (fun _ h => by cases h) hdg
variable {p : Program} {e : Env} {R : Room} {s : State} {m : MethodId} {args : Array Value} {below : List Frame} {meth : Method} {c : Code} {H : Heap} {locs : List Loc} {cells slots : Nat} {Q : State → Prop}
theorem js_ret {pc : Nat} {ls : Array Slot} {st0 rest : List Value} {a : Array Value} {v : Option Value}
    (hr : va_Run p l e R s m args below meth c H locs cells slots 0 0 (F0 m pc ls st0) rest ((fun _ st oc t => oc = Outcome.returned v ∧ t.heap = st.heap : Array Value → State → Outcome → State → Prop) a) (fun _ => False))
    (kk : W p l e R s m args below meth c H locs cells slots Q (F0 m (pc + 3) ls (v.toList ++ rest))) : W p l e R s m args below meth c H locs cells slots Q (F0 m pc ls st0) := by
  intro T hT X
  obtain ⟨w, st₀, t, T', L, h0, X', hL, e1, e2, ⟨hv, hp⟩, st⟩ := hr T hT X
  cases hv
  have hLn : L = [] := by
    cases L with
    | nil => rfl
    | cons q L => exact (hL q List.mem_cons_self).elim
  subst hLn
  rw [List.append_nil] at X'
  obtain ⟨t2, a1, b1⟩ := kk T' (by rw [e1, hp, h0]) X'
  exact ⟨t2, st t2 a1, b1⟩
theorem js_V {cc bytes : ByteArray} {nL ix pc d1 mx b : Nat} {own : String} {y : MethodName} {rt : Option FieldType} {As rest : List Value} {v : Option Value} {ls : Array Slot} (hM : jsM l s0 d1 y bytes mx rt (.ref b :: As) v)
    (hx : p.tables.exec = Jvm.exec) (hb : c.code = cc) (hml : c.maxLocals = nL) (hls : ls.size = nL) (hown : s.vm.findClass own = some m.cls) (hts : ∀ w ∈ jt_Ts, w.before args s = true) (hW0 : s0.WarmedH s.vm) (hFH : ∀ a, a < s0.heap.size → H[a]? = s0.heap[a]?)
    (w1 : Cond.methodLink own ix y ∈ lw_tbl) (w2 : Cond.instanceMethod y ∈ lw_tbl) (w3 : Cond.selects y.cls y y ∈ lw_tbl) (w4 : Cond.initialized y.cls ∈ lw_tbl) (w5 : Cond.code y bytes mx rt ∈ lw_tbl)
    (hy : y.cls ≠ "java/lang/invoke/MethodHandle" ∧ y.cls ≠ "java/lang/invoke/VarHandle" ∧ (parseMethodDescriptor y.desc).map (fun d => d.parameters.length) = some As.length) (hmx : mx ≤ 60) (hR : d1 + 1 ≤ R.frames ∧ 100 * (d1 + 1) ≤ R.locals) (hcs : cells ≤ R.cells ∧ slots ≤ R.slots)
    (hrecv : ∃ cell : Cell, H[b]? = some cell ∧ cell.vm.isStatics = false ∧ s.vm.findClass y.cls = some cell.cls) (h8 : (rest.map fun v => v.category).sum ≤ 8) (hdg : decode cc pc = .ok (.invokevirtual ix, 3))
    (kk : W p l e R s m args below meth c H locs cells slots Q (F0 m (pc + 3) ls (v.toList ++ rest))) : W p l e R s m args below meth c H locs cells slots Q (F0 m pc ls (As.reverse ++ .ref b :: rest)) := by
  have w5' := jt_inT w5 rfl
  exact js_ret (a := (Value.ref b :: As).toArray) (va_runV (As := As) (b := b) (rest := rest) (C := y.cls) ⟨hx, hb, hml, hown, hts⟩ hM (cwV As.length hts (jx_goodc jt_gg (jt_inT w1 rfl) (jt_inT w2 rfl) (jt_inT w3 rfl) (jt_inT w4 rfl) (fun w hw => by rcases List.mem_cons.mp hw with rfl | hw; exact w5'; exact hw)) rfl rfl rfl ⟨rfl, hy.1, hy.2.1, hy.2.2⟩ ⟨hR.1, by show 8 + (mx + 11) + 100 * d1 ≤ R.locals; omega⟩) ⟨fun a U g mk q => q, hrecv, fun U hU hW => ⟨rfl, State.WarmedH.trans hW0 hW, fun a ha => by rw [hU]; exact hFH a ha⟩⟩ rfl rfl hls rfl (by show 2 * 0 + _ ≤ 8; omega) hdg ⟨hcs.1, hcs.2⟩) kk
theorem js_S {cc bytes : ByteArray} {nL ix pc d1 mx : Nat} {own : String} {y : MethodName} {rt : Option FieldType} {As rest : List Value} {v : Option Value} {ls : Array Slot} (hM : jsM l s0 d1 y bytes mx rt As v)
    (hx : p.tables.exec = Jvm.exec) (hb : c.code = cc) (hml : c.maxLocals = nL) (hls : ls.size = nL) (hown : s.vm.findClass own = some m.cls) (hts : ∀ w ∈ jt_Ts, w.before args s = true) (hW0 : s0.WarmedH s.vm) (hFH : ∀ a, a < s0.heap.size → H[a]? = s0.heap[a]?)
    (w1 : Cond.methodLink own ix y ∈ lw_tbl) (w2 : Cond.static y ∈ lw_tbl) (w4 : Cond.initialized y.cls ∈ lw_tbl) (w5 : Cond.code y bytes mx rt ∈ lw_tbl)
    (hy : y.cls ≠ "java/lang/invoke/MethodHandle" ∧ y.cls ≠ "java/lang/invoke/VarHandle" ∧ (parseMethodDescriptor y.desc).map (fun d => d.parameters.length) = some As.length) (hmx : mx ≤ 60) (hR : d1 + 1 ≤ R.frames ∧ 100 * (d1 + 1) ≤ R.locals) (hcs : cells ≤ R.cells ∧ slots ≤ R.slots)
    (h8 : (rest.map fun v => v.category).sum ≤ 8) (hdg : decode cc pc = .ok (.invokestatic ix, 3))
    (kk : W p l e R s m args below meth c H locs cells slots Q (F0 m (pc + 3) ls (v.toList ++ rest))) : W p l e R s m args below meth c H locs cells slots Q (F0 m pc ls (As.reverse ++ rest)) := by
  have w5' := jt_inT w5 rfl
  exact js_ret (a := As.toArray) (va_runS (As := As) (rest := rest) ⟨hx, hb, hml, hown, hts⟩ hM (va_cwS As.length hts (jx_goodc3 jt_gg (jt_inT w1 rfl) (jt_inT w2 rfl) (jt_inT w4 rfl) (fun w hw => by rcases List.mem_cons.mp hw with rfl | hw; exact w5'; exact hw)) rfl rfl rfl ⟨hy.1, hy.2.1, hy.2.2⟩ ⟨hR.1, by show 8 + (mx + 11) + 100 * d1 ≤ R.locals; omega⟩) ⟨fun a U g mk q => q, fun U hU hW => ⟨rfl, State.WarmedH.trans hW0 hW, fun a ha => by rw [hU]; exact hFH a ha⟩⟩ rfl rfl hls rfl (by show 2 * 0 + _ ≤ 8; omega) hdg ⟨hcs.1, hcs.2⟩) kk
end JSTR
def js_cod : MethodName := ⟨"java/lang/String", "coder", "()B"⟩
def js_len : MethodName := ⟨"java/lang/String", "length", "()I"⟩
def js_lat : MethodName := ⟨"java/lang/String", "isLatin1", "()Z"⟩
def js_chr : MethodName := ⟨"java/lang/String", "charAt", "(I)C"⟩
def js_cki : MethodName := ⟨"java/lang/String", "checkIndex", "(II)V"⟩
def js_lch : MethodName := ⟨"java/lang/StringLatin1", "charAt", "([BI)C"⟩
def js_pre : MethodName := ⟨"jdk/internal/util/Preconditions", "checkIndex", "(IILjava/util/function/BiFunction;)I"⟩
def js_ws : List Cond := [Cond.methodLink "java/lang/String" 335 js_cod, Cond.instanceMethod js_cod, Cond.selects js_cod.cls js_cod js_cod, Cond.initialized js_cod.cls, Cond.code js_cod prog_21_method_152_code 1 (some .byte), Cond.methodLink "java/lang/String" 492 js_lat, Cond.instanceMethod js_lat, Cond.selects js_lat.cls js_lat js_lat, Cond.code js_lat prog_21_method_154_code 1 (some .boolean), Cond.methodLink "java/lang/String" 495 js_lch, Cond.static js_lch, Cond.initialized js_lch.cls, Cond.code js_lch prog_22_method_2_code 2 (some .char), Cond.methodLink "java/lang/StringLatin1" 9 js_cki, Cond.static js_cki, Cond.code js_cki prog_21_method_155_code 2 none, Cond.methodLink "java/lang/String" 1059 js_pre, Cond.static js_pre, Cond.initialized js_pre.cls, Cond.code js_pre prog_25_method_11_code 3 (some .int), Cond.fieldLink "java/lang/String" 38 "java/lang/String" "COMPACT_STRINGS" "Z", Cond.fieldLink "java/lang/String" 9 "java/lang/String" "value" "[B", Cond.fieldLink "java/lang/String" 15 "java/lang/String" "coder" "B", Cond.fieldLink "java/lang/String" 1053 "jdk/internal/util/Preconditions" "SIOOBE_FORMATTER" "Ljava/util/function/BiFunction;", Cond.methodLink "LazyStrict$Tokens" 35 js_len, Cond.instanceMethod js_len, Cond.selects js_len.cls js_len js_len, Cond.code js_len prog_21_method_54_code 1 (some .int), Cond.methodLink "LazyStrict$Tokens" 41 js_chr, Cond.instanceMethod js_chr, Cond.selects js_chr.cls js_chr js_chr, Cond.code js_chr prog_21_method_56_code 2 (some .char)]
theorem js_wsA : js_ws.all (fun w => decide (w ∈ lw_tbl)) = true := by decide +kernel
theorem js_wi {w : Cond} {k : Nat} (h : js_ws[k]? = some w) : w ∈ lw_tbl := by
  simpa using List.all_eq_true.mp js_wsA w (List.mem_of_getElem? h)
/-- a byte of the constant -/
def js_byte (b : Int32) : Prop := ((b &&& 255).toUInt32 % 65536).toInt32 = b ∧ narrow .char (.int b) = .int b
theorem js_bytes : ∀ k, k < 58 → ((Int32.ofNat (jc_txt.getD k 0) &&& 255).toUInt32 % 65536).toInt32 = Int32.ofNat (jc_txt.getD k 0) ∧ narrow .char (.int (Int32.ofNat (jc_txt.getD k 0))) = .int (Int32.ofNat (jc_txt.getD k 0)) := by decide +kernel
section JSTR2
variable {l : Launch} {s0 : State} {a a2 : Nat} {fm : Value}
theorem js_cod_m (h : jsU s0 s0 a a2 fm) : jsM l s0 0 js_cod prog_21_method_152_code 1 (some .byte) [.ref a] (some (.int 0)) := by
  refine js_met (by decide +kernel) (Nat.le_of_ble_eq_true rfl) ?_
  intro p e R s m args below meth c Q ls hx hb hml hown hts hF hR hl kk
  obtain ⟨u1, u2, u3, u4, u5, u6, u7⟩ := jsU_at h hF
  have hS : va_S (fun q : Nat => s0.heap.size ≤ q) s.heap s.heap [] := va_S.rf
  refine va_gets hx hb u5 hS hown (hts _ (jt_inT (js_wi (k := 20) rfl) rfl)) (fun _ q => q) (show decode prog_21_method_152_code 0 = .ok (.getstatic 38, 3) by decide +kernel) ?_
  refine lv_if_eq (tgt := 13) hx hb (show decode prog_21_method_152_code 3 = .ok (.ifCond .eq 10, 3) by decide +kernel) rfl (fun q => absurd q (by decide)) (fun _ => ?_)
  refine lv_aload_n hx hb (show decode prog_21_method_152_code 6 = .ok (.aload_n 0, 1) by decide +kernel) rfl (lv_at hl 0 rfl) ?_
  refine vk_getf hx hb u2 hS hown (hts _ (jt_inT (js_wi (k := 22) rfl) rfl)) (fun _ q => q) (show decode prog_21_method_152_code 7 = .ok (.getfield 15, 3) by decide +kernel) ?_
  refine lv_goto (tgt := 14) hx hb (show decode prog_21_method_152_code 10 = .ok (.goto 4, 3) by decide +kernel) rfl ?_
  exact kk 14 .ireturn ls (show decode prog_21_method_152_code 14 = .ok (.ireturn, 1) by decide +kernel) (Or.inr (Or.inl ⟨0, rfl, rfl, .byte, rfl, by decide +kernel⟩))
theorem js_lat_m (h : jsU s0 s0 a a2 fm) : jsM l s0 0 js_lat prog_21_method_154_code 1 (some .boolean) [.ref a] (some (.int 1)) := by
  refine js_met (by decide +kernel) (Nat.le_of_ble_eq_true rfl) ?_
  intro p e R s m args below meth c Q ls hx hb hml hown hts hF hR hl kk
  obtain ⟨u1, u2, u3, u4, u5, u6, u7⟩ := jsU_at h hF
  have hS : va_S (fun q : Nat => s0.heap.size ≤ q) s.heap s.heap [] := va_S.rf
  refine va_gets hx hb u5 hS hown (hts _ (jt_inT (js_wi (k := 20) rfl) rfl)) (fun _ q => q) (show decode prog_21_method_154_code 0 = .ok (.getstatic 38, 3) by decide +kernel) ?_
  refine lv_if_eq (tgt := 17) hx hb (show decode prog_21_method_154_code 3 = .ok (.ifCond .eq 14, 3) by decide +kernel) rfl (fun q => absurd q (by decide)) (fun _ => ?_)
  refine lv_aload_n hx hb (show decode prog_21_method_154_code 6 = .ok (.aload_n 0, 1) by decide +kernel) rfl (lv_at hl 0 rfl) ?_
  refine vk_getf hx hb u2 hS hown (hts _ (jt_inT (js_wi (k := 22) rfl) rfl)) (fun _ q => q) (show decode prog_21_method_154_code 7 = .ok (.getfield 15, 3) by decide +kernel) ?_
  refine lv_if_ne (tgt := 17) hx hb (show decode prog_21_method_154_code 10 = .ok (.ifCond .ne 7, 3) by decide +kernel) rfl (fun q => absurd rfl q) (fun _ => ?_)
  refine lv_iconst (v := 1) hx hb (show decode prog_21_method_154_code 13 = .ok (.iconst 1, 1) by decide +kernel) (by decide) ?_
  refine lv_goto (tgt := 18) hx hb (show decode prog_21_method_154_code 14 = .ok (.goto 4, 3) by decide +kernel) rfl ?_
  exact kk 18 .ireturn ls (show decode prog_21_method_154_code 18 = .ok (.ireturn, 1) by decide +kernel) (Or.inr (Or.inl ⟨1, rfl, rfl, .boolean, rfl, by decide +kernel⟩))
theorem js_len_m (h : jsU s0 s0 a a2 fm) : jsM l s0 1 js_len prog_21_method_54_code 1 (some .int) [.ref a] (some (.int 58)) := by
  refine js_met (by decide +kernel) (Nat.le_of_ble_eq_true rfl) ?_
  intro p e R s m args below meth c Q ls hx hb hml hown hts hF hR hl kk
  obtain ⟨u1, u2, u3, u4, u5, u6, u7⟩ := jsU_at h hF
  have hS : va_S (fun q : Nat => s0.heap.size ≤ q) s.heap s.heap [] := va_S.rf
  refine lv_aload_n hx hb (show decode prog_21_method_54_code 0 = .ok (.aload_n 0, 1) by decide +kernel) rfl (lv_at hl 0 rfl) ?_
  refine vk_getf hx hb u3 hS hown (hts _ (jt_inT (js_wi (k := 21) rfl) rfl)) (fun _ q => q) (show decode prog_21_method_54_code 1 = .ok (.getfield 9, 3) by decide +kernel) ?_
  refine va_tlen (v := 58) hx hb u4 hS rfl (show decode prog_21_method_54_code 4 = .ok (.arraylength, 1) by decide +kernel) ?_
  refine lv_aload_n hx hb (show decode prog_21_method_54_code 5 = .ok (.aload_n 0, 1) by decide +kernel) rfl (lv_at hl 0 rfl) ?_
  refine js_V (As := []) (rest := [.int 58]) (own := "java/lang/String") (js_cod_m h) hx hb hml hl.1 hown hts hF.1 hF.2 (js_wi (k := 0) rfl) (js_wi (k := 1) rfl) (js_wi (k := 2) rfl) (js_wi (k := 3) rfl) (js_wi (k := 4) rfl) ⟨by decide, by decide, by decide +kernel⟩ (Nat.le_of_ble_eq_true rfl) ⟨by omega, by omega⟩ ⟨Nat.zero_le _, Nat.zero_le _⟩ (by obtain ⟨cell, z1, z2, z3, -⟩ := u1; exact ⟨cell, z1, z2, z3⟩) (Nat.le_of_ble_eq_true rfl) (show decode prog_21_method_54_code 6 = .ok (.invokevirtual 335, 3) by decide +kernel) ?_
  refine lv_ishr hx hb (show decode prog_21_method_54_code 9 = .ok (.ishr, 1) by decide +kernel) ?_
  exact kk 10 .ireturn ls (show decode prog_21_method_54_code 10 = .ok (.ireturn, 1) by decide +kernel) (Or.inr (Or.inl ⟨58, rfl, rfl, .int, rfl, rfl⟩))
theorem js_pre_m {x n : Int32} (hfm : fm = .null ∨ ∃ q, fm = .ref q) (h0 : ¬ x < 0) (h1 : x < n) : jsM l s0 0 js_pre prog_25_method_11_code 3 (some .int) [.int x, .int n, fm] (some (.int x)) := by
  have hlen : (lg_sl [.int x, .int n, fm]).length ≤ 3 := by rcases hfm with rfl | ⟨q, rfl⟩ <;> exact Nat.le_of_ble_eq_true rfl
  refine js_met (by decide +kernel) hlen ?_
  intro p e R s m args below meth c Q ls hx hb hml hown hts hF hR hl kk
  have hS : va_S (fun q : Nat => s0.heap.size ≤ q) s.heap s.heap [] := va_S.rf
  replace hl : lv_has ls 3 [(0, .int x), (1, .int n), (2, fm)] := hl
  refine lv_iload_n hx hb (show decode prog_25_method_11_code 0 = .ok (.iload_n 0, 1) by decide +kernel) rfl (lv_at hl 0 rfl) ?_
  refine lv_if_lt (tgt := 9) hx hb (show decode prog_25_method_11_code 1 = .ok (.ifCond .lt 8, 3) by decide +kernel) rfl (fun q => absurd q h0) (fun _ => ?_)
  refine lv_iload_n hx hb (show decode prog_25_method_11_code 4 = .ok (.iload_n 0, 1) by decide +kernel) rfl (lv_at hl 0 rfl) ?_
  refine lv_iload_n hx hb (show decode prog_25_method_11_code 5 = .ok (.iload_n 1, 1) by decide +kernel) rfl (lv_at hl 1 rfl) ?_
  refine lv_icmp_lt (tgt := 16) hx hb (show decode prog_25_method_11_code 6 = .ok (.if_icmp .lt 10, 3) by decide +kernel) rfl (fun _ => ?_) (fun q => absurd h1 q)
  refine lv_iload_n hx hb (show decode prog_25_method_11_code 16 = .ok (.iload_n 0, 1) by decide +kernel) rfl (lv_at hl 0 rfl) ?_
  exact kk 17 .ireturn ls (show decode prog_25_method_11_code 17 = .ok (.ireturn, 1) by decide +kernel) (Or.inr (Or.inl ⟨x, rfl, rfl, .int, rfl, rfl⟩))
theorem js_cki_m (h : jsU s0 s0 a a2 fm) {x n : Int32} (h0 : ¬ x < 0) (h1 : x < n) : jsM l s0 1 js_cki prog_21_method_155_code 2 none [.int x, .int n] none := by
  refine js_met (by decide +kernel) (Nat.le_of_ble_eq_true rfl) ?_
  intro p e R s m args below meth c Q ls hx hb hml hown hts hF hR hl kk
  obtain ⟨u1, u2, u3, u4, u5, u6, u7⟩ := jsU_at h hF
  have hS : va_S (fun q : Nat => s0.heap.size ≤ q) s.heap s.heap [] := va_S.rf
  refine lv_iload_n hx hb (show decode prog_21_method_155_code 0 = .ok (.iload_n 0, 1) by decide +kernel) rfl (lv_at hl 0 rfl) ?_
  refine lv_iload_n hx hb (show decode prog_21_method_155_code 1 = .ok (.iload_n 1, 1) by decide +kernel) rfl (lv_at hl 1 rfl) ?_
  refine va_gets hx hb u6 hS hown (hts _ (jt_inT (js_wi (k := 23) rfl) rfl)) (fun _ q => q) (show decode prog_21_method_155_code 2 = .ok (.getstatic 1053, 3) by decide +kernel) ?_
  refine js_S (As := [.int x, .int n, fm]) (rest := []) (own := "java/lang/String") (js_pre_m u7 h0 h1) hx hb hml hl.1 hown hts hF.1 hF.2 (js_wi (k := 16) rfl) (js_wi (k := 17) rfl) (js_wi (k := 18) rfl) (js_wi (k := 19) rfl) ⟨by decide, by decide, show (parseMethodDescriptor js_pre.desc).map (fun d => d.parameters.length) = some 3 by decide +kernel⟩ (Nat.le_of_ble_eq_true rfl) ⟨by omega, by omega⟩ ⟨Nat.zero_le _, Nat.zero_le _⟩ (Nat.le_of_ble_eq_true rfl) (show decode prog_21_method_155_code 5 = .ok (.invokestatic 1059, 3) by decide +kernel) ?_
  refine lv_pop hx hb (show decode prog_21_method_155_code 8 = .ok (.pop, 1) by decide +kernel) rfl ?_
  exact kk 9 .return_ ls (show decode prog_21_method_155_code 9 = .ok (.return_, 1) by decide +kernel) (Or.inl ⟨rfl, rfl, rfl⟩)
theorem js_lch_m (h : jsU s0 s0 a a2 fm) {x : Int32} (h0 : ¬ x < 0) (h1 : x < 58) (h2 : x.toNatClampNeg < 58) (h3 : js_byte (Int32.ofNat (jc_txt.getD x.toNatClampNeg 0))) : jsM l s0 2 js_lch prog_22_method_2_code 2 (some .char) [.ref a2, .int x] (some (.int (Int32.ofNat (jc_txt.getD x.toNatClampNeg 0)))) := by
  refine js_met (by decide +kernel) (Nat.le_of_ble_eq_true rfl) ?_
  intro p e R s m args below meth c Q ls hx hb hml hown hts hF hR hl kk
  obtain ⟨u1, u2, u3, u4, u5, u6, u7⟩ := jsU_at h hF
  have hS : va_S (fun q : Nat => s0.heap.size ≤ q) s.heap s.heap [] := va_S.rf
  refine lv_iload_n hx hb (show decode prog_22_method_2_code 0 = .ok (.iload_n 1, 1) by decide +kernel) rfl (lv_at hl 1 rfl) ?_
  refine lv_aload_n hx hb (show decode prog_22_method_2_code 1 = .ok (.aload_n 0, 1) by decide +kernel) rfl (lv_at hl 0 rfl) ?_
  refine va_tlen (v := 58) hx hb u4 hS rfl (show decode prog_22_method_2_code 2 = .ok (.arraylength, 1) by decide +kernel) ?_
  refine js_S (As := [.int x, .int 58]) (rest := []) (own := "java/lang/StringLatin1") (js_cki_m h h0 h1) hx hb hml hl.1 hown hts hF.1 hF.2 (js_wi (k := 13) rfl) (js_wi (k := 14) rfl) (js_wi (k := 3) rfl) (js_wi (k := 15) rfl) ⟨by decide, by decide, show (parseMethodDescriptor js_cki.desc).map (fun d => d.parameters.length) = some 2 by decide +kernel⟩ (Nat.le_of_ble_eq_true rfl) ⟨by omega, by omega⟩ ⟨Nat.zero_le _, Nat.zero_le _⟩ (Nat.le_of_ble_eq_true rfl) (show decode prog_22_method_2_code 3 = .ok (.invokestatic 9, 3) by decide +kernel) ?_
  refine lv_aload_n hx hb (show decode prog_22_method_2_code 6 = .ok (.aload_n 0, 1) by decide +kernel) rfl (lv_at hl 0 rfl) ?_
  refine lv_iload_n hx hb (show decode prog_22_method_2_code 7 = .ok (.iload_n 1, 1) by decide +kernel) rfl (lv_at hl 1 rfl) ?_
  refine va_tb hx hb u4 hS (i := x) (fun q => by rcases q with q | q; exact h0 q; omega) rfl (show decode prog_22_method_2_code 8 = .ok (.baload, 1) by decide +kernel) ?_
  refine lv_sipush (v := 255) hx hb (show decode prog_22_method_2_code 9 = .ok (.sipush 255, 3) by decide +kernel) rfl ?_
  refine lv_iand hx hb (show decode prog_22_method_2_code 12 = .ok (.iand, 1) by decide +kernel) ?_
  refine lv_i2c hx hb (show decode prog_22_method_2_code 13 = .ok (.i2c, 1) by decide +kernel) h3.1 ?_
  exact kk 14 .ireturn ls (show decode prog_22_method_2_code 14 = .ok (.ireturn, 1) by decide +kernel) (Or.inr (Or.inl ⟨_, rfl, rfl, .char, rfl, h3.2⟩))
theorem js_chr_m (h : jsU s0 s0 a a2 fm) {x : Int32} (h0 : ¬ x < 0) (h1 : x < 58) (h2 : x.toNatClampNeg < 58) (h3 : js_byte (Int32.ofNat (jc_txt.getD x.toNatClampNeg 0))) : jsM l s0 3 js_chr prog_21_method_56_code 2 (some .char) [.ref a, .int x] (some (.int (Int32.ofNat (jc_txt.getD x.toNatClampNeg 0)))) := by
  refine js_met (by decide +kernel) (Nat.le_of_ble_eq_true rfl) ?_
  intro p e R s m args below meth c Q ls hx hb hml hown hts hF hR hl kk
  obtain ⟨u1, u2, u3, u4, u5, u6, u7⟩ := jsU_at h hF
  have hS : va_S (fun q : Nat => s0.heap.size ≤ q) s.heap s.heap [] := va_S.rf
  refine lv_aload_n hx hb (show decode prog_21_method_56_code 0 = .ok (.aload_n 0, 1) by decide +kernel) rfl (lv_at hl 0 rfl) ?_
  refine js_V (As := []) (rest := []) (own := "java/lang/String") (js_lat_m h) hx hb hml hl.1 hown hts hF.1 hF.2 (js_wi (k := 5) rfl) (js_wi (k := 6) rfl) (js_wi (k := 7) rfl) (js_wi (k := 3) rfl) (js_wi (k := 8) rfl) ⟨by decide, by decide, by decide +kernel⟩ (Nat.le_of_ble_eq_true rfl) ⟨by omega, by omega⟩ ⟨Nat.zero_le _, Nat.zero_le _⟩ (by obtain ⟨cell, z1, z2, z3, -⟩ := u1; exact ⟨cell, z1, z2, z3⟩) (Nat.le_of_ble_eq_true rfl) (show decode prog_21_method_56_code 1 = .ok (.invokevirtual 492, 3) by decide +kernel) ?_
  refine lv_if_eq (tgt := 16) hx hb (show decode prog_21_method_56_code 4 = .ok (.ifCond .eq 12, 3) by decide +kernel) rfl (fun q => absurd q (by decide)) (fun _ => ?_)
  refine lv_aload_n hx hb (show decode prog_21_method_56_code 7 = .ok (.aload_n 0, 1) by decide +kernel) rfl (lv_at hl 0 rfl) ?_
  refine vk_getf hx hb u3 hS hown (hts _ (jt_inT (js_wi (k := 21) rfl) rfl)) (fun _ q => q) (show decode prog_21_method_56_code 8 = .ok (.getfield 9, 3) by decide +kernel) ?_
  refine lv_iload_n hx hb (show decode prog_21_method_56_code 11 = .ok (.iload_n 1, 1) by decide +kernel) rfl (lv_at hl 1 rfl) ?_
  refine js_S (As := [.ref a2, .int x]) (rest := []) (own := "java/lang/String") (js_lch_m h h0 h1 h2 h3) hx hb hml hl.1 hown hts hF.1 hF.2 (js_wi (k := 9) rfl) (js_wi (k := 10) rfl) (js_wi (k := 11) rfl) (js_wi (k := 12) rfl) ⟨by decide, by decide, show (parseMethodDescriptor js_lch.desc).map (fun d => d.parameters.length) = some 2 by decide +kernel⟩ (Nat.le_of_ble_eq_true rfl) ⟨by omega, by omega⟩ ⟨Nat.zero_le _, Nat.zero_le _⟩ (Nat.le_of_ble_eq_true rfl) (show decode prog_21_method_56_code 12 = .ok (.invokestatic 495, 3) by decide +kernel) ?_
  exact kk 15 .ireturn ls (show decode prog_21_method_56_code 15 = .ok (.ireturn, 1) by decide +kernel) (Or.inr (Or.inl ⟨_, rfl, rfl, .char, rfl, h3.2⟩))
end JSTR2
