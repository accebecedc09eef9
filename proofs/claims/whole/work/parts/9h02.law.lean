/-! THE LAW, 2: what its cases share. -/
abbrev lawE (a b : Int32) : Int64 := (a.toInt64 <<< ((32 : Int32).toInt64 &&& 63)) ||| (b.toInt64 &&& 4294967295)
def lawB (y : Int32) : Int32 := if y = 0 then 0 else 1
theorem lawB_01 (y : Int32) : lawB y = 0 ∨ lawB y = 1 := by
  unfold lawB
  by_cases h : y = 0
  · rw [if_pos h]; exact Or.inl rfl
  · rw [if_neg h]; exact Or.inr rfl
/-- what holds at the law's start -/
def lwZ (p : Program) (l : Launch) (s : State) (m : MethodId) (meth : Method) (c : Code) (b L : Nat) (xs : Nat → Int32) (D : va_G) (dA : Nat → ClassId) (ad : Nat → Nat) : Prop := lw_At p s m meth c b L xs ∧ va_K D jt_cl (jx_tys dA) s ∧ (∀ k, k < jt_N → s.heap.size ≤ ad k) ∧ jW1 s ∧ l.stackTraces = false
/-- the law goes on from there -/
def lwG (p : Program) (l : Launch) (e : Env) (s : State) (m : MethodId) (below : List Frame) (meth : Method) (c : Code) (b : Nat) (Q : State → Prop) (D : va_G) (dA : Nat → ClassId) (ad : Nat → Nat) (pc : Nat) (lv : List (Nat × Value)) (st : List Value) (σ : jx_S) (cells slots : Nat) : Prop :=
  ∀ (H : Heap) (locs : List Loc) (ls : Array Slot), lv_has ls 7 lv → va_P D jt_cl (jx_W ad dA jt_O jt_N σ) H → va_D (fun q : Nat => s.heap.size ≤ q) (jx_W ad dA jt_O jt_N σ) → va_S (fun q : Nat => s.heap.size ≤ q) s.heap H locs → W p l e room_1 s m #[Value.ref b] below meth c H locs cells slots Q (F0 m pc ls st)
theorem lwZ_of {p : Program} {l : Launch} {s : State} {m : MethodId} {meth : Method} {c : Code} {b L : Nat} {xs : Nat → Int32} {D : va_G} {dA : Nat → ClassId} {ad : Nat → Nat} (Z : lwZ p l s m meth c b L xs D dA ad) : (∀ w ∈ jt_Ts, w.before #[Value.ref b] s = true) ∧ (∀ q : Nat, s.heap.size ≤ q → (fun q : Nat => s.heap.size ≤ q) q) ∧ (¬ (fun q : Nat => s.heap.size ≤ q) b) ∧ jW0 s := by
  obtain ⟨⟨hx, hb, hr, hml, hown, htsl, hX, hbl, hlocks, hgv⟩, hK, had, h1, htr⟩ := Z
  exact ⟨fun w hw => htsl w (List.mem_filter.mp hw).1, fun _ h => h, Nat.not_le.mpr hbl, h1.1⟩
section LWB
variable {p : Program} {l : Launch} {e : Env} {R : Room} {s : State} {m : MethodId} {args : Array Value} {below : List Frame} {meth : Method} {c : Code} {H : Heap} {locs : List Loc} {cells slots : Nat} {Q : State → Prop}
theorem lw_bool {cc : ByteArray} {pc : Nat} {ls : Array Slot} {rest : List Value} {y : Int32} (hx : p.tables.exec = Jvm.exec) (hb : c.code = cc) (d0 : decode cc pc = .ok (.ifCond .eq 7, 3)) (d1 : decode cc (pc + 3) = .ok (.iconst 1, 1)) (d2 : decode cc (pc + 4) = .ok (.goto 4, 3)) (d3 : decode cc (pc + 7) = .ok (.iconst 0, 1)) (k : W p l e R s m args below meth c H locs cells slots Q (F0 m (pc + 8) ls (.int (lawB y) :: rest))) : W p l e R s m args below meth c H locs cells slots Q (F0 m pc ls (.int y :: rest)) := by
  refine lv_if_eq (tgt := pc + 7) hx hb d0 (by omega) (fun h => ?_) (fun h => ?_)
  · refine lv_iconst (v := 0) hx hb d3 (by decide) ?_
    rw [show lawB y = 0 from if_pos h] at k
    exact k
  · refine lv_iconst (v := 1) hx hb d1 (by decide) ?_
    refine lv_goto (tgt := pc + 8) hx hb d2 (by omega) ?_
    rw [show lawB y = 1 from if_neg h] at k
    exact k
end LWB
theorem lw_tail {p : Program} {l : Launch} {e : Env} {s : State} {m : MethodId} {below : List Frame} {meth : Method} {c : Code} {b L : Nat} {xs : Nat → Int32} {D : va_G} {dA : Nat → ClassId} {ad : Nat → Nat} {Q : State → Prop} {cells slots T : Nat} {off : Int} {i kk bb : Int32} {σ2 : jx_S} (Z : lwZ p l s m meth c b L xs D dA ad) (hcs : cells + 1 ≤ 601024 ∧ slots + 6 ≤ 7293034) (e1 : σ2.1 106 2 = kk) (e2 : kk = 0 → σ2.2 171 0 = bb.toInt64) (hoff : ((T + 28 : Nat) : Int) + off = 778)
    (d0 : decode code T = .ok (.aload_n 2, 1)) (d1 : decode code (T + 1) = .ok (.invokevirtual 56, 3)) (d2 : decode code (T + 4) = .ok (.iload 5, 2)) (d3 : decode code (T + 6) = .ok (.if_icmp .eq 5, 3)) (d4 : decode code (T + 11) = .ok (.iload 5, 2)) (d5 : decode code (T + 13) = .ok (.ifCond .ne 15, 3)) (d6 : decode code (T + 16) = .ok (.aload_n 3, 1)) (d7 : decode code (T + 17) = .ok (.iconst 0, 1)) (d8 : decode code (T + 18) = .ok (.laload, 1)) (d9 : decode code (T + 19) = .ok (.iload 6, 2)) (d10 : decode code (T + 21) = .ok (.i2l, 1)) (d11 : decode code (T + 22) = .ok (.lcmp, 1)) (d12 : decode code (T + 23) = .ok (.ifCond .eq 5, 3)) (d13 : decode code (T + 28) = .ok (.goto off, 3))
    (k : lwG p l e s m below meth c b Q D dA ad 778 [(0, .ref b), (1, .ref (ad 0)), (2, .ref (ad 106)), (3, .ref (ad 171)), (4, .int i)] [] σ2 (cells + 1) (slots + 6)) :
    lwG p l e s m below meth c b Q D dA ad T [(6, .int bb), (5, .int kk), (0, .ref b), (1, .ref (ad 0)), (2, .ref (ad 106)), (3, .ref (ad 171)), (4, .int i)] [] σ2 (cells + 1) (slots + 6) := by
  obtain ⟨⟨hx, hb, hr, hml, hown, htsl, hX, hbl, hlocks, hgv⟩, hK, had, h1, htr⟩ := id Z
  obtain ⟨hts, hA, hbA, hW0⟩ := lwZ_of Z
  intro H locs ls hl hP hD hS
  refine lv_aload_n hx hb d0 rfl (lv_at hl 4 rfl) ?_
  refine jl_call (A := fun q : Nat => s.heap.size ≤ q) (H0 := s.heap) (nL := 7) (ix := 56) (mj := 142) (ob := 106) (ci := 12) (bs := []) (rest := []) (xv_r_thrown 400 (by decide) σ2) (by decide) (by decide +kernel) (by show 1 ≤ (jt_M 142).2.2.2; decide +kernel) (by show 0 = (jt_M 142).2.1; decide +kernel) (by decide) rfl rfl (jt_inT (by decide +kernel) rfl) (jt_inT (by decide +kernel) rfl) (jt_inT (by decide +kernel) rfl) hx hb hml hl.1 hown hts hK hA (by decide) (by decide) ⟨hcs.1, hcs.2⟩ d1 (by decide) hP hD hS (fun H1 locs1 hP1 hD1 hS1 => ?_)
  show W p l e room_1 s m _ below meth c H1 locs1 _ _ Q (F0 m (T + 4) ls [.int (v_r_thrown σ2)])
  refine lv_iload hx hb d2 (lv_at hl 1 rfl) ?_
  refine lv_icmp_eq (tgt := T + 11) hx hb d3 (by omega) (fun _ => ?_) (fun q => absurd e1 q)
  refine lv_iload hx hb d4 (lv_at hl 1 rfl) ?_
  have hend : W p l e room_1 s m #[Value.ref b] below meth c H1 locs1 (cells + 1) (slots + 6) Q (F0 m (T + 28) ls []) := by
    refine lv_goto (tgt := 778) hx hb d13 hoff ?_
    exact k H1 locs1 ls (lv_sub hl [2, 3, 4, 5, 6] rfl) hP1 hD1 hS1
  refine lv_if_ne (tgt := T + 28) hx hb d5 (by omega) (fun _ => hend) (fun q => ?_)
  have hk0 : kk = 0 := q
  refine lv_aload_n hx hb d6 rfl (lv_at hl 5 rfl) ?_
  refine lv_iconst (v := 0) hx hb d7 (by decide) ?_
  refine va_lald hx hb hK hP1 171 1 (jx_Warr1 (k := 171) (n := 1) (by decide) rfl) rfl (show ¬ ((0 : Int32) < 0 ∨ 1 ≤ (0 : Int32).toNatClampNeg) by decide) d8 ?_
  refine lv_iload hx hb d9 (lv_at hl 0 rfl) ?_
  refine lv_i2l hx hb d10 rfl ?_
  refine W.lcmp hx hb d11 ?_
  refine lv_if_eq (tgt := T + 28) hx hb d12 (by omega) (fun _ => hend) (fun q2 => absurd ?_ q2)
  rw [show (0 : Int32).toNatClampNeg = 0 from rfl, e2 hk0]
  unfold lg_cmp
  simp
