/-! THROWS, 1: new, dup, ldc, <init>, athrow, out of a method. -/
section JTH
variable {p : Program} {l : Launch} {e : Env} {R : Room} {s : State} {m : MethodId} {args : Array Value} {below : List Frame} {meth : Method} {c : Code} {H : Heap} {locs : List Loc} {T : State}
/-- the state at the entry, with the heap as it is now -/
def jx_re (s T : State) : State := { s with heap := T.heap, slotsUsed := T.slotsUsed }
theorem jx_re_sz (X : Stand p l e R s m args below meth c T locs 0 0) : T.heap.size = s.heap.size ∧ T.slotsUsed = s.slotsUsed := by
  obtain ⟨-, a2, a3, a4, a5, -⟩ := X.same
  have h2 : s.heap.size ≤ T.heap.size := a2
  have h3 : T.heap.size ≤ s.heap.size + 0 := a3
  have h4 : T.slotsUsed = s.slotsUsed + ((T.heap.toList.drop s.heap.size).map (·.slots.size)).sum := a4
  have h5 : ((T.heap.toList.drop s.heap.size).map (·.slots.size)).sum ≤ 0 := a5
  omega
theorem jx_rebase (X : Stand p l e R s m args below meth c T locs 0 0) : Stand p l e R (jx_re s T) m args below meth c T [] 0 0 := by
  obtain ⟨z1, z2⟩ := jx_re_sz X
  have hbook : T.slotsTrue = true := X.book
  refine ⟨X.admits, X.cas, X.clock, X.frames, ?_, X.hears, X.method, X.code, X.here, X.tail, X.warmed, X.limits, X.bytes, ?_⟩
  · have h := X.room
    simp only [State.hasRoom, Bool.and_eq_true] at h ⊢
    obtain ⟨⟨⟨⟨h1, h2⟩, h3⟩, h4⟩, -⟩ := h
    refine ⟨⟨⟨⟨h1, h2⟩, ?_⟩, ?_⟩, ?_⟩
    · show decide (T.heap.size + R.cells ≤ e.platform.maxCells) = true
      rw [z1]; exact h3
    · show decide (T.slotsUsed + R.slots ≤ e.platform.maxSlots) = true
      rw [z2]; exact h4
    · exact hbook
  · have a1 := X.same.1
    have hdr : T.heap.toList.drop T.heap.size = [] := List.drop_eq_nil_of_le (by rw [Array.length_toList]; exact Nat.le_refl _)
    refine ⟨a1, Nat.le_refl _, Nat.le_refl _, ?_, ?_, fun a c0 h => ⟨c0, h, rfl, rfl, fun _ _ => rfl⟩⟩
    · show T.slotsUsed = T.slotsUsed + ((T.heap.toList.drop T.heap.size).map (·.slots.size)).sum
      rw [hdr]; rfl
    · show ((T.heap.toList.drop T.heap.size).map (·.slots.size)).sum ≤ 0
      rw [hdr]; exact Nat.le_refl _
/-- what a method that threw has left -/
def jx_QT (below : List Frame) (cls : String) (s : State) (H : Heap) (locs : List Loc) : State → Prop := fun t => ∃ x, t.status = .running ∧ Ended t below (.threw x) ∧ s.WarmedH t.vm ∧ s.sameButNew ({ t with vm := s.vm } : State) locs 1 6 ∧ (∀ a, a < H.size → t.heap[a]? = H[a]?) ∧ H.size ≤ t.heap.size ∧ ∃ ce, t.heap[x]? = some ce ∧ s.vm.findClass cls = some ce.cls ∧ s.vm.assignable ce.cls ce.cls = true ∧ ce.vm = .none
theorem jx_thr {cc : ByteArray} {own cls text : String} {names : List String} {i0 i1 i2 pc : Nat} {ls : Array Slot} (hx : p.tables.exec = Jvm.exec) (hb : c.code = cc) (htr : e.platform.stackTraces = false) (hls : ls.size = c.maxLocals) (hcls : Bundle.fit cls = true) (hnames : ∀ n ∈ names, Bundle.fit n = true)
    (hs : ∀ s' : State, s'.vm = s.vm → s'.heap = H → s'.vm.findClass own = some m.cls ∧ (Cond.classLink own i0 cls).before args s' = true ∧ (Cond.instantiable cls 6).before args s' = true ∧ (Cond.initialized cls).before args s' = true ∧ (∃ q, vk_R own i1 text q s') ∧ ∀ w ∈ Bundle.ownAtoms own i2 cls names, w.before args s' = true)
    (hd0 : decode cc pc = .ok (.new i0, 3)) (hd1 : decode cc (pc + 3) = .ok (.dup, 1)) (hd2 : decode cc (pc + 4) = .ok (.ldc i1, 2)) (hd3 : decode cc (pc + 6) = .ok (.invokespecial i2, 3)) (hd4 : decode cc (pc + 9) = .ok (.athrow, 1)) (hout : ∀ x ∈ c.exceptionTable.toList, covers x (pc + 9) = false) (hlocks : meth.locks = false) (hRc : 1 ≤ R.cells) (hRs : 6 ≤ R.slots) (hRf : names.length + 3 < R.frames) (hRl : 13 * (names.length + 1) + 43 ≤ R.locals) :
    W p l e R s m args below meth c H locs 0 0 (jx_QT below cls s H locs) (F0 m pc ls []) := by
  intro T hT X
  obtain ⟨z1, z2⟩ := jx_re_sz X
  have X1 := jx_rebase X
  obtain ⟨hown, hcl, hinst, hini, ⟨q, hq⟩, hat⟩ := hs (jx_re s T) rfl hT
  obtain ⟨cX, kX, hcX, hkX, -⟩ := Cond.instantiable_spec hinst
  have K : W p l e R (jx_re s T) m args below meth c T.heap [] 0 0 (fun t => ∃ x, t.status = .running ∧ Ended t below (.threw x) ∧ (jx_re s T).WarmedH t.vm ∧ (jx_re s T).sameButNew ({ t with vm := s.vm } : State) [] 1 6 ∧ ∃ ce, t.heap[x]? = some ce ∧ Bundle.OwnCell args (jx_re s T) cls x (.ref q) ce) (F0 m pc ls []) := by
    refine W.newcK hx hb hown hcl hinst hini rfl hd0 (by omega) (by omega) hcX rfl fun H1 kC hkC e1 z3 o1 => ?_
    refine lv_dup hx hb hd1 rfl ?_
    refine va_ldcS hx hb hown hq hd2 ?_
    intro T2 hT2 X2
    obtain ⟨U, st, u1, u2, u3, u4, ce, u5, u6⟩ := X2.ctorThrowS hx htr (names := names) hown hcls hnames hat (fun _ h => absurd h List.not_mem_nil) hcX hkC (a := T.heap.size) (by rw [hT2]; exact e1) (Nat.le_refl _) (msg := .ref q) rfl (g := F0 m (pc + 6) ls [.ref q, .ref T.heap.size, .ref T.heap.size]) rfl hls rfl rfl (rest := []) rfl (by rw [hb]; exact hd3) (by rw [hb]; exact hd4) hout hRf (by show 2 * 0 + 1 + (13 * (names.length + 1) + 42) ≤ R.locals; omega) hlocks
    exact ⟨U, st, T.heap.size, u1, u2, u3, u4, ce, u5, u6⟩
  obtain ⟨t, st, x, u1, u2, u3, u4, ce, u5, u6⟩ := K T rfl X1
  obtain ⟨a1, a2, a3, a4, a5, a6⟩ := X.same
  have hold : ∀ a, a < T.heap.size → t.heap[a]? = T.heap[a]? := fun a ha => by
    have h1 : T.heap[a]? = some T.heap[a] := Array.getElem?_eq_getElem ha
    rw [h1]
    exact State.sameButNew.old_cell u4 (a := a) (c := T.heap[a]) h1
  obtain ⟨b1, b2, b3, b4, b5, b6⟩ := id u4
  refine ⟨t, st, x, u1, u2, u3, ⟨b1, ?_, ?_, ?_, ?_, fun a c0 h => ?_⟩, fun a ha => by rw [← hT] at ha ⊢; exact hold a ha, by rw [← hT]; exact b2, ce, u5, u6.cls, u6.self, u6.vm⟩
  · rw [← z1]; exact b2
  · rw [← z1]; exact b3
  · rw [← z1, ← z2]; exact b4
  · rw [← z1]; exact b5
  · obtain ⟨c1, h1, h2, h3, h4⟩ := a6 a c0 h
    refine ⟨c1, ?_, h2, h3, h4⟩
    exact State.sameButNew.old_cell u4 (a := a) (c := c1) h1
end JTH
