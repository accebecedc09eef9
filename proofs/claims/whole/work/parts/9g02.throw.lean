/-! THROWS, 2: the words of the start, later. -/
/-- a state behind the start: warmer tables, the start's cells as they were -/
def jFrom (s0 U : State) : Prop := s0.WarmedH U.vm ∧ ∀ a, a < s0.heap.size → U.heap[a]? = s0.heap[a]?
theorem jf_tab {s0 U : State} {a a' : Array Value} (h : jFrom s0 U) {c : Cond} (ho : c.onTables = true) (hk : (c.keepsFace || c.castAtom) = true) (hb : c.before a s0 = true) : c.before a' U = true := by
  have h1 : c.before a (s0.setVm U.vm) = true := by
    rcases Bool.or_eq_true_iff.mp hk with hk | hk
    · exact Cond.before_shiftedFace (State.Shifted.of_warmed h.1) c hk hb
    · exact Cond.castAtom_setVm h.1.alike c hk hb
  rw [Cond.onTables_vm (A' := a') (U' := U) U.vm c ho] at h1
  exact h1
theorem jf_ls {s0 U : State} {a a' : Array Value} {C n d : String} (h : jFrom s0 U) (hb : (Cond.laysStatic C n d).before a s0 = true) : (Cond.laysStatic C n d).before a' U = true := by
  have h1 := Cond.before_shiftedFace (State.Shifted.of_warmed h.1) (.laysStatic C n d) rfl hb
  simp only [Cond.before, Cond.holds, Cond.value] at h1 ⊢
  have e1 : (s0.setVm U.vm).vm = U.vm := rfl
  have e2 : (s0.setVm U.vm).fieldFound? C n d = U.fieldFound? C n d := rfl
  have e3 : (s0.setVm U.vm).heap = s0.heap := rfl
  rw [e1, e2] at h1
  cases hc : U.vm.findClass C with
  | none => rw [hc] at h1; simp at h1
  | some cc =>
    cases hf : U.fieldFound? C n d with
    | none => rw [hc, hf] at h1; simp at h1
    | some q =>
      obtain ⟨c', k, i, f⟩ := q
      rw [hc, hf] at h1
      cases hk : k.statics with
      | none => simp [hk] at h1
      | some b =>
        cases hcell : s0.heap[b]? with
        | none => simp [hk, e3, hcell] at h1
        | some cell =>
          have hU : U.heap[b]? = some cell := (h.2 b (Array.getElem?_eq_some_iff.mp hcell).1).trans hcell
          simp only [hk, e3, hcell, hU, Option.bind_some] at h1 ⊢
          exact h1
theorem jf_st {s0 U : State} {a a' : Array Value} {C n d : String} {v : Value} (h : jFrom s0 U) (hv : (Term.static C n d).eval a (s0.setVm U.vm) none [] (s0.setVm U.vm) = some v) : (Term.static C n d).eval a' U none [] U = some v := by
  simp only [Term.eval] at hv ⊢
  have e2 : (s0.setVm U.vm).fieldNamed? C n d true = U.fieldNamed? C n d true := rfl
  have e3 : (s0.setVm U.vm).heap = s0.heap := rfl
  rw [e2] at hv
  cases hf : U.fieldNamed? C n d true with
  | none => rw [hf] at hv; simp at hv
  | some q =>
    obtain ⟨c', k, sl⟩ := q
    rw [hf] at hv
    cases hk : k.statics with
    | none => simp [hk] at hv
    | some b =>
      cases hcell : s0.heap[b]? with
      | none => simp [hk, e3, hcell] at hv
      | some cell =>
        have hU : U.heap[b]? = some cell := (h.2 b (Array.getElem?_eq_some_iff.mp hcell).1).trans hcell
        have hv2 : (k.statics.bind fun i => (s0.heap[i]?).bind fun c => if c.vm.isStatics = true then c.slots[sl]? else none) = some v := hv
        show (k.statics.bind fun i => (U.heap[i]?).bind fun c => if c.vm.isStatics = true then c.slots[sl]? else none) = some v
        rw [hk] at hv2 ⊢
        simp only [Option.bind_some, hcell, hU] at hv2 ⊢
        exact hv2
theorem jf_ir {s0 U : State} {a a' : Array Value} {C n d : String} (h : jFrom s0 U) (hb : (Cond.isRef (.static C n d)).before a s0 = true) : (Cond.isRef (.static C n d)).before a' U = true := by
  have h1 := Cond.before_shiftedFace (State.Shifted.of_warmed h.1) (.isRef (.static C n d)) rfl hb
  simp only [Cond.before, Cond.holds, Cond.value] at h1 ⊢
  cases hv : (Term.static C n d).eval a (s0.setVm U.vm) none [] (s0.setVm U.vm) with
  | none => rw [hv] at h1; simp at h1
  | some v => rw [jf_st (a' := a') h hv]; rw [hv] at h1; exact h1
theorem jf_str {s0 U : State} {own tx : String} {k : Nat} {q : Addr} (h : jFrom s0 U) (hb : vk_R own k tx q s0) : vk_R own k tx q U := vk_R.warm h.1 hb
theorem jf_nc {s0 U : State} {a a' : Array Value} {X Y : String} (h : jFrom s0 U) (hb : (Cond.not (.castable X Y)).before a s0 = true) : (Cond.not (.castable X Y)).before a' U = true := by
  have hv := Cond.holds_not_iff.mp hb
  refine Cond.holds_not_iff.mpr ?_
  simp only [Cond.value] at hv ⊢
  have hal := h.1.alike
  cases hx : s0.vm.findClass X with
  | none => rw [hx] at hv; simp at hv
  | some cx =>
    cases hy : s0.vm.findClass Y with
    | none => rw [hx, hy] at hv; simp at hv
    | some cy =>
      rw [hx, hy] at hv
      rw [hal.findClass, hal.findClass, hx, hy]
      simp only [hal.assignable]
      exact hv
/-- a word of the start that is one later -/
def jf_k (w : Cond) : Bool := match w with
  | .laysStatic .. => true
  | .isRef (.static ..) => true
  | w => w.onTables && (w.keepsFace || w.castAtom)
theorem jf_any {s0 U : State} {a a' : Array Value} (h : jFrom s0 U) {w : Cond} (hk : jf_k w = true) (hb : w.before a s0 = true) : w.before a' U = true := by
  unfold jf_k at hk
  split at hk
  · exact jf_ls h hb
  · exact jf_ir h hb
  · rw [Bool.and_eq_true] at hk
    exact jf_tab h hk.1 hk.2 hb
