/-! THE PURE MACHINE IS THE MACHINE: what it answers, the bytecode does. -/
def jx_ty : Nat → FieldType
  | 0 => .int
  | 1 => .long
  | _ => .boolean
def jx_sto : Instr → Bool
  | .istore _ | .istore_n _ | .lstore _ | .lstore_n _ | .astore _ | .astore_n _ | .iinc _ _ => true
  | _ => false
/-- what is said of a method: its words -/
def jx_mok (M : jx_M) (cl : List vw_C) (Ts : List Cond) (bytes : Nat → ByteArray) (own : Nat → String) (yy : Nat → MethodName) (mx : Nat → Nat) (rt : Nat → Option FieldType) (mj : Nat) : Prop :=
  Cond.code (yy mj) (bytes mj) (mx mj) (rt mj) ∈ Ts ∧ Cond.initialized (own mj) ∈ Ts ∧ (yy mj).cls = own mj ∧ plainName (yy mj).cls = true ∧ ((yy mj).cls ≠ "java/lang/invoke/MethodHandle" ∧ (yy mj).cls ≠ "java/lang/invoke/VarHandle") ∧ (parseMethodDescriptor (yy mj).desc).map (fun d => d.parameters.length) = some (M mj).2.1 ∧ mx mj ≤ 60 ∧ (M mj).2.2.2 ≤ mx mj
/-- what the tables must say -/
def jx_Ok (C : jx_C) (O : jx_O) (N : Nat) (M : jx_M) (cl : List vw_C) (Ts : List Cond) (bytes : Nat → ByteArray) (own : Nat → String) (yy : Nat → MethodName) (mx : Nat → Nat) (rt : Nat → Option FieldType) : Prop :=
  (∀ mi pc i a1 a2, C mi pc = some (i, a1, a2) → ∃ len, decode (bytes mi) pc = .ok (i, len) ∧ (jx_len i = 0 ∨ jx_len i = len)) ∧
  (∀ mi pc i a1 a2, C mi pc = some (i, a1, a2) → jx_sto i = true → a1 ≤ mx mi) ∧
  (∀ mi pc ix a1 a2, C mi pc = some (.ldc ix, a1, a2) ∨ C mi pc = some (.ldc_w ix, a1, a2) → Cond.constant (own mi) ix (Int32.ofNat a1) ∈ Ts) ∧
  (∀ mi pc ix a1 a2, C mi pc = some (.ldc2_w ix, a1, a2) → Cond.constantLong (own mi) ix (Int64.ofNat a1) ∈ Ts) ∧
  (∀ mi pc ix ci k, C mi pc = some (.getfield ix, ci, k) → ∃ (CN : String) (T : u_T) (NN : Nat), cl[ci]? = some (CN, T, NN) ∧ k < NN ∧ (∀ w ∈ u_ws CN T NN, w ∈ Ts) ∧ Cond.fieldLink (own mi) ix (T k).1 (T k).2.1 (T k).2.2.1 ∈ Ts) ∧
  (∀ mi pc ix ci k, C mi pc = some (.putfield ix, ci, k) → ∃ (CN : String) (T : u_T) (NN : Nat) (ty0 : Nat → FieldType), cl[ci]? = some (CN, T, NN) ∧ k < NN ∧ (∀ w ∈ u_ws CN T NN, w ∈ Ts) ∧ Cond.fieldLink (own mi) ix (T k).1 (T k).2.1 (T k).2.2.1 ∈ Ts ∧ (∀ k, k < NN → parseFieldDescriptor (T k).2.2.1 = some (ty0 k)) ∧ (∀ a, a < NN → ∀ b, b < NN → a ≠ b → (T a).2.1 ≠ (T b).2.1) ∧ (T k).2.2.2 = false ∧ (∀ b kds kd, b < N → O b = .inl (ci, kds) → kds[k]? = some kd → kd < 3 → parseFieldDescriptor (T k).2.2.1 = some (jx_ty kd))) ∧
  (∀ mi pc ix mj a2, C mi pc = some (.invokevirtual ix, mj, a2) → (M mj).1 = false → Cond.methodLink (own mi) ix (yy mj) ∈ Ts ∧ Cond.instanceMethod (yy mj) ∈ Ts ∧ Cond.selects (own mj) (yy mj) (yy mj) ∈ Ts ∧ jx_mok M cl Ts bytes own yy mx rt mj ∧ ∃ (T : u_T) (NN : Nat), cl[(M mj).2.2.1]? = some (own mj, T, NN)) ∧
  (∀ mi pc ix mj a2, C mi pc = some (.invokestatic ix, mj, a2) → mj < 10000 → (M mj).1 = true → Cond.methodLink (own mi) ix (yy mj) ∈ Ts ∧ Cond.static (yy mj) ∈ Ts ∧ jx_mok M cl Ts bytes own yy mx rt mj) ∧
  (∀ mi pc a1 a2, C mi pc = some (.ireturn, a1, a2) → rt mi = some (if a1 = 0 then .int else .boolean)) ∧
  (∀ mi pc a1 a2, C mi pc = some (.lreturn, a1, a2) → rt mi = some .long) ∧
  (∀ mi pc a1 a2, C mi pc = some (.return_, a1, a2) → rt mi = none) ∧
  GoodIn Ts Ts ∧
  (∀ mi pc ix a2, C mi pc = some (.invokestatic ix, 10000, a2) → Cond.methodLink (own mi) ix Lib.Math.max.name ∈ Ts ∧ Cond.static Lib.Math.max.name ∈ Ts ∧ Cond.initialized "java/lang/Math" ∈ Ts ∧ Cond.code Lib.Math.max.name Lib.Math.max.code 2 (some .int) ∈ Ts) ∧
  (∀ mi pc ix a2, C mi pc = some (.invokestatic ix, 10001, a2) → Cond.methodLink (own mi) ix Lib.MathLoose.min_long.x ∈ Ts ∧ Cond.static Lib.MathLoose.min_long.x ∈ Ts ∧ Cond.initialized "java/lang/Math" ∈ Ts ∧ Cond.code Lib.MathLoose.min_long.x Lib.MathLoose.min_long.code 4 (some .long) ∈ Ts) ∧
  (∀ mi pc n a1 a2, C mi pc = some (.iconst n, a1, a2) → Int32.ofInt n = jx_k a1 a2) ∧
  (∀ mi pc n a1 a2, C mi pc = some (.bipush n, a1, a2) → (Int8.ofInt n).toInt32 = jx_k a1 a2) ∧
  (∀ mi pc n a1 a2, C mi pc = some (.sipush n, a1, a2) → (Int16.ofInt n).toInt32 = jx_k a1 a2) ∧
  (∀ mi pc n k a1 a2, C mi pc = some (.iinc n k, a1, a2) → Int32.ofInt k = jx_k (a2 / 2) (a2 % 2))
abbrev jx_tys (dA : Nat → ClassId) : List (ClassId × FieldType) := [(dA 0, .int), (dA 1, .long), (dA 2, .boolean)]
def jx_room (d : Nat) : Room := { frames := d, cells := 0, slots := 0, locals := 100 * d }
/-- a method's contract, by the pure machine's answer -/
def jx_Met (l : Launch) (D : va_G) (dA : Nat → ClassId) (ad : Nat → Nat) (O : jx_O) (N : Nat) (cl : List vw_C) (Ts : List Cond) (bytes : Nat → ByteArray) (yy : Nat → MethodName) (mx : Nat → Nat) (rt : Nat → Option FieldType) (d mj : Nat) (as : List Value) (σ : jx_S) (v : Option Value) (σ' : jx_S) : Prop :=
  ∀ sz : Nat, Met l (yy mj) (Cond.code (yy mj) (bytes mj) (mx mj) (rt mj) :: Ts) (jx_room d)
    (va_Pc (jx_vs ad as) (fun U => U.heap.size = sz ∧ va_P D cl (jx_W ad dA O N σ) U.heap ∧ va_K D cl (jx_tys dA) U ∧ va_D (fun _ => True) (jx_W ad dA O N σ)))
    (fun _ st oc t => (oc = .returned (v.map (jx_cv ad)) ∧ va_P D cl (jx_W ad dA O N σ') t.heap) ∧ va_F (va_A (jx_W ad dA O N σ) sz) st t) 0 0 (va_A (jx_W ad dA O N σ) sz)
/-- how a method may end -/
def jx_ret (rt : Option FieldType) (i : Instr) (v : Option Value) : Prop :=
  (i = .return_ ∧ v = none ∧ rt = none) ∨ (∃ x, i = .ireturn ∧ v = some (.int x) ∧ ∃ ty, rt = some ty ∧ narrow ty (.int x) = .int x) ∨ (∃ x, i = .lreturn ∧ v = some (.long x) ∧ rt = some .long)
section JXS
variable {p : Program} {l : Launch} {e : Env} {R : Room} {s : State} {m : MethodId} {args : Array Value} {below : List Frame} {meth : Method} {c : Code} {H : Heap} {locs : List Loc} {cells slots : Nat} {Q : State → Prop}
variable {C : jx_C} {O : jx_O} {N : Nat} {M : jx_M} {cl : List vw_C} {Ts : List Cond} {bytes : Nat → ByteArray} {own : Nat → String} {yy : Nat → MethodName} {mx : Nat → Nat} {rt : Nat → Option FieldType}
variable {D : va_G} {dA : Nat → ClassId} {ad : Nat → Nat} {A : Nat → Prop} {H0 : Heap}
theorem jx_narrow_b {x : Int32} (h : x = 0 ∨ x = 1) : narrow .boolean (.int x) = .int x ∧ fits .boolean (.int x) = true ∧ vp_nar .boolean x = x := by
  rcases h with rfl | rfl <;> exact ⟨by decide +kernel, by decide +kernel, by decide +kernel⟩
theorem jx_Wobj {σ : jx_S} {k ci : Nat} {kds : List Nat} (hk : k < N) (ho : O k = .inl (ci, kds)) : (jx_W ad dA O N σ)[k]? = some (ad k, .inr (ci, jx_fs ad σ k kds)) := by
  rw [jx_W_get hk, ho]; rfl
theorem jx_Warr {σ : jx_S} {k t n : Nat} (hk : k < N) (ho : O k = .inr (t, n)) (ht : t ≠ 1) : (jx_W ad dA O N σ)[k]? = some (ad k, .inl (dA t, n, .inl (σ.1 k))) := by
  rw [jx_W_get hk, ho]; simp [jx_E, ht]
theorem jx_Warr1 {σ : jx_S} {k n : Nat} (hk : k < N) (ho : O k = .inr (1, n)) : (jx_W ad dA O N σ)[k]? = some (ad k, .inl (dA 1, n, .inr (.inl (σ.2 k)))) := by
  rw [jx_W_get hk, ho]; simp [jx_E]
theorem jx_Wset_f {σ : jx_S} {k ci j kd : Nat} {kds : List Nat} {x : Int32} (ho : O k = .inl (ci, kds)) (hj : kds[j]? = some kd) (hkd : kd = 0 ∨ kd = 2) : (jx_W ad dA O N σ).set k (ad k, .inr (ci, (jx_fs ad σ k kds).set j (.int x))) = jx_W ad dA O N (jx_i σ k j x) := by
  refine jx_W_set ?_ (fun a h => jx_E_i (O a) h)
  rw [ho]
  show _ = Sum.inr (ci, jx_fs ad (jx_i σ k j x) k kds)
  rw [jx_fs_set (σ' := jx_i σ k j x) hj (by rcases hkd with rfl | rfl <;> simp [jx_rd, jx_i, jx_cv]) (fun a y h => jx_rd_i (fun q => h q.2))]
theorem jx_Wset_g {σ : jx_S} {k ci j : Nat} {kds : List Nat} {x : Int64} (ho : O k = .inl (ci, kds)) (hj : kds[j]? = some 1) : (jx_W ad dA O N σ).set k (ad k, .inr (ci, (jx_fs ad σ k kds).set j (.long x))) = jx_W ad dA O N (jx_l σ k j x) := by
  refine jx_W_set ?_ (fun a h => jx_E_l (O a) h)
  rw [ho]
  show _ = Sum.inr (ci, jx_fs ad (jx_l σ k j x) k kds)
  rw [jx_fs_set (σ' := jx_l σ k j x) hj (by simp [jx_rd, jx_l, jx_cv]) (fun a y h => jx_rd_l (fun q => h q.2))]
theorem jx_Wset_a {σ : jx_S} {k j t n : Nat} {x : Int32} (ho : O k = .inr (t, n)) (ht : t ≠ 1) : (jx_W ad dA O N σ).set k (ad k, .inl (dA t, n, .inl (upd (σ.1 k) j x))) = jx_W ad dA O N (jx_i σ k j x) := by
  refine jx_W_set ?_ (fun a h => jx_E_i (O a) h)
  rw [ho, ← jx_i_upd]
  simp [jx_E, ht]
theorem jx_Wset_b {σ : jx_S} {k j n : Nat} {x : Int64} (ho : O k = .inr (1, n)) : (jx_W ad dA O N σ).set k (ad k, .inl (dA 1, n, .inr (.inl (vp_updL (σ.2 k) j x)))) = jx_W ad dA O N (jx_l σ k j x) := by
  refine jx_W_set ?_ (fun a h => jx_E_l (O a) h)
  rw [ho, ← jx_l_upd]
  simp [jx_E]
/-- behind a call: the world, as the callee left it -/
theorem jx_call {pc : Nat} {ls : Array Slot} {st0 rest : List Value} {a : Array Value} {σ σ' : jx_S} {v : Option Value}
    (hr : va_Run p l e R s m args below meth c H locs cells slots 0 0 (F0 m pc ls st0) rest ((fun _ st oc t => (oc = Outcome.returned (v.map (jx_cv ad)) ∧ va_P D cl (jx_W ad dA O N σ') t.heap) ∧ va_F (va_A (jx_W ad dA O N σ) H.size) st t : Array Value → State → Outcome → State → Prop) a) (va_A (jx_W ad dA O N σ) H.size))
    (hD : va_D A (jx_W ad dA O N σ)) (hS : va_S A H0 H locs) (hA : ∀ q, H0.size ≤ q → A q)
    (kk : ∀ (H1 : Heap) (locs1 : List Loc), va_P D cl (jx_W ad dA O N σ') H1 → va_D A (jx_W ad dA O N σ') → va_S A H0 H1 locs1 → W p l e R s m args below meth c H1 locs1 cells slots Q (F0 m (pc + 3) ls ((v.map (jx_cv ad)).toList ++ rest))) : W p l e R s m args below meth c H locs cells slots Q (F0 m pc ls st0) := by
  have hf : ∀ q, va_A (jx_W ad dA O N σ) H.size q → A q := by
    intro q h
    rcases h with ⟨k, e, hk⟩ | h
    · exact hD.2 k _ hk
    · exact hA q (Nat.le_trans hS.1 h)
  intro T hT X
  obtain ⟨w, st₀, t, T', L, h0, X', hL, e1, e2, ⟨⟨hv, hp⟩, hz, hk⟩, st⟩ := hr T hT X
  cases hv
  rw [h0] at hz hk
  obtain ⟨t2, a1, b1⟩ := kk T'.heap (locs ++ L) (by rw [e1]; exact hp) (jx_D_any σ' hD)
    ⟨Nat.le_trans hS.1 (by rw [e1]; exact hz), fun q h1 h2 => by rw [e1, hk q (Nat.lt_of_lt_of_le h1 hS.1) (fun z => h2 (hf q z))]; exact hS.2.1 q h1 h2, fun q hq => by
      rcases List.mem_append.mp hq with h | h
      · exact hS.2.2 q h
      · exact hf _ (hL q h)⟩ T' rfl X'
  exact ⟨t2, st t2 a1, b1⟩
end JXS
