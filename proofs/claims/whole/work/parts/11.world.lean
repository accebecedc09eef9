/-! The pure machine's objects as cells of the heap. -/
def jx_cv (ad : Nat → Nat) : Value → Value
  | .ref k => .ref (ad k)
  | v => v
theorem jx_cv_cat (ad : Nat → Nat) (v : Value) : (jx_cv ad v).category = v.category := by cases v <;> rfl
abbrev jx_vs (ad : Nat → Nat) (st : List Value) : List Value := st.map (jx_cv ad)
abbrev jx_cl (ad : Nat → Nat) (l : jx_L) : jx_L := l.map (fun q => (q.1, jx_cv ad q.2))
theorem jx_lookup {l : jx_L} {i : Nat} {v : Value} (h : l.lookup i = some v) : (i, v) ∈ l := by
  induction l with
  | nil => cases h
  | cons q l ih =>
    obtain ⟨a, b⟩ := q
    rw [List.lookup_cons] at h
    by_cases e : i = a
    · subst e
      simp at h
      subst h
      exact List.mem_cons_self
    · rw [show (i == a) = false from by simp [e]] at h
      exact List.mem_cons_of_mem _ (ih h)
theorem jx_loc {ad : Nat → Nat} {ls : Array Slot} {n : Nat} {l : jx_L} {i : Nat} {v : Value} (hl : lv_has ls n (jx_cl ad l)) (h : l.lookup i = some v) : ls[i]? = some (.val (jx_cv ad v)) :=
  hl.2.2 (i, jx_cv ad v) (List.mem_map.mpr ⟨(i, v), jx_lookup h, rfl⟩)
theorem jx_filter (ad : Nat → Nat) (l : jx_L) (p : Nat × Value → Bool) (hp : ∀ q : Nat × Value, p (q.1, jx_cv ad q.2) = p q) : (jx_cl ad l).filter p = jx_cl ad (l.filter p) := by
  induction l with
  | nil => rfl
  | cons q l ih =>
    simp only [jx_cl, List.map_cons, List.filter_cons, hp q] at ih ⊢
    by_cases e : p q = true
    · rw [if_pos e, if_pos e, List.map_cons, ih]
    · rw [if_neg e, if_neg e, ih]
theorem jx_st1_cl (ad : Nat → Nat) (l : jx_L) (i : Nat) (v : Value) : (i, jx_cv ad v) :: (jx_cl ad l).filter (fun q => !(q.1 == i) && !(q.1 + 1 == i && q.2.category == 2)) = jx_cl ad (jx_st1 l i v) := by
  rw [jx_filter ad l _ (fun q => by simp only [jx_cv_cat])]
  rfl
theorem jx_st2_cl (ad : Nat → Nat) (l : jx_L) (i : Nat) (v : Value) : (i, jx_cv ad v) :: (jx_cl ad l).filter (fun q => !(q.1 == i) && (!(q.1 == i + 1) && !(q.1 + 1 == i && q.2.category == 2))) = jx_cl ad (jx_st2 l i v) := by
  rw [jx_filter ad l _ (fun q => by simp only [jx_cv_cat])]
  rfl
theorem jx_args_cl (ad : Nat → Nat) (as : List Value) : ∀ i, lv_args i (jx_vs ad as) = jx_cl ad (lv_args i as) := by
  induction as with
  | nil => intro i; rfl
  | cons v as ih => intro i; simp only [jx_vs, jx_cl, List.map_cons, lv_args, jx_cv_cat] at ih ⊢; rw [ih]
/-- an object's fields, a cell -/
def jx_fs (ad : Nat → Nat) (σ : jx_S) (k : Nat) (kds : List Nat) : List Value := (List.range kds.length).map (fun j => jx_cv ad (jx_rd σ k j (kds.getD j 0)))
def jx_E (ad : Nat → Nat) (dA : Nat → ClassId) (σ : jx_S) (k : Nat) (o : (Nat × List Nat) ⊕ (Nat × Nat)) : va_E := match o with
  | .inl (ci, kds) => .inr (ci, jx_fs ad σ k kds)
  | .inr (t, n) => .inl (dA t, n, if t = 1 then .inr (.inl (σ.2 k)) else .inl (σ.1 k))
def jx_W (ad : Nat → Nat) (dA : Nat → ClassId) (O : jx_O) (N : Nat) (σ : jx_S) : va_W := (List.range N).map (fun k => (ad k, jx_E ad dA σ k (O k)))
theorem jx_W_get {ad : Nat → Nat} {dA : Nat → ClassId} {O : jx_O} {N : Nat} {σ : jx_S} {k : Nat} (h : k < N) : (jx_W ad dA O N σ)[k]? = some (ad k, jx_E ad dA σ k (O k)) := by
  simp [jx_W, h]
theorem jx_W_inv {ad : Nat → Nat} {dA : Nat → ClassId} {O : jx_O} {N : Nat} {σ : jx_S} {k : Nat} {q : Nat × va_E} (h : (jx_W ad dA O N σ)[k]? = some q) : k < N ∧ q = (ad k, jx_E ad dA σ k (O k)) := by
  have hk : k < N := by
    have := (List.getElem?_eq_some_iff.mp h).1
    simpa [jx_W] using this
  exact ⟨hk, Option.some.inj (h.symm.trans (jx_W_get hk))⟩
theorem jx_W_set {ad : Nat → Nat} {dA : Nat → ClassId} {O : jx_O} {N : Nat} {σ σ' : jx_S} {k : Nat} {e : va_E} (he : e = jx_E ad dA σ' k (O k)) (ho : ∀ j, j ≠ k → jx_E ad dA σ j (O j) = jx_E ad dA σ' j (O j)) : (jx_W ad dA O N σ).set k (ad k, e) = jx_W ad dA O N σ' := by
  subst he
  apply List.ext_getElem?
  intro j
  rw [List.getElem?_set]
  by_cases hj : j < N
  · rw [jx_W_get hj]
    by_cases e : k = j
    · subst e
      simp [jx_W, hj]
    · rw [if_neg e, jx_W_get hj, ho j (fun q => e q.symm)]
  · have h1 : (jx_W ad dA O N σ)[j]? = none := by simp [jx_W]; omega
    have h2 : (jx_W ad dA O N σ')[j]? = none := by simp [jx_W]; omega
    rw [h1, h2]
    have hl : (jx_W ad dA O N σ).length = N := by simp [jx_W]
    by_cases e : k = j
    · rw [if_pos e, hl, if_neg (by omega)]
    · rw [if_neg e]
theorem jx_rd_i {σ : jx_S} {k j x k' j' : Nat} {v : Int32} (h : ¬ (k' = k ∧ j' = j)) : jx_rd (jx_i σ k j v) k' j' x = jx_rd σ k' j' x := by
  match x with
  | 0 => simp [jx_rd, jx_i, h]
  | 1 => rfl
  | 2 => simp [jx_rd, jx_i, h]
  | t + 3 => rfl
theorem jx_rd_l {σ : jx_S} {k j x k' j' : Nat} {v : Int64} (h : ¬ (k' = k ∧ j' = j)) : jx_rd (jx_l σ k j v) k' j' x = jx_rd σ k' j' x := by
  match x with
  | 0 => rfl
  | 1 => simp [jx_rd, jx_l, h]
  | 2 => rfl
  | t + 3 => rfl
theorem jx_E_i {ad : Nat → Nat} {dA : Nat → ClassId} {σ : jx_S} {k j : Nat} {v : Int32} (o : (Nat × List Nat) ⊕ (Nat × Nat)) {k' : Nat} (h : k' ≠ k) : jx_E ad dA σ k' o = jx_E ad dA (jx_i σ k j v) k' o := by
  match o with
  | .inl (ci, kds) =>
    simp only [jx_E, jx_fs]
    congr 2
    apply List.map_congr_left
    intro a _
    rw [jx_rd_i (fun q => h q.1)]
  | .inr (t, n) =>
    simp only [jx_E]
    have : (jx_i σ k j v).1 k' = σ.1 k' := by funext b; simp [jx_i, h]
    rw [this]
    rfl
theorem jx_E_l {ad : Nat → Nat} {dA : Nat → ClassId} {σ : jx_S} {k j : Nat} {v : Int64} (o : (Nat × List Nat) ⊕ (Nat × Nat)) {k' : Nat} (h : k' ≠ k) : jx_E ad dA σ k' o = jx_E ad dA (jx_l σ k j v) k' o := by
  match o with
  | .inl (ci, kds) =>
    simp only [jx_E, jx_fs]
    congr 2
    apply List.map_congr_left
    intro a _
    rw [jx_rd_l (fun q => h q.1)]
  | .inr (t, n) =>
    simp only [jx_E]
    have : (jx_l σ k j v).2 k' = σ.2 k' := by funext b; simp [jx_l, h]
    rw [this]
    rfl
theorem jx_fs_get {ad : Nat → Nat} {σ : jx_S} {k : Nat} {kds : List Nat} {j kd : Nat} (h : kds[j]? = some kd) : (jx_fs ad σ k kds)[j]? = some (jx_cv ad (jx_rd σ k j kd)) := by
  have hj : j < kds.length := (List.getElem?_eq_some_iff.mp h).1
  have hg : kds.getD j 0 = kd := by rw [List.getD_eq_getElem?_getD, h]; rfl
  simp only [jx_fs, List.getElem?_map, List.getElem?_range hj, Option.map_some, hg]
theorem jx_fs_len {ad : Nat → Nat} {σ : jx_S} {k : Nat} {kds : List Nat} : (jx_fs ad σ k kds).length = kds.length := by simp [jx_fs]
theorem jx_fs_set {ad : Nat → Nat} {σ σ' : jx_S} {k : Nat} {kds : List Nat} {j kd : Nat} {v : Value} (h : kds[j]? = some kd) (hv : jx_cv ad (jx_rd σ' k j kd) = v) (ho : ∀ a x, a ≠ j → jx_rd σ' k a x = jx_rd σ k a x) : (jx_fs ad σ k kds).set j v = jx_fs ad σ' k kds := by
  apply List.ext_getElem?
  intro a
  rw [List.getElem?_set, jx_fs_len]
  by_cases e : j = a
  · subst e
    rw [if_pos rfl, if_pos (List.getElem?_eq_some_iff.mp h).1, jx_fs_get h, hv]
  · rw [if_neg e]
    by_cases ha : a < kds.length
    · have h1 : kds[a]? = some kds[a] := List.getElem?_eq_getElem ha
      rw [jx_fs_get h1, jx_fs_get h1, ho a _ (fun q => e q.symm)]
    · rw [List.getElem?_eq_none (by rw [jx_fs_len]; omega), List.getElem?_eq_none (by rw [jx_fs_len]; omega)]
theorem jx_i_upd (σ : jx_S) (k j : Nat) (x : Int32) : (jx_i σ k j x).1 k = upd (σ.1 k) j x := by funext a; simp [jx_i, upd]
theorem jx_l_upd (σ : jx_S) (k j : Nat) (x : Int64) : (jx_l σ k j x).2 k = vp_updL (σ.2 k) j x := by funext a; simp [jx_l, vp_updL]
/-- the addresses of the world do not depend on what it holds -/
theorem jx_D_any {ad : Nat → Nat} {dA : Nat → ClassId} {O : jx_O} {N : Nat} {σ : jx_S} {A : Nat → Prop} (σ' : jx_S) (h : va_D A (jx_W ad dA O N σ)) : va_D A (jx_W ad dA O N σ') := by
  refine ⟨fun i j p q hi hj e => ?_, fun k q hk => ?_⟩
  · obtain ⟨h1, rfl⟩ := jx_W_inv hi
    obtain ⟨h2, rfl⟩ := jx_W_inv hj
    exact h.1 i j _ _ (jx_W_get h1) (jx_W_get h2) e
  · obtain ⟨h1, rfl⟩ := jx_W_inv hk
    exact h.2 k (ad k, jx_E ad dA σ k (O k)) (jx_W_get h1)
theorem jx_A_any {ad : Nat → Nat} {dA : Nat → ClassId} {O : jx_O} {N : Nat} {σ : jx_S} (σ' : jx_S) {sz q : Nat} (h : va_A (jx_W ad dA O N σ) sz q) : va_A (jx_W ad dA O N σ') sz q := by
  rcases h with ⟨k, e, hk⟩ | h
  · obtain ⟨h1, h2⟩ := jx_W_inv hk
    refine Or.inl ⟨k, jx_E ad dA σ' k (O k), ?_⟩
    rw [jx_W_get h1]
    cases h2
    rfl
  · exact Or.inr h
