/-! Which cells a function may change: the arrays ms, the fields fs; printed by wip/gen/emitf.py. -/
def jFr (ms : List Nat) (fs : List (Nat × Nat)) (σ τ : jx_S) : Prop := ∀ k j, k ∉ ms → (k, j) ∉ fs → τ.1 k j = σ.1 k j ∧ τ.2 k j = σ.2 k j
theorem jFr.rfl {ms : List Nat} {fs : List (Nat × Nat)} {σ : jx_S} : jFr ms fs σ σ := fun _ _ _ _ => ⟨Eq.refl _, Eq.refl _⟩
theorem jFr.i {ms : List Nat} {fs : List (Nat × Nat)} {σ τ : jx_S} {k j : Nat} {v : Int32} (h : jFr ms fs σ τ) (hm : (k, j) ∈ fs) : jFr ms fs σ (jx_i τ k j v) := by
  intro a b ha hb
  refine ⟨?_, (h a b ha hb).2⟩
  show (if a = k ∧ b = j then v else τ.1 a b) = _
  rw [if_neg (fun q => hb (by rw [q.1, q.2]; exact hm))]
  exact (h a b ha hb).1
theorem jFr.l {ms : List Nat} {fs : List (Nat × Nat)} {σ τ : jx_S} {k j : Nat} {v : Int64} (h : jFr ms fs σ τ) (hm : (k, j) ∈ fs) : jFr ms fs σ (jx_l τ k j v) := by
  intro a b ha hb
  refine ⟨(h a b ha hb).1, ?_⟩
  show (if a = k ∧ b = j then v else τ.2 a b) = _
  rw [if_neg (fun q => hb (by rw [q.1, q.2]; exact hm))]
  exact (h a b ha hb).2
theorem jFr.ia {ms : List Nat} {fs : List (Nat × Nat)} {σ τ : jx_S} {k j : Nat} {v : Int32} (h : jFr ms fs σ τ) (hm : k ∈ ms) : jFr ms fs σ (jx_i τ k j v) := by
  intro a b ha hb
  refine ⟨?_, (h a b ha hb).2⟩
  show (if a = k ∧ b = j then v else τ.1 a b) = _
  rw [if_neg (fun q => ha (by rw [q.1]; exact hm))]
  exact (h a b ha hb).1
theorem jFr.la {ms : List Nat} {fs : List (Nat × Nat)} {σ τ : jx_S} {k j : Nat} {v : Int64} (h : jFr ms fs σ τ) (hm : k ∈ ms) : jFr ms fs σ (jx_l τ k j v) := by
  intro a b ha hb
  refine ⟨(h a b ha hb).1, ?_⟩
  show (if a = k ∧ b = j then v else τ.2 a b) = _
  rw [if_neg (fun q => ha (by rw [q.1]; exact hm))]
  exact (h a b ha hb).2
theorem jFr.ip {ms : List Nat} {fs : List (Nat × Nat)} {σ τ : jx_S} {n k : Nat} {i v : Int32} (h : jFr ms fs σ τ) (hm : k ∈ ms) : jFr ms fs σ (jI_put n τ k i v) := by
  intro a b ha hb
  refine ⟨?_, (h a b ha hb).2⟩
  show (if a = k then _ else τ.1 a) b = _
  rw [if_neg (fun q => ha (by rw [q]; exact hm))]
  exact (h a b ha hb).1
theorem jFr.lp {ms : List Nat} {fs : List (Nat × Nat)} {σ τ : jx_S} {n k : Nat} {i : Int32} {v : Int64} (h : jFr ms fs σ τ) (hm : k ∈ ms) : jFr ms fs σ (jL_put n τ k i v) := by
  intro a b ha hb
  refine ⟨(h a b ha hb).1, ?_⟩
  show (if a = k then _ else τ.2 a) b = _
  rw [if_neg (fun q => ha (by rw [q]; exact hm))]
  exact (h a b ha hb).2
theorem jFr.c {ms : List Nat} {fs : List (Nat × Nat)} {σ τ : jx_S} {n k : Nat} (h : jFr ms fs σ τ) (hm : k ∈ ms) : jFr ms fs σ (jI_clr n τ k) := by
  intro a b ha hb
  refine ⟨?_, (h a b ha hb).2⟩
  show (if a = k then _ else τ.1 a) b = _
  rw [if_neg (fun q => ha (by rw [q]; exact hm))]
  exact (h a b ha hb).1
theorem jFr.step {ms ms1 : List Nat} {fs fs1 : List (Nat × Nat)} {σ τ υ : jx_S} (h : jFr ms fs σ τ) (h1 : jFr ms1 fs1 τ υ) (hm : ms1.all (fun x => ms.contains x) = true) (hf : fs1.all (fun x => fs.contains x) = true) : jFr ms fs σ υ := by
  intro a b ha hb
  have h2 := h1 a b (fun q => ha (by simpa using List.all_eq_true.mp hm a q)) (fun q => hb (by simpa using List.all_eq_true.mp hf (a, b) q))
  have h3 := h a b ha hb
  exact ⟨h2.1.trans h3.1, h2.2.trans h3.2⟩
def fkV (ms : List Nat) (fs : List (Nat × Nat)) (σ : jx_S) (t : jx_S) : Prop := jFr ms fs σ t
def fkI (ms : List Nat) (fs : List (Nat × Nat)) (σ : jx_S) (t : Int32 × jx_S) : Prop := jFr ms fs σ t.2
def fkJ (ms : List Nat) (fs : List (Nat × Nat)) (σ : jx_S) (t : Int64 × jx_S) : Prop := jFr ms fs σ t.2
def ms_cRea_readExpression : List Nat := [23, 25, 27, 29, 31, 33, 35, 37, 39, 47, 55, 57, 59, 61]
def fs_cRea_readExpression : List (Nat × Nat) := [(1, 0), (1, 1), (3, 9), (5, 5), (5, 6)]
def ms_cMac_putOff : List Nat := [89, 91, 93, 99, 101, 103, 105]
def fs_cMac_putOff : List (Nat × Nat) := [(8, 14), (9, 12), (9, 15), (9, 16)]
