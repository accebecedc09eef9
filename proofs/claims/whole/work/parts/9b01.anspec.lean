/-! ANALYSIS, 1: what is meant: points, numbers of cases, the order of shapes. -/
abbrev jDs : Type := Nat × Nat × Nat × Nat × Nat × (Nat → Nat)
def dK (d : jDs) : Nat := d.1
def dM (d : jDs) : Nat := d.2.1
def dS (d : jDs) : Nat := d.2.2.1
def dG (d : jDs) : Nat := d.2.2.2.1
def dB (d : jDs) : Nat := d.2.2.2.2.1
def dC (d : jDs) : Nat → Nat := d.2.2.2.2.2
/-- the number of a case -/
def nm (t a : Nat → Nat) : Nat → Nat
  | 0 => 0
  | i + 1 => nm t a i * tyQ (t i) + a i
theorem nm_lt {t a : Nat → Nat} : ∀ p, (∀ i, i < p → a i < tyQ (t i)) → nm t a p < cnt t p := by
  intro p
  induction p with
  | zero => intro _; show 0 < 1; omega
  | succ p ih =>
    intro h
    have h1 := ih (fun i hi => h i (by omega))
    have h2 := h p (by omega)
    show nm t a p * tyQ (t p) + a p < cnt t p * tyQ (t p)
    have h3 : (nm t a p + 1) * tyQ (t p) ≤ cnt t p * tyQ (t p) := Nat.mul_le_mul_right _ h1
    rw [Nat.add_mul, Nat.one_mul] at h3
    omega
theorem nm_congr {t a b : Nat → Nat} : ∀ p, (∀ i, i < p → a i = b i) → nm t a p = nm t b p := by
  intro p
  induction p with
  | zero => intro _; rfl
  | succ p ih =>
    intro h
    show nm t a p * tyQ (t p) + a p = nm t b p * tyQ (t p) + b p
    rw [ih (fun i hi => h i (by omega)), h p (by omega)]
def mk (t sh x y : Nat) : Nat := if t < 2 then sh else if t < 6 then (if sh = 0 then 0 else if sh = 1 then x else 1) else (if sh = 0 then 0 else if sh = 1 then x &&& y else if sh = 2 then x else if sh = 3 then y else if sh = 4 then x ||| y else 1)
def sh1 (n o : Nat) : Nat := if n = 1 then 2 else o
def sh2 (n s f b : Nat) : Nat := if n = 1 then 5 else if b = 0 then 0 else if f = 1 then (if s = 1 then 4 else 2) else if s = 1 then 3 else 1
/-- a name that is a local -/
def lcV (t sh m a0 a1 x y : Nat) : Nat := mk t sh (if 0 < m then a0 else x) (if 1 < m then a1 else if m = 1 then x else y)
def ptLoc (t sh m a0 a1 : Nat) : Nat := if tyA t - m = 0 then lcV t sh m a0 a1 0 0 else if tyA t - m = 1 then sh1 (lcV t sh m a0 a1 0 0) (lcV t sh m a0 a1 1 0) else sh2 (lcV t sh m a0 a1 0 0) (lcV t sh m a0 a1 0 1) (lcV t sh m a0 a1 1 0) (lcV t sh m a0 a1 1 1)
/-- a name that is a function -/
def arg (m : Nat) (a : Nat → Nat) (x y : Nat) (i : Nat) : Nat := if i < m then a i else if i = m then x else y
def clV (v : Nat → Nat) (p m : Nat) (t a : Nat → Nat) (x y : Nat) : Nat := v (nm t (arg m a x y) p)
def ptCal (v : Nat → Nat) (p m : Nat) (t a : Nat → Nat) : Nat := if p - m = 0 then clV v p m t a 0 0 else if p - m = 1 then sh1 (clV v p m t a 0 0) (clV v p m t a 1 0) else sh2 (clV v p m t a 0 0) (clV v p m t a 0 1) (clV v p m t a 1 0) (clV v p m t a 1 1)
/-- a node's point -/
def ptN (pN : Nat → Nat) (ty : Nat → Nat → Nat) (f : Nat) (V : Nat → Nat → Nat) (d : jDs) (pt loc : Nat → Nat) : Nat :=
  if dK d = 2 ∨ dK d = 13 ∨ dK d = 14 then 1 else if dK d = 15 then 0 else if dK d = 5 then pt (dC d 1) else if dK d = 7 ∨ dK d = 10 then pt (dC d 0) &&& (pt (dC d 1) ||| pt (dC d 2)) else if dK d = 28 then ptLoc (ty f (dS d)) (loc (dS d)) (dM d) (pt (dC d 0)) (pt (dC d 1)) else if dK d = 29 then ptCal (V (dG d)) (pN (dG d)) (dM d) (ty (dG d)) (fun i => pt (dC d i)) else pt (dC d 0) &&& pt (dC d 1)
/-- nodes one after another -/
def evS (pN : Nat → Nat) (ty : Nat → Nat → Nat) (f : Nat) (V : Nat → Nat → Nat) (D : Nat → jDs) (k : Nat) (q : (Nat → Nat) × (Nat → Nat)) : (Nat → Nat) × (Nat → Nat) :=
  (fun j => if j = k then ptN pN ty f V (D k) q.1 q.2 else q.1 j, fun j => if dB (D k) = j + 1 then ptN pN ty f V (D k) q.1 q.2 else q.2 j)
def ev (pN : Nat → Nat) (ty : Nat → Nat → Nat) (f : Nat) (V : Nat → Nat → Nat) (D : Nat → jDs) (a : Nat) (q : (Nat → Nat) × (Nat → Nat)) : Nat → (Nat → Nat) × (Nat → Nat)
  | 0 => q
  | n + 1 => evS pN ty f V D (a + n) (ev pN ty f V D a q n)
/-- the order -/
def leQ (q a b : Nat) : Prop := a < q ∧ b < q ∧ (a = b ∨ a = 0 ∨ (q ≠ 6 ∧ a ≤ b) ∨ b = 5 ∨ (a = 1 ∧ 1 ≤ b) ∨ (b = 4 ∧ a ≤ 4))
theorem leQ_2 {a b : Nat} : leQ 2 a b ↔ a ≤ b ∧ b < 2 := by unfold leQ; omega
theorem and_le {a b c d : Nat} (h1 : a ≤ c) (h2 : b ≤ d) (h3 : c < 2) (h4 : d < 2) : (a &&& b) ≤ (c &&& d) ∧ (c &&& d) < 2 := by
  have : ∀ a b c d : Fin 2, a ≤ c → b ≤ d → ((a.val &&& b.val) ≤ (c.val &&& d.val) ∧ (c.val &&& d.val) < 2) := by decide
  exact this ⟨a, by omega⟩ ⟨b, by omega⟩ ⟨c, h3⟩ ⟨d, h4⟩ h1 h2
theorem or_le {a b c d : Nat} (h1 : a ≤ c) (h2 : b ≤ d) (h3 : c < 2) (h4 : d < 2) : (a ||| b) ≤ (c ||| d) ∧ (c ||| d) < 2 := by
  have : ∀ a b c d : Fin 2, a ≤ c → b ≤ d → ((a.val ||| b.val) ≤ (c.val ||| d.val) ∧ (c.val ||| d.val) < 2) := by decide
  exact this ⟨a, by omega⟩ ⟨b, by omega⟩ ⟨c, h3⟩ ⟨d, h4⟩ h1 h2
theorem sh1_le {n o n' o' : Nat} (h1 : n ≤ n') (h2 : o ≤ o') (h3 : n' < 2) (h4 : o' < 2) : leQ 3 (sh1 n o) (sh1 n' o') := by
  unfold leQ sh1; split <;> split <;> omega
theorem sh2_le {n s f b n' s' f' b' : Nat} (h1 : n ≤ n') (h2 : s ≤ s') (h3 : f ≤ f') (h4 : b ≤ b') (k1 : n' < 2) (k2 : s' < 2) (k3 : f' < 2) (k4 : b' < 2) : leQ 6 (sh2 n s f b) (sh2 n' s' f' b') := by
  have : ∀ n s f b n' s' f' b' : Fin 2, n ≤ n' → s ≤ s' → f ≤ f' → b ≤ b' → (sh2 n.val s.val f.val b.val < 6 ∧ sh2 n'.val s'.val f'.val b'.val < 6 ∧ (sh2 n.val s.val f.val b.val = sh2 n'.val s'.val f'.val b'.val ∨ sh2 n.val s.val f.val b.val = 0 ∨ ((6:Nat) ≠ 6 ∧ sh2 n.val s.val f.val b.val ≤ sh2 n'.val s'.val f'.val b'.val) ∨ sh2 n'.val s'.val f'.val b'.val = 5 ∨ (sh2 n.val s.val f.val b.val = 1 ∧ 1 ≤ sh2 n'.val s'.val f'.val b'.val) ∨ (sh2 n'.val s'.val f'.val b'.val = 4 ∧ sh2 n.val s.val f.val b.val ≤ 4))) := by decide +kernel
  exact this ⟨n, by omega⟩ ⟨s, by omega⟩ ⟨f, by omega⟩ ⟨b, by omega⟩ ⟨n', k1⟩ ⟨s', k2⟩ ⟨f', k3⟩ ⟨b', k4⟩ h1 h2 h3 h4
