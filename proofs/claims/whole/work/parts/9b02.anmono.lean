/-! ANALYSIS, 2: points grow with what they are made of. -/
def LeG (p : Nat) (t v v' : Nat → Nat) : Prop := ∀ a a', (∀ i, i < p → leQ (tyQ (t i)) (a i) (a' i)) → v (nm t a p) ≤ v' (nm t a' p) ∧ v' (nm t a' p) < 2
def LeV (F : Nat) (pN : Nat → Nat) (ty V V' : Nat → Nat → Nat) : Prop := ∀ g, g < F → LeG (pN g) (ty g) (V g) (V' g)
/-- a node's kind and types, by numbers -/
def okD (F : Nat) (pN lN' : Nat → Nat) (ty : Nat → Nat → Nat) (f : Nat) (W : Nat → Nat) (d : jDs) (k : Nat) : Prop :=
  (∀ i, i < dM d → dC d i < k) ∧ (dB d = 0 ∨ (dB d - 1 < lN' f ∧ ty f (dB d - 1) = W k)) ∧
  (((dK d = 2 ∨ dK d = 13 ∨ dK d = 14 ∨ dK d = 15) ∧ W k < 2) ∨ (dK d = 5 ∧ dM d = 2 ∧ W k < 2 ∧ W (dC d 1) = W k) ∨ ((dK d = 7 ∨ dK d = 10) ∧ dM d = 3 ∧ W k < 2 ∧ W (dC d 0) < 2 ∧ W (dC d 1) < 2 ∧ W (dC d 2) < 2) ∨
   (dK d = 28 ∧ dS d < lN' f ∧ ty f (dS d) < 14 ∧ dM d ≤ tyA (ty f (dS d)) ∧ tyL (ty f (dS d)) (dM d) = W k ∧ ∀ i, i < dM d → W (dC d i) = tyP (ty f (dS d)) i) ∨
   (dK d = 29 ∧ dG d < F ∧ dM d ≤ pN (dG d) ∧ pN (dG d) ≤ dM d + 2 ∧ (∀ i, i < dM d → W (dC d i) = ty (dG d) i) ∧ (∀ i, dM d ≤ i → i < pN (dG d) → ty (dG d) i < 2) ∧ tyQ (W k) = (if pN (dG d) - dM d = 0 then 2 else if pN (dG d) - dM d = 1 then 3 else 6)) ∨
   ((dK d = 19 ∨ (23 ≤ dK d ∧ dK d ≤ 27)) ∧ dM d = 2 ∧ W k < 2 ∧ W (dC d 0) < 2 ∧ W (dC d 1) < 2))
theorem tyQ_b {t : Nat} (h : t < 2) : tyQ t = 2 := if_pos h
theorem leQ_refl {q a : Nat} (h : a < q) : leQ q a a := ⟨h, h, Or.inl rfl⟩
def leqB (q a b : Nat) : Bool := decide (a < q) && decide (b < q) && (decide (a = b) || decide (a = 0) || (decide (q ≠ 6) && decide (a ≤ b)) || decide (b = 5) || (decide (a = 1) && decide (1 ≤ b)) || (decide (b = 4) && decide (a ≤ 4)))
theorem leqB_iff {q a b : Nat} : leqB q a b = true ↔ leQ q a b := by
  unfold leqB leQ
  simp only [Bool.and_eq_true, Bool.or_eq_true, decide_eq_true_eq, or_assoc, and_assoc]
theorem ptLoc_fin : ∀ t : Fin 14, ∀ m : Fin 3, ∀ s s' : Fin 6, ∀ a0 b0 a1 b1 : Fin 2, (!(decide (m.val ≤ tyA t.val) && leqB (tyQ t.val) s.val s'.val && decide (a0.val ≤ b0.val) && decide (a1.val ≤ b1.val)) || leqB (tyQ (tyL t.val m.val)) (ptLoc t.val s.val m.val a0.val a1.val) (ptLoc t.val s'.val m.val b0.val b1.val)) = true := by decide +kernel
/-- parts that are not there do not count -/
theorem ptLoc_parts {t m : Nat} (hm : m ≤ tyA t) (sh a0 a1 b0 b1 : Nat) (h0 : 0 < m → a0 = b0) (h1 : 1 < m → a1 = b1) : ptLoc t sh m a0 a1 = ptLoc t sh m b0 b1 := by
  unfold ptLoc lcV
  by_cases z0 : 0 < m
  · rw [h0 z0]
    by_cases z1 : 1 < m
    · rw [h1 z1]
    · simp only [if_neg z1]
  · have z1 : ¬ 1 < m := by omega
    simp only [if_neg z0, if_neg z1]
theorem ptLoc_le {t m s s' a0 a1 b0 b1 : Nat} (ht : t < 14) (hm : m ≤ tyA t) (hs : leQ (tyQ t) s s') (h0 : 0 < m → a0 ≤ b0 ∧ b0 < 2) (h1 : 1 < m → a1 ≤ b1 ∧ b1 < 2) : leQ (tyQ (tyL t m)) (ptLoc t s m a0 a1) (ptLoc t s' m b0 b1) := by
  have hm3 : m < 3 := by have := @tyA_le t; omega
  have hq := (tyQ_le t).1
  rw [ptLoc_parts hm s a0 a1 (if 0 < m then a0 else 0) (if 1 < m then a1 else 0) (fun z => by rw [if_pos z]) (fun z => by rw [if_pos z]), ptLoc_parts hm s' b0 b1 (if 0 < m then b0 else 0) (if 1 < m then b1 else 0) (fun z => by rw [if_pos z]) (fun z => by rw [if_pos z])]
  have e0 : (if 0 < m then a0 else 0) ≤ (if 0 < m then b0 else 0) ∧ (if 0 < m then b0 else 0) < 2 := by split; exact h0 (by assumption); omega
  have e1 : (if 1 < m then a1 else 0) ≤ (if 1 < m then b1 else 0) ∧ (if 1 < m then b1 else 0) < 2 := by split; exact h1 (by assumption); omega
  have := ptLoc_fin ⟨t, ht⟩ ⟨m, hm3⟩ ⟨s, by have := hs.1; omega⟩ ⟨s', by have := hs.2.1; omega⟩ ⟨_, show (if 0 < m then a0 else 0) < 2 by omega⟩ ⟨_, e0.2⟩ ⟨_, show (if 1 < m then a1 else 0) < 2 by omega⟩ ⟨_, e1.2⟩
  dsimp only at this
  rw [decide_eq_true hm, decide_eq_true e0.1, decide_eq_true e1.1, leqB_iff.mpr hs] at this
  simp only [Bool.and_true, Bool.not_true, Bool.false_or] at this
  exact leqB_iff.mp this
theorem ptCal_le {p m : Nat} {t v v' a a' : Nat → Nat} (hm : m ≤ p) (hp : p ≤ m + 2) (h : LeG p t v v') (ha : ∀ i, i < m → leQ (tyQ (t i)) (a i) (a' i)) (hb : ∀ i, m ≤ i → i < p → t i < 2) : leQ (if p - m = 0 then 2 else if p - m = 1 then 3 else 6) (ptCal v p m t a) (ptCal v' p m t a') := by
  have key : ∀ x y, x < 2 → y < 2 → clV v p m t a x y ≤ clV v' p m t a' x y ∧ clV v' p m t a' x y < 2 := fun x y hx hy => by
    refine h _ _ (fun i hi => ?_)
    unfold arg
    by_cases z : i < m
    · rw [if_pos z, if_pos z]; exact ha i z
    · rw [if_neg z, if_neg z, tyQ_b (hb i (by omega) hi)]
      exact leQ_refl (by split <;> omega)
  have k00 := key 0 0 (by omega) (by omega)
  have k01 := key 0 1 (by omega) (by omega)
  have k10 := key 1 0 (by omega) (by omega)
  have k11 := key 1 1 (by omega) (by omega)
  unfold ptCal
  by_cases z0 : p - m = 0
  · rw [if_pos z0, if_pos z0, if_pos z0]; exact leQ_2.mpr k00
  · rw [if_neg z0, if_neg z0, if_neg z0]
    by_cases z1 : p - m = 1
    · rw [if_pos z1, if_pos z1, if_pos z1]; exact sh1_le k00.1 k10.1 k00.2 k10.2
    · rw [if_neg z1, if_neg z1, if_neg z1]; exact sh2_le k00.1 k01.1 k10.1 k11.1 k00.2 k01.2 k10.2 k11.2
theorem ptN_le {F : Nat} {pN lN' : Nat → Nat} {ty : Nat → Nat → Nat} {f k : Nat} {W : Nat → Nat} {d : jDs} {V V' : Nat → Nat → Nat} {pt loc pt' loc' : Nat → Nat} (hd : okD F pN lN' ty f W d k) (hV : LeV F pN ty V V') (hp : ∀ i, i < dM d → leQ (tyQ (W (dC d i))) (pt (dC d i)) (pt' (dC d i))) (hl : ∀ s, s < lN' f → leQ (tyQ (ty f s)) (loc s) (loc' s)) : leQ (tyQ (W k)) (ptN pN ty f V d pt loc) (ptN pN ty f V' d pt' loc') := by
  obtain ⟨d1, d2, d3⟩ := hd
  unfold ptN
  rcases d3 with ⟨z, w⟩ | ⟨z, zm, w, w1⟩ | ⟨z, zm, w, w0, w1, w2⟩ | ⟨z, z1, z2, z3, z4, z5⟩ | ⟨z, z1, z2, z3, z4, z5, z6⟩ | ⟨z, zm, w, w0, w1⟩
  · rw [tyQ_b w]
    rcases z with z | z | z | z
    · rw [z, if_pos (by decide), if_pos (by decide)]; exact leQ_refl (by omega)
    · rw [z, if_pos (by decide), if_pos (by decide)]; exact leQ_refl (by omega)
    · rw [z, if_pos (by decide), if_pos (by decide)]; exact leQ_refl (by omega)
    · rw [z, if_neg (by decide), if_pos (by decide), if_neg (by decide), if_pos (by decide)]; exact leQ_refl (by omega)
  · rw [z, if_neg (by decide), if_neg (by decide), if_pos rfl, if_neg (by decide), if_neg (by decide), if_pos rfl, ← w1]
    exact hp 1 (by omega)
  · have p0 := hp 0 (by omega)
    have p1 := hp 1 (by omega)
    have p2 := hp 2 (by omega)
    rw [tyQ_b w0, leQ_2] at p0
    rw [tyQ_b w1, leQ_2] at p1
    rw [tyQ_b w2, leQ_2] at p2
    have q1 := or_le p1.1 p2.1 p1.2 p2.2
    have q2 := and_le p0.1 q1.1 p0.2 q1.2
    rw [tyQ_b w, leQ_2]
    rcases z with z | z <;> (rw [z, if_neg (by decide), if_neg (by decide), if_neg (by decide), if_pos (by decide), if_neg (by decide), if_neg (by decide), if_neg (by decide), if_pos (by decide)]; exact q2)
  · rw [z, if_neg (by decide), if_neg (by decide), if_neg (by decide), if_neg (by decide), if_pos rfl, if_neg (by decide), if_neg (by decide), if_neg (by decide), if_neg (by decide), if_pos rfl, ← z4]
    have hA := @tyA_le (ty f (dS d))
    refine ptLoc_le z2 z3 (hl _ z1) (fun h => ?_) (fun h => ?_)
    · have p0 := hp 0 h
      rw [z5 0 h, tyQ_b ((ty_p0 _ z2 0 (by omega)).2.2 (by omega)).2, leQ_2] at p0
      exact p0
    · have p1 := hp 1 h
      rw [z5 1 h, tyQ_b ((ty_p0 _ z2 1 (by omega)).2.2 (by omega)).2, leQ_2] at p1
      exact p1
  · rw [z, if_neg (by decide), if_neg (by decide), if_neg (by decide), if_neg (by decide), if_neg (by decide), if_pos rfl, if_neg (by decide), if_neg (by decide), if_neg (by decide), if_neg (by decide), if_neg (by decide), if_pos rfl, z6]
    exact ptCal_le z2 z3 (hV _ z1) (fun i hi => by rw [← z4 i hi]; exact hp i hi) z5
  · have p0 := hp 0 (by omega)
    have p1 := hp 1 (by omega)
    rw [tyQ_b w0, leQ_2] at p0
    rw [tyQ_b w1, leQ_2] at p1
    rw [tyQ_b w, leQ_2]
    rw [if_neg (by omega), if_neg (by omega), if_neg (by omega), if_neg (by omega), if_neg (by omega), if_neg (by omega), if_neg (by omega), if_neg (by omega), if_neg (by omega), if_neg (by omega), if_neg (by omega), if_neg (by omega)]
    exact and_le p0.1 p1.1 p0.2 p1.2
/-- the nodes from a on, n of them -/
def RngD (F : Nat) (pN lN' : Nat → Nat) (ty : Nat → Nat → Nat) (f : Nat) (W : Nat → Nat) (D : Nat → jDs) (a n : Nat) : Prop := ∀ k, a ≤ k → k < a + n → okD F pN lN' ty f W (D k) k ∧ ∀ i, i < dM (D k) → a ≤ dC (D k) i
def leE (lN' : Nat → Nat) (ty : Nat → Nat → Nat) (f : Nat) (W : Nat → Nat) (a n : Nat) (q q' : (Nat → Nat) × (Nat → Nat)) : Prop := (∀ j, a ≤ j → j < a + n → leQ (tyQ (W j)) (q.1 j) (q'.1 j)) ∧ ∀ s, s < lN' f → leQ (tyQ (ty f s)) (q.2 s) (q'.2 s)
theorem ev_le {F : Nat} {pN lN' : Nat → Nat} {ty : Nat → Nat → Nat} {f a : Nat} {W : Nat → Nat} {D : Nat → jDs} {V V' : Nat → Nat → Nat} {q q' : (Nat → Nat) × (Nat → Nat)} (hV : LeV F pN ty V V') (hl : ∀ s, s < lN' f → leQ (tyQ (ty f s)) (q.2 s) (q'.2 s)) : ∀ n, RngD F pN lN' ty f W D a n → leE lN' ty f W a n (ev pN ty f V D a q n) (ev pN ty f V' D a q' n) := by
  intro n
  induction n with
  | zero => intro _; exact ⟨fun j h1 h2 => absurd h1 (by omega), hl⟩
  | succ n ih =>
    intro hR
    obtain ⟨h1, h2⟩ := ih (fun k k1 k2 => hR k k1 (by omega))
    obtain ⟨o1, o2⟩ := hR (a + n) (by omega) (by omega)
    have hp := ptN_le o1 hV (fun i hi => h1 (dC (D (a + n)) i) (o2 i hi) (o1.1 i hi)) h2
    refine ⟨fun j j1 j2 => ?_, fun s hs => ?_⟩
    · show leQ (tyQ (W j)) (if j = a + n then _ else _) (if j = a + n then _ else _)
      by_cases e : j = a + n
      · rw [if_pos e, if_pos e, e]; exact hp
      · rw [if_neg e, if_neg e]; exact h1 j j1 (by omega)
    · show leQ (tyQ (ty f s)) (if dB (D (a + n)) = s + 1 then _ else _) (if dB (D (a + n)) = s + 1 then _ else _)
      by_cases e : dB (D (a + n)) = s + 1
      · rw [if_pos e, if_pos e]
        rcases o1.2.1 with z | ⟨_, z⟩
        · omega
        · rw [e, Nat.add_sub_cancel] at z
          rw [z]; exact hp
      · rw [if_neg e, if_neg e]; exact h2 s hs
theorem ptN_congr {pN : Nat → Nat} {ty : Nat → Nat → Nat} {f : Nat} {d : jDs} {V V' : Nat → Nat → Nat} {pt loc : Nat → Nat} (h : dK d = 29 → V (dG d) = V' (dG d)) : ptN pN ty f V d pt loc = ptN pN ty f V' d pt loc := by
  unfold ptN
  by_cases z : dK d = 29
  · rw [h z]
  · rw [if_neg z, if_neg z]
theorem ev_congr {pN : Nat → Nat} {ty : Nat → Nat → Nat} {f a : Nat} {D : Nat → jDs} {V V' : Nat → Nat → Nat} {q : (Nat → Nat) × (Nat → Nat)} : ∀ n, (∀ k, a ≤ k → k < a + n → dK (D k) = 29 → V (dG (D k)) = V' (dG (D k))) → ev pN ty f V D a q n = ev pN ty f V' D a q n := by
  intro n
  induction n with
  | zero => intro _; rfl
  | succ n ih =>
    intro h
    show evS pN ty f V D (a + n) (ev pN ty f V D a q n) = evS pN ty f V' D (a + n) (ev pN ty f V' D a q n)
    rw [ih (fun k k1 k2 => h k k1 (by omega))]
    unfold evS
    rw [ptN_congr (V := V) (V' := V') (h (a + n) (by omega) (by omega))]
