/-! READER, 3: nodes alike, the state of both readers, small steps of both. -/
abbrev jGh : Type := Nat → (Nat → Prop) × Nat × Nat × Nat
def gV (G : jGh) (k : Nat) : Nat → Prop := (G k).1
def gB (G : jGh) (k : Nat) : Nat := (G k).2.1
def gD (G : jGh) (k : Nat) : Nat := (G k).2.2.1
/-- how many names stand within one another, at most -/
def gA (G : jGh) (k : Nat) : Nat := (G k).2.2.2 % 31
def gup (G : jGh) (n : Nat) (x : (Nat → Prop) × Nat × Nat × Nat) : jGh := fun k => if k = n then x else G k
def bnd (o i s s' : Nat) : Prop := (o = 5 ∧ i = 1 ∧ s' = s) ∨ (o = 10 ∧ i = 2 ∧ (s' = s ∨ s' = s + 1))
def arOK (o m : Nat) : Prop := o = 1 ∨ ((o = 2 ∨ o = 13 ∨ o = 15) ∧ m = 0) ∨ ((o = 5 ∨ o = 14 ∨ o = 19 ∨ (23 ≤ o ∧ o ≤ 27)) ∧ m = 2) ∨ ((o = 7 ∨ o = 10) ∧ m = 3)
/-- what a node is: its own cells -/
def NdA (E : jEn) (G : jGh) (τ ρ : jx_S) (k o tk m lo s : Nat) (cs : Nat → Nat) : Prop :=
  ρ.1 112 k = nI o ∧ ρ.1 113 k = nI tk ∧ τ.1 25 (k + 1) = nI tk ∧ tk < eC E ∧ eK E tk = o ∧ arOK o m ∧
  τ.1 23 (k + 1) = nI (if o = 1 then (if ρ.1 117 k = -1 then 29 else 28) else o) ∧
  ρ.1 121 k = nI lo ∧ lo ≤ k ∧ (m = 0 → lo = k) ∧ (0 < m → cs (m - 1) + 1 = k) ∧
  τ.1 27 (k + 1) = nI (if 0 < m then cs 0 + 1 else 0) ∧
  ρ.1 119 k = nI (if o = 1 then m else 0) ∧ τ.1 35 (k + 1) = nI (if o = 1 then m else 0) ∧
  (o = 1 → (ρ.1 117 k = -1 ∧ τ.1 33 (k + 1) = -1) ∨ (ρ.1 117 k = nI s ∧ τ.1 33 (k + 1) = nI s ∧ gV G k s)) ∧
  (0 < m → ρ.1 114 k = nI (cs 0)) ∧ (o ≠ 1 → 1 < m → ρ.1 115 k = nI (cs 1)) ∧ (o ≠ 1 → 2 < m → ρ.1 116 k = nI (cs 2)) ∧
  (o = 5 → ρ.1 117 k = nI s ∧ τ.1 33 (k + 1) = nI s ∧ s = gB G k) ∧
  (o = 10 → ρ.1 117 k = nI s ∧ ρ.1 118 k = nI (s + 1) ∧ τ.1 33 (k + 1) = nI s ∧ s = gD G (cs 1)) ∧
  (∀ s', gV G k s' → s' < gB G k) ∧ gB G k ≤ gD G k ∧ gD G k ≤ 30 ∧ gD G k = (if m = 0 then gB G k else gD G (cs (m - 1)))
/-- what a node is: its parts -/
def NdC (E : jEn) (G : jGh) (τ ρ : jx_S) (k o m lo s : Nat) (cs : Nat → Nat) (i : Nat) : Prop :=
  cs i < k ∧ lo ≤ cs i ∧ ρ.1 121 (cs i) = nI (if i = 0 then lo else cs (i - 1) + 1) ∧ (0 < i → cs (i - 1) < cs i) ∧
  τ.1 31 (cs i + 1) = nI (k + 1) ∧ τ.1 29 (cs i + 1) = nI (if i + 1 < m then cs (i + 1) + 1 else 0) ∧
  ρ.1 122 (cs i) = (if o = 5 ∧ i = 0 then nI s else -1) ∧ (o = 1 → i + 1 < m → ρ.1 120 (cs i) = nI (cs (i + 1))) ∧
  (∀ s', gV G (cs i) s' → gV G k s' ∨ bnd o i s s') ∧
  gB G (cs i) = (if i = 0 then gB G k else gD G (cs (i - 1))) + (if o = 5 ∧ i = 0 then 1 else if o = 10 ∧ i = 2 then 2 else 0) ∧ (o = 1 → gA G (cs i) + 1 ≤ gA G k)
def NodeOK (E : jEn) (G : jGh) (τ ρ : jx_S) (k : Nat) : Prop := ∃ (o tk m lo s : Nat) (cs : Nat → Nat), NdA E G τ ρ k o tk m lo s cs ∧ ∀ i, i < m → NdC E G τ ρ k o m lo s cs i
/-- what stays of the first n nodes -/
def NK (n : Nat) (τ ρ τ' ρ' : jx_S) : Prop := ∀ j, j < n →
  (τ'.1 23 (j + 1) = τ.1 23 (j + 1) ∧ τ'.1 25 (j + 1) = τ.1 25 (j + 1) ∧ τ'.1 27 (j + 1) = τ.1 27 (j + 1) ∧ τ'.1 33 (j + 1) = τ.1 33 (j + 1) ∧ τ'.1 35 (j + 1) = τ.1 35 (j + 1)) ∧
  (ρ'.1 112 j = ρ.1 112 j ∧ ρ'.1 113 j = ρ.1 113 j ∧ ρ'.1 114 j = ρ.1 114 j ∧ ρ'.1 115 j = ρ.1 115 j ∧ ρ'.1 116 j = ρ.1 116 j ∧ ρ'.1 117 j = ρ.1 117 j ∧ ρ'.1 118 j = ρ.1 118 j ∧ ρ'.1 119 j = ρ.1 119 j ∧ ρ'.1 121 j = ρ.1 121 j) ∧
  (τ.1 31 (j + 1) ≠ 0 → τ'.1 29 (j + 1) = τ.1 29 (j + 1) ∧ τ'.1 31 (j + 1) = τ.1 31 (j + 1) ∧ ρ'.1 120 j = ρ.1 120 j ∧ ρ'.1 122 j = ρ.1 122 j)
theorem NodeOK_keep {E : jEn} {G G' : jGh} {n : Nat} {τ ρ τ' ρ' : jx_S} (h : NK n τ ρ τ' ρ') (hG : ∀ j, j < n → G' j = G j) {k : Nat} (hk : k < n) (hn : n < 2000) (hN : NodeOK E G τ ρ k) : NodeOK E G' τ' ρ' k := by
  obtain ⟨o, tk, m, lo, s, cs, hA, hC⟩ := hN
  have g : ∀ j, j < n → gV G' j = gV G j ∧ gB G' j = gB G j ∧ gD G' j = gD G j := fun j hj => by
    unfold gV gB gD
    rw [hG j hj]
    exact ⟨rfl, rfl, rfl⟩
  have ga : ∀ j, j < n → gA G' j = gA G j := fun j hj => by
    unfold gA
    rw [hG j hj]
  have gc : ∀ i, i < m → gV G' (cs i) = gV G (cs i) ∧ gB G' (cs i) = gB G (cs i) ∧ gD G' (cs i) = gD G (cs i) := fun i hi => g (cs i) (by have := (hC i hi).1; omega)
  refine ⟨o, tk, m, lo, s, cs, ?_, fun i hi => ?_⟩
  · obtain ⟨⟨a1, a2, a3, a4, a5⟩, ⟨b1, b2, b3, b4, b5, b6, b7, b8, b9⟩, _⟩ := h k hk
    obtain ⟨g1, g2, g3⟩ := g k hk
    have hgd : (if m = 0 then gB G' k else gD G' (cs (m - 1))) = (if m = 0 then gB G k else gD G (cs (m - 1))) := by
      by_cases hm : m = 0
      · rw [if_pos hm, if_pos hm, g2]
      · rw [if_neg hm, if_neg hm, (gc (m - 1) (by omega)).2.2]
    have hg1 : o = 10 → gD G' (cs 1) = gD G (cs 1) := fun q => (gc 1 (by have := hA.2.2.2.2.2.1; unfold arOK at this; omega)).2.2
    unfold NdA at hA ⊢
    rw [hgd, a1, a2, a3, a4, a5, b1, b2, b3, b4, b5, b6, b7, b8, b9, g1, g2, g3]
    obtain ⟨c1, c2, c3, c4, c5, c6, c7, c8, c9, c10, c11, c12, c13, c14, c15, c16, c17, c18, c19, c20, c21⟩ := hA
    exact ⟨c1, c2, c3, c4, c5, c6, c7, c8, c9, c10, c11, c12, c13, c14, c15, c16, c17, c18, c19, fun q => by rw [hg1 q]; exact c20 q, c21⟩
  · have hc := hC i hi
    obtain ⟨_, ⟨_, _, _, _, _, _, _, _, b9⟩, hp⟩ := h (cs i) (by have := hc.1; omega)
    obtain ⟨p1, p2, p3, p4⟩ := hp (by rw [hc.2.2.2.2.1]; exact nI_ne0 (by omega) (by omega))
    obtain ⟨g1, g2, g3⟩ := g k hk
    obtain ⟨u1, u2, u3⟩ := gc i hi
    have hgd : (if i = 0 then gB G' k else gD G' (cs (i - 1))) = (if i = 0 then gB G k else gD G (cs (i - 1))) := by
      by_cases hm : i = 0
      · rw [if_pos hm, if_pos hm, g2]
      · rw [if_neg hm, if_neg hm, (gc (i - 1) (by omega)).2.2]
    unfold NdC at hc ⊢
    rw [b9, p1, p2, p3, p4, g1, u1, u2, hgd, ga k hk, ga (cs i) (by have := (hC i hi).1; omega)]
    exact hc
theorem NK_refl {n : Nat} {τ ρ : jx_S} : NK n τ ρ τ ρ := fun _ _ => ⟨⟨rfl, rfl, rfl, rfl, rfl⟩, ⟨rfl, rfl, rfl, rfl, rfl, rfl, rfl, rfl, rfl⟩, fun _ => ⟨rfl, rfl, rfl, rfl⟩⟩
/-- the scope -/
def ScOK (E : jEn) (f l : Nat) (k61 k55 k142 k143 : Nat → Int32) : List Nat → Prop
  | [] => True
  | x :: xs => x < l ∧ k61 xs.length = nI x ∧ k142 xs.length = nI x ∧ (∃ tk, k143 xs.length = nI tk ∧ k55 (30 * f + x) = nI tk ∧ tk < eC E ∧ eK E tk = 1) ∧ ScOK E f l k61 k55 k142 k143 xs
theorem ScOK_keep {E : jEn} {f l l' : Nat} {k61 k55 k142 k143 j61 j55 j142 j143 : Nat → Int32} (hl : l ≤ l') : ∀ sc : List Nat, (∀ j, j < sc.length → j61 j = k61 j ∧ j142 j = k142 j ∧ j143 j = k143 j) → (∀ i, i < l → j55 (30 * f + i) = k55 (30 * f + i)) → ScOK E f l k61 k55 k142 k143 sc → ScOK E f l' j61 j55 j142 j143 sc := by
  intro sc
  induction sc with
  | nil => intro _ _ _; trivial
  | cons x xs ih =>
    intro h1 h2 h
    obtain ⟨q1, q2, q3, ⟨tk, q4, q5, q6⟩, q7⟩ := h
    obtain ⟨r1, r2, r3⟩ := h1 xs.length (by simp)
    exact ⟨by omega, by rw [r1]; exact q2, by rw [r2]; exact q3, ⟨tk, by rw [r3]; exact q4, by rw [h2 x q1]; exact q5, q6⟩, ih (fun j hj => h1 j (by simp; omega)) h2 q7⟩
/-- what is let is of a base -/
def LtY (f s : Nat) (τ : jx_S) : Prop := ∃ y, y < 2 ∧ τ.1 57 (30 * f + s) = nI y
def LtT (f l s : Nat) (τ : jx_S) : Prop := s < l ∧ LtY f s τ
/-- what a case binds has the types of a list's parts -/
def CsT (f l : Nat) (τ ρ : jx_S) (k : Nat) : Prop := (ρ.1 112 k = nI 10 → ∃ s, ρ.1 117 k = nI s ∧ s + 1 < l ∧ τ.1 57 (30 * f + s) = nI 0 ∧ τ.1 57 (30 * f + (s + 1)) = nI 1) ∧ (ρ.1 112 k = nI 5 → ∃ s y, ρ.1 117 k = nI s ∧ s < l ∧ y < 2 ∧ τ.1 57 (30 * f + s) = nI y)
theorem CsT_keep {f l l' : Nat} {τ ρ τ' ρ' : jx_S} {k : Nat} (h : CsT f l τ ρ k) (h1 : ∀ j, j < 30 * f + l → τ'.1 57 j = τ.1 57 j) (h2 : ρ'.1 112 k = ρ.1 112 k) (h3 : ρ'.1 117 k = ρ.1 117 k) (hl : l ≤ l') : CsT f l' τ' ρ' k := ⟨fun q => by
  rw [h2] at q
  obtain ⟨s, a, b, c, d⟩ := h.1 q
  exact ⟨s, by rw [h3]; exact a, by omega, by rw [h1 _ (by omega)]; exact c, by rw [h1 _ (by omega)]; exact d⟩, fun q => by
  rw [h2] at q
  obtain ⟨s, y, a, b, c, d⟩ := h.2 q
  exact ⟨s, y, by rw [h3]; exact a, by omega, c, by rw [h1 _ (by omega)]; exact d⟩⟩
/-- both readers, open -/
def PA (E : jEn) (f a n l s : Nat) (τ : jx_S) : Prop := EnvC E τ ∧ τ.1 1 0 = 0 ∧ τ.1 5 6 = nI a ∧ τ.1 3 9 = nI n ∧ τ.1 5 7 = nI f ∧ τ.1 47 f = nI l ∧ τ.1 5 5 = nI s ∧ (τ.1 29 0 = 0 ∧ τ.1 23 0 = 0)
def PB (E : jEn) (f a n l s t dn dep : Nat) (ρ : jx_S) : Prop := EnvR E ρ ∧ ρ.1 106 4 = 0 ∧ ρ.1 106 41 = 1 ∧ ρ.1 106 40 = nI a ∧ ρ.1 106 25 = nI n ∧ ρ.1 106 38 = nI f ∧ ρ.1 106 49 = nI l ∧ ρ.1 106 52 = nI s ∧ ρ.1 106 45 = nI t ∧ ρ.1 106 47 = nI dn ∧ ρ.1 106 48 = nI dep
def PR (E : jEn) (f nf a n l : Nat) (sc : List Nat) (G : jGh) (t dn dep : Nat) (τ ρ : jx_S) : Prop :=
  EnvOK E ∧ PA E f a n l sc.length τ ∧ PB E f a n l sc.length t dn dep ρ ∧ (a ≤ eC E ∧ n ≤ a ∧ nf ≤ n ∧ f < 40 ∧ l ≤ 30 ∧ sc.length ≤ l ∧ dn ≤ n) ∧
  ScOK E f l (τ.1 61) (τ.1 55) (ρ.1 142) (ρ.1 143) sc ∧ (∀ i, i < l → ∃ ty, ty < 14 ∧ τ.1 57 (30 * f + i) = nI ty ∧ ρ.1 137 (30 * f + i) = nI ty ∧ τ.1 59 (30 * f + i) = 0) ∧ (∀ k, nf ≤ k → k < n → NodeOK E G τ ρ k ∧ gD G k ≤ l ∧ CsT f l τ ρ k)
/-- both have the same fault -/
def FR (t s a : Nat) (τ ρ : jx_S) : Prop := τ.1 1 0 ≠ 0 ∧ ρ.1 106 41 = 0 ∧ ρ.1 106 4 = τ.1 1 0 ∧ ρ.1 106 5 = τ.1 1 1 ∧ ρ.1 106 45 = nI t ∧ ρ.1 106 52 = nI s ∧ ρ.1 106 40 = nI a ∧ (a ≤ 1201 ∧ (τ.1 29 0 = 0 ∧ τ.1 23 0 = 0))
/-! behind a fault, the class -/
theorem told_v {τ : jx_S} (h : τ.1 1 0 ≠ 0) : v_cFau_isTold τ = 1 := if_neg h
theorem told_kind {τ : jx_S} (h : τ.1 1 0 ≠ 0) : v_cRea_kind τ = 0 := by unfold v_cRea_kind; rw [told_v h]; rfl
theorem told_tell {τ : jx_S} (h : τ.1 1 0 ≠ 0) (x : Int32) : p_cRea_tell x τ = some τ := by
  unfold p_cRea_tell p_cFau_tell
  rw [if_pos h]
  rfl
theorem told_pass {τ : jx_S} (h : τ.1 1 0 ≠ 0) {x : Int32} (hx : x ≠ 0) : p_cRea_pass x τ = some τ := by
  unfold p_cRea_pass
  rw [told_kind h, if_neg (fun q => hx q.symm), told_tell h]
  rfl
theorem told_base {τ : jx_S} (h : τ.1 1 0 ≠ 0) : p_cRea_readBase τ = some (0, τ) := by
  unfold p_cRea_readBase
  rw [told_kind h, told_tell h]
  rfl
theorem told_local {τ : jx_S} (h : τ.1 1 0 ≠ 0) (x : Int32) : p_cRea_readLocal x τ = some (0, τ) := by
  unfold p_cRea_readLocal p_cRea_readLocal_32
  rw [told_kind h, told_pass h (by decide), if_pos (by decide), Option.bind_some, told_v h]
  rfl
theorem told_addNode {τ : jx_S} (h : τ.1 1 0 ≠ 0) (x1 x2 x3 x4 x5 x6 : Int32) : p_cRea_addNode x1 x2 x3 x4 x5 x6 τ = some (0, τ) := by
  unfold p_cRea_addNode
  rw [told_v h]
  rfl
theorem told_addName {τ : jx_S} (h : τ.1 1 0 ≠ 0) (x1 x2 x3 : Int32) : p_cRea_addName x1 x2 x3 τ = some (0, τ) := by
  unfold p_cRea_addName
  rw [told_v h]
  rfl
theorem told_atom {rec : Int32 → jx_S → Option (Int32 × jx_S)} {τ : jx_S} (h : τ.1 1 0 ≠ 0) (x : Int32) : p_cRea_readAtom rec x τ = some (0, τ) := by
  unfold p_cRea_readAtom
  rw [told_kind h, told_tell h]
  rfl
theorem told_call {rec : Int32 → jx_S → Option (Int32 × jx_S)} {τ : jx_S} (h : τ.1 1 0 ≠ 0) (x : Int32) : p_cRea_readCall rec x τ = some (0, τ) := by
  unfold p_cRea_readCall
  rw [told_kind h, told_atom h]
  rfl
theorem told_term8 {rec : Int32 → jx_S → Option (Int32 × jx_S)} {τ : jx_S} (h : τ.1 1 0 ≠ 0) (x v i : Int32) (N : Nat) : jx_loop (N + 1) (fun s : Int32 × Int32 × Int32 × jx_S => p_cRea_readTerm_8_s rec s.1 s.2.1 s.2.2.1 (s.2.2.2)) (x, v, i, τ) = some (v, τ) := by
  refine jx_loop_out (X := some (v, τ)) ?_ N
  show p_cRea_readTerm_8_s rec x v i τ = _
  unfold p_cRea_readTerm_8_s
  rw [told_kind h]
  split <;> rfl
theorem told_term {rec : Int32 → jx_S → Option (Int32 × jx_S)} {τ : jx_S} (h : τ.1 1 0 ≠ 0) (x : Int32) : p_cRea_readTerm rec x τ = some (0, τ) := by
  unfold p_cRea_readTerm p_cRea_readTerm_8
  rw [told_call h, Option.bind_some]
  exact told_term8 h _ _ _ 99999999
theorem told_sum8 {rec : Int32 → jx_S → Option (Int32 × jx_S)} {τ : jx_S} (h : τ.1 1 0 ≠ 0) (x v i : Int32) (N : Nat) : jx_loop (N + 1) (fun s : Int32 × Int32 × Int32 × jx_S => p_cRea_readSum_8_s rec s.1 s.2.1 s.2.2.1 (s.2.2.2)) (x, v, i, τ) = some (v, τ) := by
  refine jx_loop_out (X := some (v, τ)) ?_ N
  show p_cRea_readSum_8_s rec x v i τ = _
  unfold p_cRea_readSum_8_s
  rw [told_kind h]
  split <;> rfl
theorem told_sum {rec : Int32 → jx_S → Option (Int32 × jx_S)} {τ : jx_S} (h : τ.1 1 0 ≠ 0) (x : Int32) : p_cRea_readSum rec x τ = some (0, τ) := by
  unfold p_cRea_readSum p_cRea_readSum_8
  rw [told_term h, Option.bind_some]
  exact told_sum8 h _ _ _ 99999999
theorem told_expr {τ : jx_S} (h : τ.1 1 0 ≠ 0) (n : Nat) (x : Int32) : p_cRea_readExpression (n + 1) x τ = some (0, τ) := by
  rw [p_cRea_readExpression]
  unfold p_cRea_readExpression_b p_cRea_readComparison
  rw [told_kind h, told_sum h, Option.bind_some, told_kind h, told_tell h]
  split <;> rfl
/-! behind a fault, the reference -/
theorem shut_expect {ρ : jx_S} (h : ρ.1 106 41 = 0) (x : Int32) : p_r_expect x ρ = some (jx_i ρ 106 40 (ρ.1 106 40 + 0)) := by
  unfold p_r_expect p_r_expect_29
  rw [if_pos h, if_pos h]
theorem shut_declare {ρ : jx_S} (h : ρ.1 106 41 = 0) (x : Int32) : p_r_declare x ρ = some (ρ.1 106 49 - 1, ρ) := by
  unfold p_r_declare p_r_declare_29 p_r_declare_54
  rw [if_pos h, if_pos h, if_pos h]
theorem shut_base {ρ : jx_S} (h : ρ.1 106 41 = 0) {a : Nat} (ha : ρ.1 106 40 = nI a) (h2 : a < 1202) : ∃ w, p_r_baseType ρ = some (w, jx_i ρ 106 40 (ρ.1 106 40 + 0)) := by
  unfold p_r_baseType p_r_baseType_18 p_r_baseType_61
  rw [if_pos h, if_pos h, if_pos h, if_neg (by rw [ha]; exact nI_in h2 (by omega))]
  split
  · exact ⟨_, rfl⟩
  · exact ⟨_, rfl⟩
