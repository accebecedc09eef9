/-! TYPING, 11: a node with all below it. -/
def tyC : Int32 × Int32 × Int32 × jx_S → Option ((Int32 × Int32 × Int32 × jx_S) ⊕ jx_S) := fun s => p_cTyp_checkBody_36_s s.1 s.2.1 s.2.2.1 (s.2.2.2)
def tyR : Int32 × jx_S → Option ((Int32 × jx_S) ⊕ ((Int32 × jx_S) ⊕ (Int32 × jx_S))) := fun s => p_r_types_36_s s.1 (s.2)
/-- what typing the nodes from a to below b leaves alone -/
def TF (a b q : Nat) (τ ρ τ' ρ' : jx_S) : Prop :=
  (∀ r, r ≠ 37 → r ≠ 33 → τ'.1 r = τ.1 r) ∧ τ'.2 = τ.2 ∧ (∀ j, (j < a ∨ b ≤ j) → τ'.1 33 (j + 1) = τ.1 33 (j + 1) ∧ τ'.1 37 (j + 1) = τ.1 37 (j + 1)) ∧ (∀ j, ρ.1 112 j ≠ nI 1 ∨ ρ.1 117 j ≠ -1 → τ'.1 33 (j + 1) = τ.1 33 (j + 1)) ∧
  (∀ j, j ≠ 55 → ρ'.1 106 j = ρ.1 106 j) ∧ (∀ j, j < q → ρ'.1 144 j = ρ.1 144 j ∧ ρ'.1 145 j = ρ.1 145 j) ∧ (∀ j, (j < a ∨ b ≤ j) → ρ'.1 123 j = ρ.1 123 j ∧ ρ'.1 124 j = ρ.1 124 j) ∧ (∀ r, r ∉ [106, 123, 124, 144, 145] → ρ'.1 r = ρ.1 r) ∧ ρ'.2 = ρ.2
theorem TF_refl {a b q : Nat} {τ ρ : jx_S} : TF a b q τ ρ τ ρ := ⟨fun _ _ _ => rfl, rfl, fun _ _ => ⟨rfl, rfl⟩, fun _ _ => rfl, fun _ _ => rfl, fun _ _ => ⟨rfl, rfl⟩, fun _ _ => ⟨rfl, rfl⟩, fun _ _ => rfl, rfl⟩
theorem TF_trans {a b q a' b' q' A B Q : Nat} {τ ρ τ1 ρ1 τ2 ρ2 : jx_S} (h : TF a b q τ ρ τ1 ρ1) (k : TF a' b' q' τ1 ρ1 τ2 ρ2) (h1 : A ≤ a) (h2 : A ≤ a') (h3 : b ≤ B) (h4 : b' ≤ B) (h5 : Q ≤ q) (h6 : Q ≤ q') : TF A B Q τ ρ τ2 ρ2 := by
  obtain ⟨a1, a2, a3, a4, a5, a6, a7, a8, a9⟩ := h
  obtain ⟨b1, b2, b3, b4, b5, b6, b7, b8, b9⟩ := k
  refine ⟨fun r e1 e2 => (b1 r e1 e2).trans (a1 r e1 e2), b2.trans a2, fun j hj => ⟨(b3 j (by omega)).1.trans (a3 j (by omega)).1, (b3 j (by omega)).2.trans (a3 j (by omega)).2⟩, fun j hj => (b4 j (by rw [a8 112 (by decide), a8 117 (by decide)]; exact hj)).trans (a4 j hj), fun j hj => (b5 j hj).trans (a5 j hj), fun j hj => ⟨(b6 j (by omega)).1.trans (a6 j (by omega)).1, (b6 j (by omega)).2.trans (a6 j (by omega)).2⟩, fun j hj => ⟨(b7 j (by omega)).1.trans (a7 j (by omega)).1, (b7 j (by omega)).2.trans (a7 j (by omega)).2⟩, fun r hr => (b8 r hr).trans (a8 r hr), b9.trans a9⟩
theorem TF_node {E : jEn} {G : jGh} {a b q k : Nat} {τ ρ τ' ρ' : jx_S} (h : TF a b q τ ρ τ' ρ') (hn : NodeS E G τ ρ k) : NodeS E G τ' ρ' k := by
  obtain ⟨a1, a2, a3, a4, a5, a6, a7, a8, a9⟩ := h
  refine NodeS_keep (fun r hr => ?_) (fun r hr => ?_) a4 hn
  · unfold crS at hr
    exact a1 r (fun z => by subst z; revert hr; decide) (fun z => by subst z; revert hr; decide)
  · unfold rrS at hr
    refine a8 r (fun z => ?_)
    simp only [List.mem_cons, List.not_mem_nil, or_false] at z
    rcases z with z | z | z | z | z <;> (subst z; revert hr; decide)
/-- what stands while a function is typed -/
def TyP (E : jEn) (F : Nat) (pN bN lN' tk' : Nat → Nat) (ty : Nat → Nat → Nat) (f : Nat) (τ ρ : jx_S) : Prop := EnvC E τ ∧ EnvR E ρ ∧ FD E F pN bN lN' tk' ty τ ρ ∧ τ.1 4 10 = nI F ∧ ρ.1 106 38 = nI F ∧ τ.1 1 0 = 0 ∧ ρ.1 106 4 = 0 ∧ ρ.1 106 56 = nI f ∧ τ.1 29 0 = 0
theorem FD_keep {E : jEn} {F : Nat} {pN bN lN' tk' : Nat → Nat} {ty : Nat → Nat → Nat} {τ ρ τ' ρ' : jx_S} (h : FD E F pN bN lN' tk' ty τ ρ) (h1 : same [41, 43, 45, 57] τ τ') (h2 : same [126, 127, 128, 135, 137] ρ ρ') : FD E F pN bN lN' tk' ty τ' ρ' := by
  unfold FD at *
  rw [h1 41 (by decide), h1 43 (by decide), h1 45 (by decide), h1 57 (by decide), h2 126 (by decide), h2 127 (by decide), h2 128 (by decide), h2 135 (by decide), h2 137 (by decide)]
  exact h
theorem TyP_keep {E : jEn} {F : Nat} {pN bN lN' tk' : Nat → Nat} {ty : Nat → Nat → Nat} {f a b q : Nat} {τ ρ τ' ρ' : jx_S} (h : TyP E F pN bN lN' tk' ty f τ ρ) (k : TF a b q τ ρ τ' ρ') : TyP E F pN bN lN' tk' ty f τ' ρ' := by
  obtain ⟨p1, p2, p3, p4, p5, p6, p7, p8, p9⟩ := h
  obtain ⟨a1, a2, a3, a4, a5, a6, a7, a8, a9⟩ := k
  refine ⟨EnvC_keep p1 (a1 15 (by decide) (by decide)) (a1 17 (by decide) (by decide)) (by rw [a2]), EnvR_keep p2 (a8 107 (by decide)) (a8 108 (by decide)) (a8 109 (by decide)) (a8 110 (by decide)) (a5 5 (by decide)), FD_keep p3 (fun r hr => a1 r (fun z => by subst z; revert hr; decide) (fun z => by subst z; revert hr; decide)) (fun r hr => a8 r (fun z => ?_)), by rw [a1 4 (by decide) (by decide)]; exact p4, by rw [a5 38 (by decide)]; exact p5, by rw [a1 1 (by decide) (by decide)]; exact p6, by rw [a5 4 (by decide)]; exact p7, by rw [a5 56 (by decide)]; exact p8, by rw [a1 29 (by decide) (by decide)]; exact p9⟩
  simp only [List.mem_cons, List.not_mem_nil, or_false] at z
  rcases z with z | z | z | z | z <;> (subst z; revert hr; decide)
/-- a typed node -/
def TyD (E : jEn) (G : jGh) (F : Nat) (pN bN : Nat → Nat) (ty : Nat → Nat → Nat) (f : Nat) (τ ρ : jx_S) (k : Nat) : Prop := ∃ (o tk m lo s : Nat) (cs : Nat → Nat) (w : Nat) (wt : Nat → Nat), NdS E G τ ρ k o tk m lo s cs ∧ (∀ i, i < m → NdC E G τ ρ k o m lo s cs i) ∧ w < 14 ∧ τ.1 37 (k + 1) = nI w ∧ ρ.1 124 k = nI w ∧ okN F pN bN ty f o m s w wt (τ.1 33 (k + 1)) (ρ.1 117 k) (ρ.1 123 k) ∧ ∀ i, i < m → wt i < 14 ∧ τ.1 37 (cs i + 1) = nI (wt i)
theorem NdS_keep {E : jEn} {G : jGh} {τ ρ τ' ρ' : jx_S} {a b q : Nat} (h : TF a b q τ ρ τ' ρ') {k o tk m lo s : Nat} {cs : Nat → Nat} (hA : NdS E G τ ρ k o tk m lo s cs) : NdS E G τ' ρ' k o tk m lo s cs := by
  obtain ⟨a1, a2, a3, h3, a5, a6, a7, a8, a9⟩ := h
  have n1 : ∀ x : Nat, x < 2 ^ 31 → nI x ≠ -1 := fun x hx q => by
    have := mF_eq hx
    rw [show (-nI 1 : Int32) = -1 from rfl] at this
    rw [q] at this
    simp at this
  unfold NdS at hA ⊢
  rw [a1 25 (by decide) (by decide), a1 23 (by decide) (by decide), a1 27 (by decide) (by decide), a1 35 (by decide) (by decide), a8 112 (by decide), a8 113 (by decide), a8 117 (by decide), a8 121 (by decide), a8 119 (by decide), a8 114 (by decide), a8 115 (by decide), a8 116 (by decide), a8 118 (by decide)]
  obtain ⟨c1, c2, c3, c4, c5, c6, c7, c8, c9, c10, c11, c12, c13, c14, c15, c16, c17, c18, c19, c20, c21, c22, c23, c24⟩ := hA
  refine ⟨c1, c2, c3, c4, c5, c6, c7, c8, c9, c10, c11, c12, c13, c14, fun q => ?_, c16, c17, c18, fun q => ?_, fun q => ?_, c21, c22, c23, c24⟩
  · rcases c15 q with q2 | ⟨q2, q3, q4⟩
    · exact Or.inl q2
    · refine Or.inr ⟨q2, ?_, q4⟩
      rw [h3 k (Or.inr (by rw [q2]; exact n1 s (by have := c21 s q4; omega)))]; exact q3
  · obtain ⟨q2, q3, q4⟩ := c19 q
    refine ⟨q2, ?_, q4⟩
    rw [h3 k (Or.inl (by rw [c1, q]; decide))]; exact q3
  · obtain ⟨q2, q3, q4, q5⟩ := c20 q
    refine ⟨q2, q3, ?_, q5⟩
    rw [h3 k (Or.inl (by rw [c1, q]; decide))]; exact q4
theorem NdC_keep {E : jEn} {G : jGh} {τ ρ τ' ρ' : jx_S} {a b q : Nat} (h : TF a b q τ ρ τ' ρ') {k o m lo s i : Nat} {cs : Nat → Nat} (hc : NdC E G τ ρ k o m lo s cs i) : NdC E G τ' ρ' k o m lo s cs i := by
  obtain ⟨a1, a2, a3, h3, a5, a6, a7, a8, a9⟩ := h
  unfold NdC at hc ⊢
  rw [a1 31 (by decide) (by decide), a1 29 (by decide) (by decide), a8 121 (by decide), a8 122 (by decide), a8 120 (by decide)]
  exact hc
theorem TyD_keep {E : jEn} {G : jGh} {F : Nat} {pN bN : Nat → Nat} {ty : Nat → Nat → Nat} {f a b q k : Nat} {τ ρ τ' ρ' : jx_S} (h : TyD E G F pN bN ty f τ ρ k) (t : TF a b q τ ρ τ' ρ') (hk : k < a) : TyD E G F pN bN ty f τ' ρ' k := by
  obtain ⟨o, tk, m, lo, s, cs, w, wt, h1, h2, h3, h4, h5, h6, h7⟩ := h
  obtain ⟨a1, a2, a3, a4, a5, a6, a7, a8, a9⟩ := id t
  refine ⟨o, tk, m, lo, s, cs, w, wt, NdS_keep t h1, fun i hi => NdC_keep t (h2 i hi), h3, by rw [(a3 k (Or.inl hk)).2]; exact h4, by rw [(a7 k (Or.inl hk)).2]; exact h5, by rw [(a3 k (Or.inl hk)).1, (a7 k (Or.inl hk)).1, a8 117 (by decide)]; exact h6, fun i hi => ⟨(h7 i hi).1, ?_⟩⟩
  rw [(a3 (cs i) (Or.inl (by have := (h2 i hi).1; omega))).2]
  exact (h7 i hi).2
/-- the same fault of both sides -/
def TyX (τ ρ τ' ρ' : jx_S) : Prop := ∃ P n, (n = 6 ∨ n = 7) ∧ TSno τ ρ P n τ' ρ'
theorem TyX_keep {a b q : Nat} {τ ρ τ1 ρ1 τ2 ρ2 : jx_S} (t : TF a b q τ ρ τ1 ρ1) (h : TyX τ1 ρ1 τ2 ρ2) : TyX τ ρ τ2 ρ2 := by
  obtain ⟨P, n, h1, h2, h3, h4, h5, h6, h7, h8⟩ := h
  obtain ⟨a1, a2, a3, a4, a5, a6, a7, a8, a9⟩ := t
  exact ⟨P, n, h1, h2, h3, fun r e1 e2 e3 => (h4 r e1 e2 e3).trans (a1 r e1 e2), h5.trans a2, h6, h7, fun r hr => (h8 r hr).trans (a8 r hr)⟩
theorem TSok_TF {τ ρ τ' ρ' : jx_S} {x w q m lo o : Nat} {cs wt : Nat → Nat} {g : Option Nat} (h : TSok τ ρ x w q m cs wt g τ' ρ') (hc : ∀ i, i < m → lo ≤ cs i ∧ cs i < x) (hlo : lo ≤ x) (hg : g ≠ none → o = 1 ∧ ρ.1 117 x = -1) (r112 : ρ.1 112 x = nI o) : TF lo (x + 1) q τ ρ τ' ρ' := by
  obtain ⟨a1, a2, a3, a4, a5, a6, a7, a8, a9, a10, a11, a12, a13, a14, a15⟩ := h
  refine ⟨a1, a2, fun j hj => ⟨a3 (j + 1) (by omega), a7 (j + 1) (by omega) (fun i hi => by have := hc i hi; omega)⟩, fun j hj => ?_, a9, a11, fun j hj => ⟨a13 j (by omega), by rw [a12, u_ne (by omega)]⟩, a14, a15⟩
  by_cases hx : j = x
  · cases hgg : g with
    | none => rw [a4 hgg]
    | some gg =>
      obtain ⟨z1, z2⟩ := hg (by rw [hgg]; simp)
      subst hx
      rw [r112, z1] at hj
      rcases hj with hj | hj
      · exact absurd rfl hj
      · exact absurd z2 hj
  · exact a3 (j + 1) (by omega)
