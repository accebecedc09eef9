/-! TYPING, 10: the way through the nodes; one node of any kind. -/
def Up (τ : jx_S) (t : Nat) : Nat → Nat → Prop
  | 0, i => τ.1 29 i = nI t ∧ (t ≠ 0 ∨ i = 0)
  | d + 1, i => i ≠ 0 ∧ τ.1 29 i = 0 ∧ ∃ j, τ.1 31 i = nI j ∧ j ≤ 1200 ∧ Up τ t d j
theorem Up_keep {τ τ' : jx_S} {t : Nat} (h1 : τ'.1 29 = τ.1 29) (h2 : τ'.1 31 = τ.1 31) : ∀ d i, Up τ t d i → Up τ' t d i := by
  intro d
  induction d with
  | zero => intro i h; obtain ⟨a, b⟩ := h; exact ⟨by rw [h1]; exact a, b⟩
  | succ d ih =>
    intro i h
    obtain ⟨a, b, j, c, e, f⟩ := h
    exact ⟨a, by rw [h1]; exact b, j, by rw [h2]; exact c, e, ih j f⟩
theorem up_loop {τ : jx_S} {t : Nat} (ht : t ≤ 1200) : ∀ d i u N, Up τ t d i → i ≤ 1200 → d + u ≤ 1200 → d < N → jx_loop N (fun s : Int32 × Int32 × jx_S => p_cTre_following_24_s s.1 s.2.1 (s.2.2)) (nI i, nI u, τ) = some (nI t, τ) := by
  intro d
  induction d with
  | zero =>
    intro i u N h hi hu hN
    obtain ⟨N, rfl⟩ : ∃ K, N = K + 1 := ⟨N - 1, by omega⟩
    obtain ⟨h1, h2⟩ := h
    refine jx_loop_out (X := some (nI t, τ)) ?_ N
    show p_cTre_following_24_s (nI i) (nI u) τ = _
    unfold p_cTre_following_24_s p_cTre_following_61
    rw [jI_at_in (by omega) (by omega), h1]
    by_cases hu2 : 1200 ≤ u
    · rw [if_pos (show (1200 : Int32) ≤ nI u from (nI_le hu2 (by omega) : nI 1200 ≤ nI u))]
    · rw [if_neg (show ¬ (1200 : Int32) ≤ nI u from (nI_ge (by omega) (by omega) : ¬ nI 1200 ≤ nI u))]
      by_cases hi0 : i = 0
      · rw [if_pos (by rw [hi0]; rfl)]
      · rw [if_neg (nI_ne0 (by omega) (by omega)), if_pos (nI_ne0 (by omega) (by omega))]
  | succ d ih =>
    intro i u N h hi hu hN
    obtain ⟨N, rfl⟩ : ∃ K, N = K + 1 := ⟨N - 1, by omega⟩
    obtain ⟨h1, h2, j, h3, h4, h5⟩ := h
    rw [jx_loop_inl (s1 := (nI j, nI (u + 1), τ)) (by
      show p_cTre_following_24_s (nI i) (nI u) τ = _
      unfold p_cTre_following_24_s
      rw [if_neg (show ¬ (1200 : Int32) ≤ nI u from (nI_ge (by omega) (by omega) : ¬ nI 1200 ≤ nI u)), if_neg (nI_ne0 (by omega) (by omega)), jI_at_in (by omega) (by omega), h2, if_neg (by decide), jI_at_in (by omega) (by omega), h3, ← nI_succ])]
    exact ih j (u + 1) N h5 h4 (by omega) (by omega)
theorem q_following {τ : jx_S} {x m t d : Nat} {cs : Nat → Nat} (hx : x < 1200) (h27 : τ.1 27 (x + 1) = nI (if 0 < m then cs 0 + 1 else 0)) (hcs : ∀ i, i < m → cs i < 1200) (hU : Up τ t d (x + 1)) (hd : d ≤ 1200) (ht : t ≤ 1200) : p_cTre_following (nI (x + 1)) τ = some (nI (if 0 < m then cs 0 + 1 else t), τ) := by
  unfold p_cTre_following
  rw [jI_at_in (by omega) (by omega), h27]
  by_cases hm : 0 < m
  · have := hcs 0 hm
    rw [if_pos hm, if_neg (nI_ne0 (by omega) (by omega)), if_pos hm]
  · rw [if_neg hm, if_pos (show nI 0 = 0 from rfl), if_neg hm]
    unfold p_cTre_following_24
    exact up_loop ht d (x + 1) 0 100000000 hU (by omega) (by omega) (by omega)
/-- the types of a node and of its parts fit -/
def okN (F : Nat) (pN bN : Nat → Nat) (ty : Nat → Nat → Nat) (f o m s w : Nat) (wt : Nat → Nat) (c33 r117 r123 : Int32) : Prop :=
  (o = 2 ∧ w = 0) ∨ (o = 13 ∧ w = 1) ∨ (o = 15 ∧ w < 2) ∨ ((o = 19 ∨ (23 ≤ o ∧ o ≤ 27)) ∧ w = 0 ∧ wt 0 = 0 ∧ wt 1 = 0) ∨ (o = 14 ∧ w = 1 ∧ wt 0 = 0 ∧ wt 1 = 1) ∨ (o = 5 ∧ w < 2 ∧ wt 0 = ty f s ∧ wt 1 = w) ∨ (o = 7 ∧ w < 2 ∧ wt 0 = 0 ∧ wt 1 = w ∧ wt 2 = w) ∨ (o = 10 ∧ w < 2 ∧ wt 0 = 1 ∧ wt 1 = w ∧ wt 2 = w) ∨
  (o = 1 ∧ r117 = nI s ∧ s < 30 ∧ m ≤ tyA (ty f s) ∧ tyL (ty f s) m = w ∧ ∀ i, i < m → wt i = tyP (ty f s) i) ∨
  (o = 1 ∧ r117 = -1 ∧ ∃ g, g < F ∧ c33 = nI g ∧ r123 = nI g ∧ m ≤ pN g ∧ lfv (pN g) m (bN g) (ty g m) (ty g (m + 1)) = nI w ∧ ∀ i, i < m → wt i = ty g i)
def TyOne (E : jEn) (τ ρ : jx_S) (x w q o tk m s f F : Nat) (cs pN bN : Nat → Nat) (ty : Nat → Nat → Nat) : Prop := ∃ τ' ρ', p_cTyp_checkNode (nI f) (nI (x + 1)) τ = some τ' ∧ ((p_r_check (nI x) (nI w) ρ = some (0, ρ') ∧ ∃ n : Int32, (n = 6 ∨ n = 7) ∧ TSno τ ρ (eP E tk) n τ' ρ') ∨ (p_r_check (nI x) (nI w) ρ = some (1, ρ') ∧ ∃ wt g, TSok τ ρ x w q m cs wt g τ' ρ' ∧ (∀ i, i < m → wt i < 14) ∧ okN F pN bN ty f o m s w wt (τ'.1 33 (x + 1)) (ρ.1 117 x) (ρ'.1 123 x) ∧ (g ≠ none → o = 1 ∧ ρ.1 117 x = -1)))
theorem ty_wrap {E : jEn} {τ ρ : jx_S} {x w q o tk m s f F : Nat} {cs pN bN : Nat → Nat} {ty : Nat → Nat → Nat} (WT : Nat → Nat) (OK : Prop) (h : ∃ τ' ρ', p_cTyp_checkNode (nI f) (nI (x + 1)) τ = some τ' ∧ ((p_r_check (nI x) (nI w) ρ = some (0, ρ') ∧ TSno τ ρ (eP E tk) 7 τ' ρ') ∨ (p_r_check (nI x) (nI w) ρ = some (1, ρ') ∧ TSok τ ρ x w q m cs WT none τ' ρ' ∧ OK))) (hW : ∀ i, i < m → WT i < 14) (hO : ∀ c33 r123, OK → okN F pN bN ty f o m s w WT c33 (ρ.1 117 x) r123) : TyOne E τ ρ x w q o tk m s f F cs pN bN ty := by
  obtain ⟨τ', ρ', e1, e2⟩ := h
  refine ⟨τ', ρ', e1, ?_⟩
  rcases e2 with ⟨e2, e3⟩ | ⟨e2, e3, e4⟩
  · exact Or.inl ⟨e2, 7, Or.inr rfl, e3⟩
  · exact Or.inr ⟨e2, WT, none, e3, hW, hO _ _ e4, fun z => absurd rfl z⟩
theorem nd_children {E : jEn} {G : jGh} {τ ρ : jx_S} {x o m lo s : Nat} {cs : Nat → Nat} (hx : x < 1200) (hN : ∀ i, i < m → NdC E G τ ρ x o m lo s cs i) : (∀ j, j < m → cs j < 1200 ∧ τ.1 29 (cs j + 1) = nI (if j + 1 < m then cs (j + 1) + 1 else 0)) ∧ (∀ i j, i < j → j < m → cs i < cs j) ∧ m < 1200 := by
  have hcs : ∀ j, j < m → cs j < 1200 ∧ τ.1 29 (cs j + 1) = nI (if j + 1 < m then cs (j + 1) + 1 else 0) := fun j hj => ⟨by have := (hN j hj).1; omega, (hN j hj).2.2.2.2.2.1⟩
  have hinc : ∀ d i, i + d + 1 < m → cs i < cs (i + d + 1) := by
    intro d
    induction d with
    | zero =>
      intro i hi
      have := (hN (i + 1) (by omega)).2.2.2.1 (by omega)
      rw [Nat.add_sub_cancel] at this
      exact this
    | succ d ih =>
      intro i hi
      have h1 := ih i (by omega)
      have h2 := (hN (i + (d + 1) + 1) hi).2.2.2.1 (by omega)
      rw [Nat.add_sub_cancel] at h2
      have h3 : i + d + 1 = i + (d + 1) := by omega
      rw [h3] at h1
      omega
  have hlt : ∀ i j, i < j → j < m → cs i < cs j := fun i j hij hj => by
    have := hinc (j - i - 1) i (by omega)
    rw [show i + (j - i - 1) + 1 = j by omega] at this
    exact this
  have hmx : m < 1200 := by
    rcases Nat.lt_or_ge m 2 with z | z
    · omega
    · have h1 : ∀ i, i < m → i ≤ cs i := by
        intro i
        induction i with
        | zero => intro _; omega
        | succ i ih =>
          intro hi
          have a1 := ih (by omega)
          have a2 := hinc 0 i (by omega)
          have : i + 0 + 1 = i + 1 := by omega
          rw [this] at a2
          omega
      have a1 := h1 (m - 1) (by omega)
      have a2 := (hN (m - 1) (by omega)).1
      omega
  exact ⟨hcs, hlt, hmx⟩
theorem type_name {E : jEn} (hE : EnvOK E) {G : jGh} {τ ρ : jx_S} {x w q o tk m lo s f F : Nat} {cs pN bN lN' tk' : Nat → Nat} {ty : Nat → Nat → Nat} (hC : EnvC E τ) (hR : EnvR E ρ) (hD : FD E F pN bN lN' tk' ty τ ρ) (hF : F ≤ 40) (hf : f < F) (h10 : τ.1 4 10 = nI F) (h38 : ρ.1 106 38 = nI F) (hx : x < 1200) (hA : NdS E G τ ρ x o tk m lo s cs) (hN : ∀ i, i < m → NdC E G τ ρ x o m lo s cs i) (hs1 : o = 1 → gV G x s → s < lN' f) (hs5 : o = 5 → s < lN' f) (hw : w < 14) (h37 : τ.1 37 (x + 1) = nI w) (h0 : τ.1 1 0 = 0) (h4 : ρ.1 106 4 = 0) (h55 : ρ.1 106 55 = nI q) (hq : q + m + 3 < 3000) (h56 : ρ.1 106 56 = nI f) (ho : o = 1) : TyOne E τ ρ x w q o tk m s f F cs pN bN ty := by
  obtain ⟨c1, c2, c3, c4, c5, c6, c7, c8, c9, c10, c11, c12, c13, c14, c15, c16, c17, c18, c19, c20, c21, c22, c23, c24⟩ := hA
  obtain ⟨hcs, hlt', hmx⟩ := nd_children hx hN
  have hlt : ∀ i j, i < j → j < m → cs i ≠ cs j := fun i j h1 h2 => by have := hlt' i j h1 h2; omega
  obtain ⟨d1, d2, d3, d4, d5, d6, d7, d8, d9, d10, _⟩ := hD f hf
  clear c20 c21 c22 c23 c24 c8 c9 c10 c11
  subst ho
  rw [if_pos rfl] at c7 c13 c14
  rcases c15 rfl with r117 | ⟨r117, c33, hv⟩
  · rw [if_pos r117] at c7
    obtain ⟨τ', ρ', e1, e2⟩ := ty_call (f := f) hE hC hR hD hF h10 h38 hx c1 c2 c3 c4 c5 c7 c12 c13 c14 c16 hcs (fun i hi => (hN i (by omega)).2.2.2.2.2.2.2.1 rfl hi) hlt hmx hw h37 h0 h4 h55 (by omega) r117
    refine ⟨τ', ρ', e1, ?_⟩
    rcases e2 with ⟨e2, e3⟩ | ⟨e2, g, e3, e4, e5, e6⟩
    · refine Or.inl ⟨e2, ?_⟩
      rcases e3 with e3 | e3
      · exact ⟨6, Or.inl rfl, e3⟩
      · exact ⟨7, Or.inr rfl, e3⟩
    · obtain ⟨g1, g2, g3, g4, g5, g6, g7, g8, g9, _⟩ := hD g e3
      obtain ⟨t1, t2⟩ := e4.2.2.2.2.1 g rfl
      refine Or.inr ⟨e2, fun i => ty g i, some g, e4, fun i hi => (g9 i (by omega)).1, ?_, fun _ => ⟨rfl, r117⟩⟩
      unfold okN
      exact Or.inr (Or.inr (Or.inr (Or.inr (Or.inr (Or.inr (Or.inr (Or.inr (Or.inr ⟨rfl, r117, g, e3, t1, t2, e5, e6, fun _ _ => rfl⟩))))))))
  · have hs := hs1 rfl hv
    have nm : ¬ nI s = (-1 : Int32) := fun z => by
      have := mF_eq (show s < 2 ^ 31 by omega)
      rw [show (-nI 1 : Int32) = -1 from rfl, z] at this
      simp at this
    rw [if_neg (by rw [r117]; exact nm)] at c7
    obtain ⟨y1, y2, y3⟩ := d9 s hs
    refine ty_wrap (fun i => tyP (ty f s) i) (m ≤ tyA (ty f s) ∧ tyL (ty f s) m = w) (ty_local hE hC hR hx c1 c2 c3 c4 c7 c12 c13 c14 c16 hcs (fun i hi => (hN i (by omega)).2.2.2.2.2.2.2.1 rfl hi) hlt hmx hw h37 h0 h4 h55 (by omega) (by omega) (by omega) r117 c33 y1 y2 y3 h56) (fun i hi => ?_) (fun c33' r123 h => Or.inr (Or.inr (Or.inr (Or.inr (Or.inr (Or.inr (Or.inr (Or.inr (Or.inl ⟨rfl, r117, (by omega), h.1, h.2, fun _ _ => rfl⟩)))))))))
    by_cases hi3 : i < 3
    · exact (ty_p0 (ty f s) y1 i hi3).2.1
    · show tyP (ty f s) i < 14
      unfold tyP
      split
      · omega
      · split
        · rw [if_neg (by omega)]; omega
        · rw [if_neg (by omega), if_neg (by omega)]; omega
theorem type_k0 {E : jEn} (hE : EnvOK E) {G : jGh} {τ ρ : jx_S} {x w q o tk m lo s f F : Nat} {cs pN bN lN' tk' : Nat → Nat} {ty : Nat → Nat → Nat} (hC : EnvC E τ) (hR : EnvR E ρ) (hD : FD E F pN bN lN' tk' ty τ ρ) (hF : F ≤ 40) (hf : f < F) (h10 : τ.1 4 10 = nI F) (h38 : ρ.1 106 38 = nI F) (hx : x < 1200) (hA : NdS E G τ ρ x o tk m lo s cs) (hN : ∀ i, i < m → NdC E G τ ρ x o m lo s cs i) (hs1 : o = 1 → gV G x s → s < lN' f) (hs5 : o = 5 → s < lN' f) (hw : w < 14) (h37 : τ.1 37 (x + 1) = nI w) (h0 : τ.1 1 0 = 0) (h4 : ρ.1 106 4 = 0) (h55 : ρ.1 106 55 = nI q) (hq : q + m + 3 < 3000) (h56 : ρ.1 106 56 = nI f) (z : (o = 2 ∧ m = 0)) : TyOne E τ ρ x w q o tk m s f F cs pN bN ty := by
  obtain ⟨c1, c2, c3, c4, c5, c6, c7, c8, c9, c10, c11, c12, c13, c14, c15, c16, c17, c18, c19, c20, c21, c22, c23, c24⟩ := hA
  obtain ⟨hcs, hlt', hmx⟩ := nd_children hx hN
  have hlt : ∀ i j, i < j → j < m → cs i ≠ cs j := fun i j h1 h2 => by have := hlt' i j h1 h2; omega
  obtain ⟨d1, d2, d3, d4, d5, d6, d7, d8, d9, d10, _⟩ := hD f hf
  clear c20 c21 c22 c23 c24 c8 c9 c10 c11
  have ho : o ≠ 1 := by omega
  rw [if_neg ho] at c7
  exact ty_wrap (fun _ => 0) (w = 0) (ty_sign hE hC hR hx c1 c2 c3 c4 c7 c12 hcs hlt hw h37 h0 h4 h55 (by omega) (Or.inl z)) (fun i _ => by show 0 < 14; omega) (fun _ _ h => Or.inl ⟨z.1, h⟩)
theorem type_k1 {E : jEn} (hE : EnvOK E) {G : jGh} {τ ρ : jx_S} {x w q o tk m lo s f F : Nat} {cs pN bN lN' tk' : Nat → Nat} {ty : Nat → Nat → Nat} (hC : EnvC E τ) (hR : EnvR E ρ) (hD : FD E F pN bN lN' tk' ty τ ρ) (hF : F ≤ 40) (hf : f < F) (h10 : τ.1 4 10 = nI F) (h38 : ρ.1 106 38 = nI F) (hx : x < 1200) (hA : NdS E G τ ρ x o tk m lo s cs) (hN : ∀ i, i < m → NdC E G τ ρ x o m lo s cs i) (hs1 : o = 1 → gV G x s → s < lN' f) (hs5 : o = 5 → s < lN' f) (hw : w < 14) (h37 : τ.1 37 (x + 1) = nI w) (h0 : τ.1 1 0 = 0) (h4 : ρ.1 106 4 = 0) (h55 : ρ.1 106 55 = nI q) (hq : q + m + 3 < 3000) (h56 : ρ.1 106 56 = nI f) (z : ((o = 19 ∨ (23 ≤ o ∧ o ≤ 27)) ∧ m = 2)) : TyOne E τ ρ x w q o tk m s f F cs pN bN ty := by
  obtain ⟨c1, c2, c3, c4, c5, c6, c7, c8, c9, c10, c11, c12, c13, c14, c15, c16, c17, c18, c19, c20, c21, c22, c23, c24⟩ := hA
  obtain ⟨hcs, hlt', hmx⟩ := nd_children hx hN
  have hlt : ∀ i j, i < j → j < m → cs i ≠ cs j := fun i j h1 h2 => by have := hlt' i j h1 h2; omega
  obtain ⟨d1, d2, d3, d4, d5, d6, d7, d8, d9, d10, _⟩ := hD f hf
  clear c20 c21 c22 c23 c24 c8 c9 c10 c11
  have ho : o ≠ 1 := by omega
  rw [if_neg ho] at c7
  exact ty_wrap (fun _ => 0) (w = 0) (ty_sign hE hC hR hx c1 c2 c3 c4 c7 c12 hcs hlt hw h37 h0 h4 h55 (by omega) (Or.inr ⟨z.1, z.2, c16 (by omega), c17 ho (by omega)⟩)) (fun i _ => by show 0 < 14; omega) (fun _ _ h => Or.inr (Or.inr (Or.inr (Or.inl ⟨z.1, h, rfl, rfl⟩))))
theorem type_k2 {E : jEn} (hE : EnvOK E) {G : jGh} {τ ρ : jx_S} {x w q o tk m lo s f F : Nat} {cs pN bN lN' tk' : Nat → Nat} {ty : Nat → Nat → Nat} (hC : EnvC E τ) (hR : EnvR E ρ) (hD : FD E F pN bN lN' tk' ty τ ρ) (hF : F ≤ 40) (hf : f < F) (h10 : τ.1 4 10 = nI F) (h38 : ρ.1 106 38 = nI F) (hx : x < 1200) (hA : NdS E G τ ρ x o tk m lo s cs) (hN : ∀ i, i < m → NdC E G τ ρ x o m lo s cs i) (hs1 : o = 1 → gV G x s → s < lN' f) (hs5 : o = 5 → s < lN' f) (hw : w < 14) (h37 : τ.1 37 (x + 1) = nI w) (h0 : τ.1 1 0 = 0) (h4 : ρ.1 106 4 = 0) (h55 : ρ.1 106 55 = nI q) (hq : q + m + 3 < 3000) (h56 : ρ.1 106 56 = nI f) (z : (o = 13 ∧ m = 0)) : TyOne E τ ρ x w q o tk m s f F cs pN bN ty := by
  obtain ⟨c1, c2, c3, c4, c5, c6, c7, c8, c9, c10, c11, c12, c13, c14, c15, c16, c17, c18, c19, c20, c21, c22, c23, c24⟩ := hA
  obtain ⟨hcs, hlt', hmx⟩ := nd_children hx hN
  have hlt : ∀ i j, i < j → j < m → cs i ≠ cs j := fun i j h1 h2 => by have := hlt' i j h1 h2; omega
  obtain ⟨d1, d2, d3, d4, d5, d6, d7, d8, d9, d10, _⟩ := hD f hf
  clear c20 c21 c22 c23 c24 c8 c9 c10 c11
  have ho : o ≠ 1 := by omega
  rw [if_neg ho] at c7
  exact ty_wrap (fun i => if i = 0 then 0 else 1) (w = 1) (ty_list hE hC hR hx c1 c2 c3 c4 c7 c12 hcs hlt hw h37 h0 h4 h55 (by omega) (Or.inl z)) (fun i _ => by show (if i = 0 then 0 else 1) < 14; split <;> omega) (fun _ _ h => Or.inr (Or.inl ⟨z.1, h⟩))
theorem type_k3 {E : jEn} (hE : EnvOK E) {G : jGh} {τ ρ : jx_S} {x w q o tk m lo s f F : Nat} {cs pN bN lN' tk' : Nat → Nat} {ty : Nat → Nat → Nat} (hC : EnvC E τ) (hR : EnvR E ρ) (hD : FD E F pN bN lN' tk' ty τ ρ) (hF : F ≤ 40) (hf : f < F) (h10 : τ.1 4 10 = nI F) (h38 : ρ.1 106 38 = nI F) (hx : x < 1200) (hA : NdS E G τ ρ x o tk m lo s cs) (hN : ∀ i, i < m → NdC E G τ ρ x o m lo s cs i) (hs1 : o = 1 → gV G x s → s < lN' f) (hs5 : o = 5 → s < lN' f) (hw : w < 14) (h37 : τ.1 37 (x + 1) = nI w) (h0 : τ.1 1 0 = 0) (h4 : ρ.1 106 4 = 0) (h55 : ρ.1 106 55 = nI q) (hq : q + m + 3 < 3000) (h56 : ρ.1 106 56 = nI f) (z : (o = 14 ∧ m = 2)) : TyOne E τ ρ x w q o tk m s f F cs pN bN ty := by
  obtain ⟨c1, c2, c3, c4, c5, c6, c7, c8, c9, c10, c11, c12, c13, c14, c15, c16, c17, c18, c19, c20, c21, c22, c23, c24⟩ := hA
  obtain ⟨hcs, hlt', hmx⟩ := nd_children hx hN
  have hlt : ∀ i j, i < j → j < m → cs i ≠ cs j := fun i j h1 h2 => by have := hlt' i j h1 h2; omega
  obtain ⟨d1, d2, d3, d4, d5, d6, d7, d8, d9, d10, _⟩ := hD f hf
  clear c20 c21 c22 c23 c24 c8 c9 c10 c11
  have ho : o ≠ 1 := by omega
  rw [if_neg ho] at c7
  exact ty_wrap (fun i => if i = 0 then 0 else 1) (w = 1) (ty_list hE hC hR hx c1 c2 c3 c4 c7 c12 hcs hlt hw h37 h0 h4 h55 (by omega) (Or.inr ⟨z.1, z.2, c16 (by omega), c17 ho (by omega)⟩)) (fun i _ => by show (if i = 0 then 0 else 1) < 14; split <;> omega) (fun _ _ h => Or.inr (Or.inr (Or.inr (Or.inr (Or.inl ⟨z.1, h, rfl, rfl⟩)))))
theorem type_k4 {E : jEn} (hE : EnvOK E) {G : jGh} {τ ρ : jx_S} {x w q o tk m lo s f F : Nat} {cs pN bN lN' tk' : Nat → Nat} {ty : Nat → Nat → Nat} (hC : EnvC E τ) (hR : EnvR E ρ) (hD : FD E F pN bN lN' tk' ty τ ρ) (hF : F ≤ 40) (hf : f < F) (h10 : τ.1 4 10 = nI F) (h38 : ρ.1 106 38 = nI F) (hx : x < 1200) (hA : NdS E G τ ρ x o tk m lo s cs) (hN : ∀ i, i < m → NdC E G τ ρ x o m lo s cs i) (hs1 : o = 1 → gV G x s → s < lN' f) (hs5 : o = 5 → s < lN' f) (hw : w < 14) (h37 : τ.1 37 (x + 1) = nI w) (h0 : τ.1 1 0 = 0) (h4 : ρ.1 106 4 = 0) (h55 : ρ.1 106 55 = nI q) (hq : q + m + 3 < 3000) (h56 : ρ.1 106 56 = nI f) (z : (o = 15 ∧ m = 0)) : TyOne E τ ρ x w q o tk m s f F cs pN bN ty := by
  obtain ⟨c1, c2, c3, c4, c5, c6, c7, c8, c9, c10, c11, c12, c13, c14, c15, c16, c17, c18, c19, c20, c21, c22, c23, c24⟩ := hA
  obtain ⟨hcs, hlt', hmx⟩ := nd_children hx hN
  have hlt : ∀ i j, i < j → j < m → cs i ≠ cs j := fun i j h1 h2 => by have := hlt' i j h1 h2; omega
  obtain ⟨d1, d2, d3, d4, d5, d6, d7, d8, d9, d10, _⟩ := hD f hf
  clear c20 c21 c22 c23 c24 c8 c9 c10 c11
  have ho : o ≠ 1 := by omega
  rw [if_neg ho] at c7
  exact ty_wrap (fun _ => 0) (w < 2) (ty_err hE hC hR hx c1 c2 c3 c4 c7 c12 hcs hlt hw h37 h0 h4 h55 (by omega) z) (fun i _ => by show 0 < 14; omega) (fun _ _ h => Or.inr (Or.inr (Or.inl ⟨z.1, h⟩)))
theorem type_k5 {E : jEn} (hE : EnvOK E) {G : jGh} {τ ρ : jx_S} {x w q o tk m lo s f F : Nat} {cs pN bN lN' tk' : Nat → Nat} {ty : Nat → Nat → Nat} (hC : EnvC E τ) (hR : EnvR E ρ) (hD : FD E F pN bN lN' tk' ty τ ρ) (hF : F ≤ 40) (hf : f < F) (h10 : τ.1 4 10 = nI F) (h38 : ρ.1 106 38 = nI F) (hx : x < 1200) (hA : NdS E G τ ρ x o tk m lo s cs) (hN : ∀ i, i < m → NdC E G τ ρ x o m lo s cs i) (hs1 : o = 1 → gV G x s → s < lN' f) (hs5 : o = 5 → s < lN' f) (hw : w < 14) (h37 : τ.1 37 (x + 1) = nI w) (h0 : τ.1 1 0 = 0) (h4 : ρ.1 106 4 = 0) (h55 : ρ.1 106 55 = nI q) (hq : q + m + 3 < 3000) (h56 : ρ.1 106 56 = nI f) (z : (o = 5 ∧ m = 2)) : TyOne E τ ρ x w q o tk m s f F cs pN bN ty := by
  obtain ⟨c1, c2, c3, c4, c5, c6, c7, c8, c9, c10, c11, c12, c13, c14, c15, c16, c17, c18, c19, c20, c21, c22, c23, c24⟩ := hA
  obtain ⟨hcs, hlt', hmx⟩ := nd_children hx hN
  have hlt : ∀ i j, i < j → j < m → cs i ≠ cs j := fun i j h1 h2 => by have := hlt' i j h1 h2; omega
  obtain ⟨d1, d2, d3, d4, d5, d6, d7, d8, d9, d10, _⟩ := hD f hf
  clear c20 c21 c22 c23 c24 c8 c9 c10 c11
  have ho : o ≠ 1 := by omega
  rw [if_neg ho] at c7
  obtain ⟨y1, y2, y3⟩ := d9 s (hs5 z.1)
  obtain ⟨q1, q2, q3⟩ := c19 z.1
  exact ty_wrap (fun i => if i = 0 then ty f s else w) (w < 2) (ty_let hE hC hR hx c1 c2 c3 c4 c7 c12 hcs hlt hw h37 h0 h4 h55 (by omega) ⟨z.1, z.2, c16 (by omega), c17 ho (by omega)⟩ (by have := hs5 z.1; omega) (by omega) q1 q2 y2 y3 h56) (fun i _ => by show (if i = 0 then ty f s else w) < 14; split <;> omega) (fun _ _ h => Or.inr (Or.inr (Or.inr (Or.inr (Or.inr (Or.inl ⟨z.1, h, rfl, rfl⟩))))))
theorem type_k6 {E : jEn} (hE : EnvOK E) {G : jGh} {τ ρ : jx_S} {x w q o tk m lo s f F : Nat} {cs pN bN lN' tk' : Nat → Nat} {ty : Nat → Nat → Nat} (hC : EnvC E τ) (hR : EnvR E ρ) (hD : FD E F pN bN lN' tk' ty τ ρ) (hF : F ≤ 40) (hf : f < F) (h10 : τ.1 4 10 = nI F) (h38 : ρ.1 106 38 = nI F) (hx : x < 1200) (hA : NdS E G τ ρ x o tk m lo s cs) (hN : ∀ i, i < m → NdC E G τ ρ x o m lo s cs i) (hs1 : o = 1 → gV G x s → s < lN' f) (hs5 : o = 5 → s < lN' f) (hw : w < 14) (h37 : τ.1 37 (x + 1) = nI w) (h0 : τ.1 1 0 = 0) (h4 : ρ.1 106 4 = 0) (h55 : ρ.1 106 55 = nI q) (hq : q + m + 3 < 3000) (h56 : ρ.1 106 56 = nI f) (z : (o = 7 ∧ m = 3)) : TyOne E τ ρ x w q o tk m s f F cs pN bN ty := by
  obtain ⟨c1, c2, c3, c4, c5, c6, c7, c8, c9, c10, c11, c12, c13, c14, c15, c16, c17, c18, c19, c20, c21, c22, c23, c24⟩ := hA
  obtain ⟨hcs, hlt', hmx⟩ := nd_children hx hN
  have hlt : ∀ i j, i < j → j < m → cs i ≠ cs j := fun i j h1 h2 => by have := hlt' i j h1 h2; omega
  obtain ⟨d1, d2, d3, d4, d5, d6, d7, d8, d9, d10, _⟩ := hD f hf
  clear c20 c21 c22 c23 c24 c8 c9 c10 c11
  have ho : o ≠ 1 := by omega
  rw [if_neg ho] at c7
  exact ty_wrap (fun i => if i = 0 then 0 else w) (w < 2) (ty_if hE hC hR hx c1 c2 c3 c4 c7 c12 hcs hlt hw h37 h0 h4 h55 (by omega) ⟨z.1, z.2, c16 (by omega), c17 ho (by omega), c18 ho (by omega)⟩) (fun i _ => by show (if i = 0 then 0 else w) < 14; split <;> omega) (fun _ _ h => Or.inr (Or.inr (Or.inr (Or.inr (Or.inr (Or.inr (Or.inl ⟨z.1, h, rfl, rfl, rfl⟩)))))))
theorem type_k7 {E : jEn} (hE : EnvOK E) {G : jGh} {τ ρ : jx_S} {x w q o tk m lo s f F : Nat} {cs pN bN lN' tk' : Nat → Nat} {ty : Nat → Nat → Nat} (hC : EnvC E τ) (hR : EnvR E ρ) (hD : FD E F pN bN lN' tk' ty τ ρ) (hF : F ≤ 40) (hf : f < F) (h10 : τ.1 4 10 = nI F) (h38 : ρ.1 106 38 = nI F) (hx : x < 1200) (hA : NdS E G τ ρ x o tk m lo s cs) (hN : ∀ i, i < m → NdC E G τ ρ x o m lo s cs i) (hs1 : o = 1 → gV G x s → s < lN' f) (hs5 : o = 5 → s < lN' f) (hw : w < 14) (h37 : τ.1 37 (x + 1) = nI w) (h0 : τ.1 1 0 = 0) (h4 : ρ.1 106 4 = 0) (h55 : ρ.1 106 55 = nI q) (hq : q + m + 3 < 3000) (h56 : ρ.1 106 56 = nI f) (z : (o = 10 ∧ m = 3)) : TyOne E τ ρ x w q o tk m s f F cs pN bN ty := by
  obtain ⟨c1, c2, c3, c4, c5, c6, c7, c8, c9, c10, c11, c12, c13, c14, c15, c16, c17, c18, c19, c20, c21, c22, c23, c24⟩ := hA
  obtain ⟨hcs, hlt', hmx⟩ := nd_children hx hN
  have hlt : ∀ i j, i < j → j < m → cs i ≠ cs j := fun i j h1 h2 => by have := hlt' i j h1 h2; omega
  obtain ⟨d1, d2, d3, d4, d5, d6, d7, d8, d9, d10, _⟩ := hD f hf
  clear c20 c21 c22 c23 c24 c8 c9 c10 c11
  have ho : o ≠ 1 := by omega
  rw [if_neg ho] at c7
  exact ty_wrap (fun i => if i = 0 then 1 else w) (w < 2) (ty_case hE hC hR hx c1 c2 c3 c4 c7 c12 hcs hlt hw h37 h0 h4 h55 (by omega) ⟨z.1, z.2, c16 (by omega), c17 ho (by omega), c18 ho (by omega)⟩) (fun i _ => by show (if i = 0 then 1 else w) < 14; split <;> omega) (fun _ _ h => Or.inr (Or.inr (Or.inr (Or.inr (Or.inr (Or.inr (Or.inr (Or.inl ⟨z.1, h, rfl, rfl, rfl⟩))))))))
theorem type_one {E : jEn} (hE : EnvOK E) {G : jGh} {τ ρ : jx_S} {x w q o tk m lo s f F : Nat} {cs pN bN lN' tk' : Nat → Nat} {ty : Nat → Nat → Nat} (hC : EnvC E τ) (hR : EnvR E ρ) (hD : FD E F pN bN lN' tk' ty τ ρ) (hF : F ≤ 40) (hf : f < F) (h10 : τ.1 4 10 = nI F) (h38 : ρ.1 106 38 = nI F) (hx : x < 1200) (hA : NdS E G τ ρ x o tk m lo s cs) (hN : ∀ i, i < m → NdC E G τ ρ x o m lo s cs i) (hs1 : o = 1 → gV G x s → s < lN' f) (hs5 : o = 5 → s < lN' f) (hw : w < 14) (h37 : τ.1 37 (x + 1) = nI w) (h0 : τ.1 1 0 = 0) (h4 : ρ.1 106 4 = 0) (h55 : ρ.1 106 55 = nI q) (hq : q + m + 3 < 3000) (h56 : ρ.1 106 56 = nI f) : TyOne E τ ρ x w q o tk m s f F cs pN bN ty := by
  by_cases ho : o = 1
  · exact type_name hE hC hR hD hF hf h10 h38 hx hA hN hs1 hs5 hw h37 h0 h4 h55 hq h56 ho
  have c6 := hA.2.2.2.2.2.1
  rcases (show (o = 2 ∧ m = 0) ∨ ((o = 19 ∨ (23 ≤ o ∧ o ≤ 27)) ∧ m = 2) ∨ (o = 13 ∧ m = 0) ∨ (o = 14 ∧ m = 2) ∨ (o = 15 ∧ m = 0) ∨ (o = 5 ∧ m = 2) ∨ (o = 7 ∧ m = 3) ∨ (o = 10 ∧ m = 3) by unfold arOK at c6; omega) with z | z | z | z | z | z | z | z
  · exact type_k0 hE hC hR hD hF hf h10 h38 hx hA hN hs1 hs5 hw h37 h0 h4 h55 hq h56 z
  · exact type_k1 hE hC hR hD hF hf h10 h38 hx hA hN hs1 hs5 hw h37 h0 h4 h55 hq h56 z
  · exact type_k2 hE hC hR hD hF hf h10 h38 hx hA hN hs1 hs5 hw h37 h0 h4 h55 hq h56 z
  · exact type_k3 hE hC hR hD hF hf h10 h38 hx hA hN hs1 hs5 hw h37 h0 h4 h55 hq h56 z
  · exact type_k4 hE hC hR hD hF hf h10 h38 hx hA hN hs1 hs5 hw h37 h0 h4 h55 hq h56 z
  · exact type_k5 hE hC hR hD hF hf h10 h38 hx hA hN hs1 hs5 hw h37 h0 h4 h55 hq h56 z
  · exact type_k6 hE hC hR hD hF hf h10 h38 hx hA hN hs1 hs5 hw h37 h0 h4 h55 hq h56 z
  · exact type_k7 hE hC hR hD hF hf h10 h38 hx hA hN hs1 hs5 hw h37 h0 h4 h55 hq h56 z
