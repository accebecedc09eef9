/-! RUNS, 5: what is put off: the small cases. -/
def r12 : Int32 × Int64 × jx_S → Option ((Int32 × Int64 × jx_S) ⊕ (Int64 × jx_S)) := fun s => p_r_putOff_12_s s.1 s.2.1 s.2.2
/-- a node that holds itself -/
theorem po_lit {E : jEn} {G : jGh} {F : Nat} {nS pN bN lN' : Nat → Nat} {ty : Nat → Nat → Nat} {W : Nat → Nat} {D : Nat → jDs} {tk LO : Nat → Nat} {sl sp : Nat → Nat → Nat} {g c : Nat} {τ ρ : jx_S} (hN : RNd E G F nS pN bN lN' ty W D tk LO sl sp g τ ρ c) (hE : eC E ≤ 1200) (hk : dK (D c) = 2 ∨ dK (D c) = 13) : ∃ a : aV, a.1 < 2 ∧ W c = a.1 ∧ v_cMac_literal (nI (c + 1)) τ = cV a ∧ (∀ env, p_r_putOne (nI c) (nI env) ρ = some (rV a, ρ)) := by
  obtain ⟨hA, hT, hW, h37, h124, hn, _⟩ := hN
  obtain ⟨a1, a2, a3, a4, a5, a6, a7, a8, a9, a10, a11, a12, a13, a14, a15, a16, a17, a18, a19, a20, a21, a22, a23, a24⟩ := hA
  have hni : ¬ (nI c < 0 ∨ 3000 ≤ c) := fun z => by
    rcases z with z | z
    · exact nI_pos (by omega) z
    · omega
  have hTw : (dK (D c) = 2 → W c = 0) ∧ (dK (D c) = 13 → W c = 1) := by
    unfold okT at hT
    rcases hT with h | h | h | h | h | h | h | h | h | h
    · exact ⟨fun _ => h.2.1, fun q => by omega⟩
    · exact ⟨fun q => by omega, fun _ => h.2.1⟩
    all_goals exact ⟨fun q => by omega, fun q => by omega⟩
  rcases hk with hk | hk
  · refine ⟨(0, ρ.1 111 (tk c)), (show 0 < 2 by omega), hTw.1 hk, ?_, fun env => ?_⟩
    · unfold v_cMac_literal
      rw [jI_at_in (by omega) (by omega), a5, hk, if_pos (by decide), jI_at_in (by omega) (by omega), a19, jL_at_in (by omega) (by omega), hn hk]
      rfl
    · unfold p_r_putOne
      rw [nI_clamp (show c < 2 ^ 31 by omega), if_neg hni, a6, hk, if_neg (fun q => q rfl), if_neg hni, a18, if_neg (nI_in (show tk c < 1202 by omega) (by omega)), nI_clamp (show tk c < 2 ^ 31 by omega)]
      rfl
  · refine ⟨(1, 0), (show 1 < 2 by omega), hTw.2 hk, ?_, fun env => ?_⟩
    · unfold v_cMac_literal
      rw [jI_at_in (by omega) (by omega), a5, hk, if_neg (fun q => q rfl)]
      rfl
    · unfold p_r_putOne
      rw [nI_clamp (show c < 2 ^ 31 by omega), if_neg hni, a6, hk, if_pos (by decide), if_neg hni, if_neg (fun q => q rfl)]
      rfl
/-- a local's own value -/
theorem po_loc {E : jEn} {G : jGh} {F : Nat} {nS pN bN lN' : Nat → Nat} {ty : Nat → Nat → Nat} {W : Nat → Nat} {D : Nat → jDs} {tk LO : Nat → Nat} {sl sp : Nat → Nat → Nat} {g c b : Nat} {v : aV} {τ ρ : jx_S} (hN : RNd E G F nS pN bN lN' ty W D tk LO sl sp g τ ρ c) (hk : dK (D c) = 28) (hm : dM (D c) = 0) (hb : b + dS (D c) < 30000) (hc : τ.2 97 (b + dS (D c)) = cV v) (hr : ρ.2 150 (b + dS (D c)) = rV v) (hf : v_cMac_frame τ = nI b) : jL_at 30000 (τ.2 97) (v_cMac_frame τ + jI_at 1201 (τ.1 33) (nI (c + 1))) = cV v ∧ p_r_putOne (nI c) (nI b) ρ = some (rV v, ρ) := by
  obtain ⟨hA, _⟩ := hN
  obtain ⟨a1, a2, a3, a4, a5, a6, a7, a8, a9, a10, a11, a12, a13, a14, a15, a16, a17, a18, a19, a20, a21, a22, a23, a24⟩ := hA
  have hni : ¬ (nI c < 0 ∨ 3000 ≤ c) := fun z => by
    rcases z with z | z
    · exact nI_pos (by omega) z
    · omega
  obtain ⟨e1, e2⟩ := a14 hk
  obtain ⟨e3, e4, _⟩ := a13 (by omega)
  constructor
  · rw [hf, jI_at_in (by omega) (by omega), e2, nI_add, jL_at_in hb (by omega), hc]
  · unfold p_r_putOne p_r_putOne_81
    rw [nI_clamp (show c < 2 ^ 31 by omega), if_neg hni, a6, hk, if_pos (show 28 ≤ 28 by omega), if_pos (by decide), if_neg hni, if_pos (by decide), if_neg hni, if_neg (fun q => q rfl), if_neg hni, e3, hm, if_neg (fun q => q rfl), if_neg hni, e1, if_pos (nI_pos' (by omega)), if_neg hni, if_neg (nI_pos (by omega)), if_neg hni, nI_add, if_neg (nI_in hb (by omega)), nI_clamp (by omega), hr]
theorem ot_kind {F : Nat} {pN bN : Nat → Nat} {ty : Nat → Nat → Nat} {f : Nat} {W : Nat → Nat} {d : jDs} {k : Nat} (h : okT F pN bN ty f W d k) (hW : 2 ≤ W k) : dK d = 28 ∨ dK d = 29 := by
  unfold okT at h
  rcases h with h | h | h | h | h | h | h | h | h | h <;> omega
theorem ot_ne1 {F : Nat} {pN bN : Nat → Nat} {ty : Nat → Nat → Nat} {f : Nat} {W : Nat → Nat} {d : jDs} {k : Nat} (h : okT F pN bN ty f W d k) : dK d ≠ 1 := by
  unfold okT at h
  rcases h with h | h | h | h | h | h | h | h | h | h <;> omega
/-- what is really put off -/
def cAdd (τ : jx_S) (n c b : Nat) : jx_S := jx_i (jI_put 3000 (jI_put 3000 (jI_put 3000 τ 89 (nI n) (nI (c + 1))) 91 (nI n) (nI b)) 93 (nI n) 0) 9 12 (nI (n + 1))
def rAdd (ρ : jx_S) (n c b : Nat) : jx_S := jx_i (jx_i (jx_i (jx_i ρ 151 n (nI c)) 152 n (nI b)) 153 n 0) 106 67 (nI (n + 1))
theorem po_add {E : jEn} {G : jGh} {F : Nat} {nS pN bN lN' : Nat → Nat} {ty : Nat → Nat → Nat} {W : Nat → Nat} {D : Nat → jDs} {tk LO : Nat → Nat} {sl sp : Nat → Nat → Nat} {g c b n : Nat} {τ ρ : jx_S} (hN : RNd E G F nS pN bN lN' ty W D tk LO sl sp g τ ρ c) (hk : dK (D c) ≠ 2 ∧ dK (D c) ≠ 13 ∧ (dK (D c) = 28 → 0 < dM (D c))) (hW : W c < 2) (hn : n < 3000) (h12 : τ.1 9 12 = nI n) (h67 : ρ.1 106 67 = nI n) (hf : v_cMac_frame τ = nI b) (rec : Int32 → Int32 → jx_S → Option (Int64 × jx_S)) (w : Int32) : p_cMac_putOff_91 rec (nI (c + 1)) w τ = some (cV (3, nI n), cAdd τ n c b) ∧ p_r_putOne (nI c) (nI b) ρ = some (rV (3, nI n), rAdd ρ n c b) := by
  obtain ⟨hA, hT, hW14, h37, h124, _⟩ := hN
  obtain ⟨a1, a2, a3, a4, a5, a6, a7, a8, a9, a10, a11, a12, a13, a14, a15, a16, a17, a18, a19, a20, a21, a22, a23, a24⟩ := hA
  have hk1 := ot_ne1 hT
  clear hT a16 a17 a18 a19 a20 a21 a22 a23 a24
  have hni : ¬ (nI c < 0 ∨ 3000 ≤ c) := fun z => by
    rcases z with z | z
    · exact nI_pos (by omega) z
    · omega
  constructor
  · unfold p_cMac_putOff_91 p_cHea_addPutOff
    rw [jI_at_in (by omega) (by omega), h37, c_isBase τ hW14, if_pos hW, if_pos (by decide), h12, if_pos (show ¬ nI n = (3000 : Int32) from fun q => by have := (nI_eq (b := 3000) (by omega) (by omega)).1 q; omega), Option.bind_some, hf, ← nI_succ]
    rw [show nI (n + 1) - (1 : Int32) = nI n from nI_pred n]
    rfl
  · have h146 : p_r_putOne_146 (nI c) (nI b) ρ = some (rV (3, nI n), rAdd ρ n c b) := by
      unfold p_r_putOne_146
      rw [h67, if_pos (show ¬ nI n = (3000 : Int32) from fun q => by have := (nI_eq (b := 3000) (by omega) (by omega)).1 q; omega), if_neg (nI_in hn (by omega)), if_neg (nI_in hn (by omega)), if_neg (nI_in hn (by omega)), nI_clamp (show n < 2 ^ 31 by omega), show nI n + (1 : Int32) = nI (n + 1) from (nI_succ n).symm, show nI (n + 1) - (1 : Int32) = nI n from nI_pred n]
      rfl
    have hle : nI (W c) ≤ (1 : Int32) := (nI_le (by omega) (by omega) : nI (W c) ≤ nI 1)
    have h119 : p_r_putOne_119 (nI c) (nI b) ρ = some (rV (3, nI n), rAdd ρ n c b) := by
      unfold p_r_putOne_119
      rw [nI_clamp (show c < 2 ^ 31 by omega), if_neg hni, if_neg hni, h124, if_pos hle, h146]
      split <;> rfl
    unfold p_r_putOne
    rw [nI_clamp (show c < 2 ^ 31 by omega), if_neg hni, if_neg hni, if_neg hni, if_neg hni, if_neg hni, if_neg hni, h119, a6]
    by_cases z : 28 ≤ dK (D c)
    · obtain ⟨e3, e4, _⟩ := a13 z
      rw [if_pos z, if_pos (by decide), if_pos (by decide), if_neg (fun q => q rfl), e3]
      by_cases y : dM (D c) = 0
      · have k29 : dK (D c) = 29 := by
          have := hk.2.2
          omega
        rw [y, if_neg (fun q => q rfl), (a15 k29).1, if_neg (by decide), h124, if_pos hle]
      · rw [if_pos (nI_ne0 (by omega) (by omega))]
    · rw [if_neg z, if_pos (show ¬ nI (dK (D c)) = (2 : Int32) from fun q => hk.1 ((nI_eq (b := 2) (by omega) (by omega)).1 q)), if_pos (show ¬ nI (dK (D c)) = (13 : Int32) from fun q => hk.2.1 ((nI_eq (b := 13) (by omega) (by omega)).1 q)), if_pos (show ¬ nI (dK (D c)) = (1 : Int32) from fun q => by
        exact hk1 ((nI_eq (b := 1) (by omega) (by omega)).1 q))]
/-- a function's own name -/
theorem po_fun {E : jEn} {G : jGh} {F : Nat} {nS pN bN lN' : Nat → Nat} {ty : Nat → Nat → Nat} {W : Nat → Nat} {D : Nat → jDs} {tk LO : Nat → Nat} {sl sp : Nat → Nat → Nat} {g c b : Nat} {τ ρ : jx_S} (hN : RNd E G F nS pN bN lN' ty W D tk LO sl sp g τ ρ c) (hF : F ≤ 40) (hk : dK (D c) = 29) (hm : dM (D c) = 0) (hW : 2 ≤ W c) (rec : Int32 → Int32 → jx_S → Option (Int64 × jx_S)) (w : Int32) : p_cMac_putOff_91 rec (nI (c + 1)) w τ = some (cV (4, nI (dG (D c))), τ) ∧ p_r_putOne (nI c) (nI b) ρ = some (rV (4, nI (dG (D c))), ρ) ∧ dG (D c) < F ∧ lfv (pN (dG (D c))) 0 (bN (dG (D c))) (ty (dG (D c)) 0) (ty (dG (D c)) 1) = nI (W c) := by
  obtain ⟨hA, hT, hW14, h37, h124, _⟩ := hN
  obtain ⟨a1, a2, a3, a4, a5, a6, a7, a8, a9, a10, a11, a12, a13, a14, a15, a16, a17, a18, a19, a20, a21, a22, a23, a24⟩ := hA
  have hni : ¬ (nI c < 0 ∨ 3000 ≤ c) := fun z => by
    rcases z with z | z
    · exact nI_pos (by omega) z
    · omega
  obtain ⟨e1, e2, e5⟩ := a15 hk
  obtain ⟨e3, e4, _⟩ := a13 (by omega)
  have hgt : ¬ nI (W c) ≤ (1 : Int32) := (nI_ge (by omega) (by omega) : ¬ nI (W c) ≤ nI 1)
  refine ⟨?_, ?_, ?_⟩
  · unfold p_cMac_putOff_91 p_cMac_putOffFunction p_cMac_putOffFunction_72
    rw [jI_at_in (by omega) (by omega), h37, c_isBase τ hW14, if_neg (show ¬ W c < 2 by omega), if_neg (show ¬ ¬ (0 : Int32) = 0 from fun q => q rfl), jI_at_in (by omega) (by omega), a5, hk, if_neg (show ¬ ¬ nI 29 = (29 : Int32) from fun q => q rfl), jI_at_in (by omega) (by omega), e4, hm, if_neg (fun q => q rfl), Option.bind_some, jI_at_in (by omega) (by omega), e5]
    rfl
  · unfold p_r_putOne p_r_putOne_81
    rw [nI_clamp (show c < 2 ^ 31 by omega), if_neg hni, a6, hk, if_pos (show 28 ≤ 29 by omega), if_pos (by decide), if_neg hni, if_pos (by decide), if_neg hni, if_neg (fun q => q rfl), if_neg hni, e3, hm, if_neg (fun q => q rfl), if_neg hni, e1, if_neg (by decide), if_neg hni, h124, if_neg hgt, if_neg hni, if_pos (by decide), if_neg hni, e2]
    rfl
  · unfold okT at hT
    rcases hT with h | h | h | h | h | h | h | h | h | h
    · omega
    · omega
    · omega
    · omega
    · omega
    · omega
    · omega
    · omega
    · omega
    · rw [hm] at h; exact ⟨h.2.1, h.2.2.2.1⟩
