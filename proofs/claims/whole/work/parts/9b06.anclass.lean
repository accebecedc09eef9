/-! ANALYSIS, 6: a node's point in the class. -/
theorem and_nI {a b : Nat} (ha : a < 2) (hb : b < 2) : nI a &&& nI b = nI (a &&& b) := by
  have : ∀ a b : Fin 2, nI a.val &&& nI b.val = nI (a.val &&& b.val) := by decide
  exact this ⟨a, ha⟩ ⟨b, hb⟩
theorem or_nI {a b : Nat} (ha : a < 2) (hb : b < 2) : nI a ||| nI b = nI (a ||| b) := by
  have : ∀ a b : Fin 2, nI a.val ||| nI b.val = nI (a.val ||| b.val) := by decide
  exact this ⟨a, ha⟩ ⟨b, hb⟩
theorem c_loc_fin : ∀ t : Fin 14, ∀ sh : Fin 6, ∀ m : Fin 3, ∀ a0 a1 : Fin 2, sh.val < tyQ t.val → m.val ≤ tyA t.val → (if ¬ nI m.val = 0 then (if ¬ nI (tyA t.val) = (1 : Int32) then (if ¬ nI m.val = (2 : Int32) then ((v_cAna_shapeOfTwo (nI sh.val) (nI a0.val) (0 : Int32) s0) + (v_cAna_shapeOfTwo (nI sh.val) (nI a0.val) (1 : Int32) s0)) else (v_cAna_shapeOfTwo (nI sh.val) (nI a0.val) (nI a1.val) s0)) else (v_cAna_shapeOfOne (nI sh.val) (nI a0.val) s0)) else nI sh.val) = nI (ptLoc t.val sh.val m.val a0.val a1.val) := by decide +kernel
theorem c_find_fin : ∀ n s f b : Fin 2, n ≤ s → n ≤ f → s ≤ b → f ≤ b → v_cAna_findShape (nI n.val) (nI s.val) (nI f.val) (nI b.val) s0 = nI (sh2 n.val s.val f.val b.val) := by decide +kernel
/-- the state that the class's analysis reads -/
def CV (F : Nat) (pN : Nat → Nat) (ty V : Nat → Nat → Nat) (τ : jx_S) : Prop := ∀ g, g < F → ∀ n, n < cnt (ty g) (pN g) → v_cAna_pointOfCase (nI g) (nI n) τ = nI (V g n)
theorem nm_arg {t a : Nat → Nat} {m x y : Nat} : nm t (arg m a x y) m = nm t a m := nm_congr m (fun i hi => if_pos hi)
theorem nm_arg1 {t a : Nat → Nat} {m x y : Nat} (h : t m < 2) : nm t (arg m a x y) (m + 1) = 2 * nm t a m + x := by
  show nm t (arg m a x y) m * tyQ (t m) + arg m a x y m = _
  rw [nm_arg, tyQ_b h]
  unfold arg
  rw [if_neg (Nat.lt_irrefl _), if_pos rfl]
  omega
theorem nm_arg2 {t a : Nat → Nat} {m x y : Nat} (h : t m < 2) (h2 : t (m + 1) < 2) : nm t (arg m a x y) (m + 2) = 4 * nm t a m + 2 * x + y := by
  show nm t (arg m a x y) (m + 1) * tyQ (t (m + 1)) + arg m a x y (m + 1) = _
  rw [nm_arg1 h, tyQ_b h2]
  unfold arg
  rw [if_neg (by omega), if_neg (by omega)]
  omega
theorem arg_lt {t a : Nat → Nat} {m p x y : Nat} (ha : ∀ i, i < m → a i < tyQ (t i)) (hb : ∀ i, m ≤ i → i < p → t i < 2) (hx : x < 2) (hy : y < 2) : ∀ i, i < p → arg m a x y i < tyQ (t i) := fun i hi => by
  unfold arg
  by_cases z : i < m
  · rw [if_pos z]; exact ha i z
  · rw [if_neg z, tyQ_b (hb i (by omega) hi)]; split <;> omega
/-- the class: a name that is a function -/
theorem c_call {F : Nat} {pN : Nat → Nat} {ty V : Nat → Nat → Nat} {τ : jx_S} {k g m : Nat} {cs a : Nat → Nat} (hF : F ≤ 40) (hg : g < F) (hk : k < 1200) (hm : m ≤ pN g) (hp : pN g ≤ m + 2) (hp8 : pN g ≤ 8) (hcs : ∀ i, i < m → cs i < 1200) (h43 : τ.1 43 g = nI (pN g)) (h57 : ∀ i, i < pN g → ty g i < 14 ∧ τ.1 57 (30 * g + i) = nI (ty g i)) (h33 : τ.1 33 (k + 1) = nI g) (h35 : τ.1 35 (k + 1) = nI m) (h27 : τ.1 27 (k + 1) = nI (if 0 < m then cs 0 + 1 else 0)) (h29 : ∀ i, i < m → τ.1 29 (cs i + 1) = nI (if i + 1 < m then cs (i + 1) + 1 else 0)) (h67 : ∀ i, i < m → τ.1 67 (cs i + 1) = nI (a i) ∧ a i < tyQ (ty g i)) (hb : ∀ i, m ≤ i → i < pN g → ty g i < 2) (hV : CV F pN ty V τ) (hL : LeV F pN ty V V) : p_cAna_pointOfCall (nI (k + 1)) τ = some (nI (ptCal (V g) (pN g) m (ty g) a), τ) := by
  unfold p_cAna_pointOfCall p_cAna_pointOfCall_43
  rw [jI_at_in (by omega) (by omega), h33, jI_at_in (by omega) (by omega), h35, jI_at_in (by omega) (by omega), h27]
  have hlt : ∀ i, i ≤ m → nm (ty g) a i < cnt (ty g) i := fun i hi => nm_lt i (fun j hj => (h67 j (by omega)).2)
  have hc8 : ∀ i, i ≤ m → nm (ty g) a i < 1679616 := fun i hi => by have := hlt i hi; have := cnt_lt (ty g) (show i ≤ 8 by omega); omega
  have hW : ∀ x y, x < 2 → y < 2 → nm (ty g) (arg m a x y) (pN g) < cnt (ty g) (pN g) := fun x y hx hy => nm_lt _ (arg_lt (fun i hi => (h67 i hi).2) hb hx hy)
  have hcn := cnt_lt (ty g) hp8
  have hP : ∀ x y, x < 2 → y < 2 → v_cAna_pointOfCase (nI g) (nI (nm (ty g) (arg m a x y) (pN g))) τ = nI (clV (V g) (pN g) m (ty g) a x y) := fun x y hx hy => hV g hg _ (hW x y hx hy)
  have hmo : ∀ x y x' y', x ≤ x' → y ≤ y' → x' < 2 → y' < 2 → clV (V g) (pN g) m (ty g) a x y ≤ clV (V g) (pN g) m (ty g) a x' y' ∧ clV (V g) (pN g) m (ty g) a x' y' < 2 := fun x y x' y' h1 h2 h3 h4 => by
    refine hL g hg _ _ (fun i hi => ?_)
    unfold arg
    by_cases z : i < m
    · rw [if_pos z, if_pos z]; exact leQ_refl (h67 i z).2
    · rw [if_neg z, if_neg z, tyQ_b (hb i (by omega) hi), leQ_2]
      split <;> omega
  refine jx_loop_for (X := some (nI (ptCal (V g) (pN g) m (ty g) a), τ)) (fun i => (nI g, nI m, nI (nm (ty g) a i), nI (if i < m then cs i + 1 else 0), nI i, τ)) m (fun i hi => ?_) ?_ (by omega)
  · show p_cAna_pointOfCall_43_s (nI g) (nI m) (nI (nm (ty g) a i)) (nI (if i < m then cs i + 1 else 0)) (nI i) τ = _
    unfold p_cAna_pointOfCall_43_s v_cFun_typeOf
    have := hcs i hi
    rw [if_neg (nI_ge hi (by omega)), if_pos hi, show nI g * (30 : Int32) = nI (g * 30) from nI_mul g 30, nI_add, jI_at_in (show g * 30 + i < 1200 by omega) (by omega), show g * 30 + i = 30 * g + i by omega, (h57 i (by omega)).2, c_points τ (h57 i (by omega)).1, jI_at_in (show cs i + 1 < 1201 by omega) (by omega), (h67 i hi).1, jI_at_in (show cs i + 1 < 1201 by omega) (by omega), h29 i hi, nI_mul, nI_add, ← nI_succ]
    rfl
  · show p_cAna_pointOfCall_43_s (nI g) (nI m) (nI (nm (ty g) a m)) (nI (if m < m then cs m + 1 else 0)) (nI m) τ = _
    unfold p_cAna_pointOfCall_43_s
    rw [if_pos (nI_le (Nat.le_refl _) (by omega)), jI_at_in (by omega) (by omega), h43, nI_sub hm]
    have h8 := hc8 m (Nat.le_refl _)
    congr 1
    by_cases z0 : pN g - m = 0
    · rw [z0, if_pos (show nI 0 = 0 from rfl)]
      have e1 : nm (ty g) (arg m a 0 0) (pN g) = nm (ty g) a m := by rw [show pN g = m by omega]; exact nm_arg
      have := hP 0 0 (by omega) (by omega)
      rw [e1] at this
      rw [this]
      unfold ptCal
      rw [if_pos z0]
    · rw [if_neg (nI_ne0 (by omega) (by omega))]
      by_cases z1 : pN g - m = 1
      · rw [z1, if_pos (show nI 1 = 1 from rfl)]
        have hm2 := hb m (by omega) (by omega)
        have e1 : ∀ x, nm (ty g) (arg m a x 0) (pN g) = 2 * nm (ty g) a m + x := fun x => by rw [show pN g = m + 1 by omega]; exact nm_arg1 hm2
        have p0 := hP 0 0 (by omega) (by omega)
        have p1 := hP 1 0 (by omega) (by omega)
        rw [e1] at p0 p1
        have mo := hmo 0 0 1 0 (by omega) (by omega) (by omega) (by omega)
        rw [show (2 : Int32) * nI (nm (ty g) a m) = nI (2 * nm (ty g) a m) from nI_mul 2 _, show (1 : Int32) = nI 1 from rfl, nI_add, p1, show 2 * nm (ty g) a m = 2 * nm (ty g) a m + 0 from rfl, p0, nI_add]
        unfold ptCal
        rw [if_neg z0, if_pos z1]
        unfold sh1
        congr 3
        split <;> omega
      · rw [if_neg (show ¬ nI (pN g - m) = 1 from fun q => z1 ((nI_eq (b := 1) (by omega) (by omega)).mp q))]
        have hm2 := hb m (by omega) (by omega)
        have hm3 := hb (m + 1) (by omega) (by omega)
        have e1 : ∀ x y, nm (ty g) (arg m a x y) (pN g) = 4 * nm (ty g) a m + 2 * x + y := fun x y => by rw [show pN g = m + 2 by omega]; exact nm_arg2 hm2 hm3
        have p00 := hP 0 0 (by omega) (by omega)
        have p01 := hP 0 1 (by omega) (by omega)
        have p10 := hP 1 0 (by omega) (by omega)
        have p11 := hP 1 1 (by omega) (by omega)
        rw [e1] at p00 p01 p10 p11
        have m1 := hmo 0 0 0 1 (by omega) (by omega) (by omega) (by omega)
        have m2 := hmo 0 0 1 0 (by omega) (by omega) (by omega) (by omega)
        have m3 := hmo 0 1 1 1 (by omega) (by omega) (by omega) (by omega)
        have m4 := hmo 1 0 1 1 (by omega) (by omega) (by omega) (by omega)
        rw [show (4 : Int32) * nI (nm (ty g) a m) = nI (4 * nm (ty g) a m) from nI_mul 4 _, show (1 : Int32) = nI 1 from rfl, show (2 : Int32) = nI 2 from rfl, show (3 : Int32) = nI 3 from rfl, nI_add, nI_add, nI_add]
        rw [show 4 * nm (ty g) a m + 2 * 0 + 0 = 4 * nm (ty g) a m by omega] at p00
        rw [show 4 * nm (ty g) a m + 2 * 0 + 1 = 4 * nm (ty g) a m + 1 by omega] at p01
        rw [show 4 * nm (ty g) a m + 2 * 1 + 0 = 4 * nm (ty g) a m + 2 by omega] at p10
        rw [show 4 * nm (ty g) a m + 2 * 1 + 1 = 4 * nm (ty g) a m + 3 by omega] at p11
        rw [p00, p01, p10, p11]
        have fin := c_find_fin ⟨clV (V g) (pN g) m (ty g) a 0 0, by omega⟩ ⟨clV (V g) (pN g) m (ty g) a 0 1, by omega⟩ ⟨clV (V g) (pN g) m (ty g) a 1 0, by omega⟩ ⟨clV (V g) (pN g) m (ty g) a 1 1, by omega⟩ m1.1 m2.1 m3.1 m4.1
        have fin2 : v_cAna_findShape (nI (clV (V g) (pN g) m (ty g) a 0 0)) (nI (clV (V g) (pN g) m (ty g) a 0 1)) (nI (clV (V g) (pN g) m (ty g) a 1 0)) (nI (clV (V g) (pN g) m (ty g) a 1 1)) τ = nI (sh2 (clV (V g) (pN g) m (ty g) a 0 0) (clV (V g) (pN g) m (ty g) a 0 1) (clV (V g) (pN g) m (ty g) a 1 0) (clV (V g) (pN g) m (ty g) a 1 1)) := fin
        rw [fin2]
        unfold ptCal
        rw [if_neg z0, if_neg z1]
