/-! CONSTRUCTORS, 3: their worlds as cells. -/
def jc_e (ad : Nat → Nat) (dA : Nat → ClassId) (E : jc_E) : va_E := match E with
  | .inl (ci, fs) => .inr (ci, fs.map (jx_cv ad))
  | .inr (t, n, w) => .inl (dA t, n, if t = 1 then .inr (.inl (fun j => (w.lookup j).getD 0)) else .inl (fun _ => 0))
def jc_ww (ad : Nat → Nat) (dA : Nat → ClassId) (ws : jc_W) : va_W := (List.range ws.length).map (fun k => (ad k, jc_e ad dA (ws.getD k (.inl (0, [])))))
/-- how many slots -/
def jc_sz (E : jc_E) : Nat := match E with
  | .inl (_, fs) => fs.length
  | .inr (_, n, _) => n
def jc_sl (ws : jc_W) : Nat := (ws.map jc_sz).sum
section JCW
variable {ad : Nat → Nat} {dA : Nat → ClassId} {ws : jc_W}
theorem jc_ww_len : (jc_ww ad dA ws).length = ws.length := by simp [jc_ww]
theorem jc_ww_get {k : Nat} {E : jc_E} (h : ws[k]? = some E) : (jc_ww ad dA ws)[k]? = some (ad k, jc_e ad dA E) := by
  have hk : k < ws.length := (List.getElem?_eq_some_iff.mp h).1
  simp only [jc_ww, List.getElem?_map, List.getElem?_range hk, Option.map_some, List.getD_eq_getElem?_getD, h, Option.getD_some]
theorem jc_ww_inv {k : Nat} {q : Nat × va_E} (h : (jc_ww ad dA ws)[k]? = some q) : ∃ E, ws[k]? = some E ∧ q = (ad k, jc_e ad dA E) := by
  have hk : k < ws.length := by
    have := (List.getElem?_eq_some_iff.mp h).1
    rw [jc_ww_len] at this; exact this
  have h1 : ws[k]? = some ws[k] := List.getElem?_eq_getElem hk
  exact ⟨_, h1, Option.some.inj (h.symm.trans (jc_ww_get h1))⟩
theorem jc_ww_app {E : jc_E} : jc_ww ad dA (ws ++ [E]) = jc_ww ad dA ws ++ [(ad ws.length, jc_e ad dA E)] := by
  apply List.ext_getElem?
  intro k
  by_cases h : k < ws.length
  · rw [List.getElem?_append_left (by rw [jc_ww_len]; exact h)]
    have h1 : ws[k]? = some ws[k] := List.getElem?_eq_getElem h
    rw [jc_ww_get h1, jc_ww_get (E := ws[k]) (by rw [List.getElem?_append_left h]; exact h1)]
  · by_cases h2 : k = ws.length
    · subst h2
      rw [List.getElem?_append_right (by rw [jc_ww_len]; exact Nat.le_refl _), jc_ww_len, Nat.sub_self, jc_ww_get (E := E) (by simp)]
      rfl
    · rw [List.getElem?_eq_none (by rw [jc_ww_len]; simp; omega), List.getElem?_eq_none (by simp [jc_ww_len]; omega)]
theorem jc_ww_set {b : Nat} {E0 E : jc_E} (h : ws[b]? = some E0) : (jc_ww ad dA ws).set b (ad b, jc_e ad dA E) = jc_ww ad dA (ws.set b E) := by
  have hb : b < ws.length := (List.getElem?_eq_some_iff.mp h).1
  apply List.ext_getElem?
  intro k
  rw [List.getElem?_set, jc_ww_len]
  by_cases e : b = k
  · subst e
    rw [if_pos rfl, if_pos hb, jc_ww_get (E := E) (by rw [List.getElem?_set, if_pos rfl, if_pos hb])]
  · rw [if_neg e]
    by_cases hk : k < ws.length
    · have h1 : ws[k]? = some ws[k] := List.getElem?_eq_getElem hk
      rw [jc_ww_get h1, jc_ww_get (E := ws[k]) (by rw [List.getElem?_set, if_neg e]; exact h1)]
    · rw [List.getElem?_eq_none (by rw [jc_ww_len]; omega), List.getElem?_eq_none (by rw [jc_ww_len, List.length_set]; omega)]
/-- the addresses: one behind the other -/
theorem jc_ww_D {h : Nat} (had : ∀ k, k < 1000 → ad k = h + k) (hn : ws.length ≤ 1000) : va_D (fun q : Nat => h ≤ q) (jc_ww ad dA ws) := by
  refine ⟨fun i j p q hi hj e => ?_, fun k q hk => ?_⟩
  · obtain ⟨E1, h1, rfl⟩ := jc_ww_inv hi
    obtain ⟨E2, h2, rfl⟩ := jc_ww_inv hj
    have a1 := (List.getElem?_eq_some_iff.mp h1).1
    have a2 := (List.getElem?_eq_some_iff.mp h2).1
    have e' : ad i = ad j := e
    rw [had i (by omega), had j (by omega)] at e'
    omega
  · obtain ⟨E1, h1, rfl⟩ := jc_ww_inv hk
    have a1 := (List.getElem?_eq_some_iff.mp h1).1
    show h ≤ ad k
    rw [had k (by omega)]
    omega
theorem jc_sl_app {E : jc_E} : jc_sl (ws ++ [E]) = jc_sl ws + jc_sz E := by simp [jc_sl]
theorem jc_sl_set {b : Nat} {E0 E : jc_E} (h : ws[b]? = some E0) (hz : jc_sz E = jc_sz E0) : jc_sl (ws.set b E) = jc_sl ws := by
  unfold jc_sl
  congr 1
  rw [List.map_set]
  apply List.ext_getElem?
  intro k
  rw [List.getElem?_set]
  by_cases e : b = k
  · subst e
    have hb : b < ws.length := (List.getElem?_eq_some_iff.mp h).1
    rw [if_pos rfl, if_pos (by rw [List.length_map]; exact hb), List.getElem?_map, h, hz]
    rfl
  · rw [if_neg e]
end JCW
