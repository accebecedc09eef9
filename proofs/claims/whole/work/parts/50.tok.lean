/-! TOKENS, 1: octets, letters, words as numbers to the base 37. -/
def tx (f : Nat → Int32) (T : Nat → Nat) (z : Nat) : Prop := ∀ j, j < z → T j < 256 ∧ f j = nI (T j)
def lc (o : Nat) : Nat := if 97 ≤ o ∧ o ≤ 122 then o - 96 else if 48 ≤ o ∧ o ≤ 57 then o - 21 else 0
def dgi (o : Nat) : Int32 := if 48 ≤ o ∧ o ≤ 57 then 1 else 0
def lti (o : Nat) : Int32 := if 97 ≤ o ∧ o ≤ 122 then 1 else 0
def cdf (g : Nat → Nat) : Nat → Nat
  | 0 => 0
  | n + 1 => cdf g n * 37 + g n
def s0 : jx_S := (fun _ _ => 0, fun _ _ => 0)
theorem lc_le (o : Nat) : lc o ≤ 36 := by unfold lc; split; (· omega); split <;> omega
theorem lc_inj {o p : Nat} (h0 : lc o ≠ 0) (h : lc o = lc p) : o = p := by
  unfold lc at h0 h
  split at h <;> split at h <;> (try split at h) <;> (try split at h) <;> simp_all <;> omega
theorem cdf_inj : ∀ (n m : Nat) (g g' : Nat → Nat), (∀ j, j < n → g j ≠ 0 ∧ g j ≤ 36) → (∀ j, j < m → g' j ≠ 0 ∧ g' j ≤ 36) → cdf g n = cdf g' m → n = m ∧ ∀ j, j < n → g j = g' j := by
  intro n
  induction n with
  | zero =>
    intro m g g' _ h2 h
    cases m with
    | zero => exact ⟨rfl, fun j hj => absurd hj (Nat.not_lt_zero j)⟩
    | succ m =>
      have := h2 m (by omega)
      simp only [cdf] at h
      omega
  | succ n ih =>
    intro m g g' h1 h2 h
    cases m with
    | zero =>
      have := h1 n (by omega)
      simp only [cdf] at h
      omega
    | succ m =>
      have a1 := h1 n (by omega)
      have a2 := h2 m (by omega)
      simp only [cdf] at h
      obtain ⟨e, e2⟩ := ih m g g' (fun j hj => h1 j (by omega)) (fun j hj => h2 j (by omega)) (by omega)
      refine ⟨by omega, fun j hj => ?_⟩
      by_cases hjn : j < n
      · exact e2 j hjn
      · have : j = n := by omega
        subst this
        subst e
        omega
theorem cdf_lt (g : Nat → Nat) : ∀ n, (∀ j, j < n → g j ≤ 36) → cdf g n < 37 ^ n := by
  intro n
  induction n with
  | zero => intro _; exact Nat.one_pos
  | succ n ih =>
    intro h
    have h1 := ih (fun j hj => h j (by omega))
    have h2 := h n (by omega)
    simp only [cdf, Nat.pow_succ]
    omega
theorem cdf_ge (g : Nat → Nat) : ∀ n, g 0 ≠ 0 → 37 ^ n ≤ cdf g (n + 1) := by
  intro n
  induction n with
  | zero => intro h; simp only [cdf, Nat.pow_zero]; omega
  | succ n ih =>
    intro h
    have h1 := ih h
    rw [cdf, Nat.pow_succ]
    omega
theorem cdf_congr {g g' : Nat → Nat} : ∀ n, (∀ j, j < n → g j = g' j) → cdf g n = cdf g' n := by
  intro n
  induction n with
  | zero => intro _; rfl
  | succ n ih =>
    intro h
    rw [cdf, cdf, ih (fun j hj => h j (by omega)), h n (by omega)]
theorem q_lc0 : ∀ o, o < 256 → v_cTok_letterCode (nI o) s0 = nI (lc o) ∧ v_cTok_isDigit (nI o) s0 = dgi o ∧ v_r_isDigit (nI o) s0 = dgi o ∧ v_r_isLetter (nI o) s0 = lti o := by decide +kernel
theorem q_c_lc (σ : jx_S) {o : Nat} (h : o < 256) : v_cTok_letterCode (nI o) σ = nI (lc o) := (q_lc0 o h).1
theorem q_c_dg (σ : jx_S) {o : Nat} (h : o < 256) : v_cTok_isDigit (nI o) σ = dgi o := (q_lc0 o h).2.1
theorem q_r_dg (σ : jx_S) {o : Nat} (h : o < 256) : v_r_isDigit (nI o) σ = dgi o := (q_lc0 o h).2.2.1
theorem q_r_lt (σ : jx_S) {o : Nat} (h : o < 256) : v_r_isLetter (nI o) σ = lti o := (q_lc0 o h).2.2.2
theorem dgi_1 {o : Nat} (h : 48 ≤ o ∧ o ≤ 57) : dgi o = 1 := if_pos h
theorem dgi_0 {o : Nat} (h : ¬ (48 ≤ o ∧ o ≤ 57)) : dgi o = 0 := if_neg h
theorem lti_1 {o : Nat} (h : 97 ≤ o ∧ o ≤ 122) : lti o = 1 := if_pos h
theorem lti_0 {o : Nat} (h : ¬ (97 ≤ o ∧ o ≤ 122)) : lti o = 0 := if_neg h
theorem lc_iff {o : Nat} : lc o ≠ 0 ↔ (97 ≤ o ∧ o ≤ 122) ∨ (48 ≤ o ∧ o ≤ 57) := by
  unfold lc
  split
  · omega
  · split <;> omega
theorem tx_at {f : Nat → Int32} {T : Nat → Nat} {z j : Nat} (h : tx f T z) (hj : j < z) (hz : z ≤ 4000) : jI_at 4000 f (nI j) = nI (T j) := by
  rw [jI_at_in (by omega) (by omega)]
  exact (h j hj).2
def ex (P : Nat → Prop) (z a e : Nat) : Prop := a ≤ e ∧ e ≤ z ∧ (∀ j, a ≤ j → j < e → P j) ∧ (e < z → ¬ P e)
theorem ex_is (P : Nat → Prop) (z : Nat) : ∀ m a, z - a ≤ m → a ≤ z → ∃ e, ex P z a e := by
  intro m
  induction m with
  | zero => intro a h1 h2; exact ⟨a, by omega, h2, fun j h3 h4 => by omega, fun h => by omega⟩
  | succ m ih =>
    intro a h1 h2
    by_cases hP : a < z ∧ P a
    · obtain ⟨e, e1, e2, e3, e4⟩ := ih (a + 1) (by omega) (by omega)
      refine ⟨e, by omega, e2, fun j h3 h4 => ?_, e4⟩
      by_cases hj : j = a
      · rw [hj]; exact hP.2
      · exact e3 j (by omega) h4
    · exact ⟨a, by omega, h2, fun j h3 h4 => by omega, fun h h5 => hP ⟨h, h5⟩⟩
theorem lg_eq (x y : Int64) : (lg_cmp x y = 0) = (x = y) := by
  unfold lg_cmp
  apply propext
  by_cases h : x > y
  · rw [if_pos h]
    refine ⟨fun q => absurd q (by decide), fun q => ?_⟩
    rw [q] at h
    exact absurd h (Int64.lt_irrefl)
  · rw [if_neg h]
    by_cases h2 : x = y
    · rw [if_pos h2]; exact ⟨fun _ => h2, fun _ => rfl⟩
    · rw [if_neg h2]; exact ⟨fun q => absurd q (by decide), fun q => absurd q h2⟩
theorem lg_le (x y : Int64) : (lg_cmp x y ≤ 0) = (x ≤ y) := by
  unfold lg_cmp
  apply propext
  by_cases h : x > y
  · rw [if_pos h]
    exact ⟨fun q => absurd q (by decide), fun q => absurd q (Int64.not_le.mpr h)⟩
  · rw [if_neg h]
    have h1 : x ≤ y := Int64.not_lt.mp h
    by_cases h2 : x = y
    · rw [if_pos h2]; exact ⟨fun _ => h1, fun _ => by decide⟩
    · rw [if_neg h2]; exact ⟨fun _ => h1, fun _ => by decide⟩
/-! the words -/
def wd (k : Nat) : Nat := [0, 0, 0, 12859, 620880, 16633, 347, 339, 1024211, 270401, 154036, 561, 10051963, 19511, 173031, 10307774].getD k 0
def ww (k : Nat) : Nat := [0, 0, 0, 7630441, 1953720684, 7628140, 28265, 26217, 1852139636, 1702063205, 1702060387, 26223, 521644567909, 7104878, 1936617315, 491496043109].getD k 0
def wl (k : Nat) : Nat := [0, 0, 0, 3, 4, 3, 2, 2, 4, 4, 4, 2, 5, 3, 4, 5].getD k 0
def wb (k j : Nat) : Nat := (ww k / 256 ^ j) % 256
def wkF : Nat → Nat → Nat
  | 0, _ => 1
  | n + 1, x => if wd (15 - n) = x then 15 - n else wkF n x
theorem wd_cdf : ∀ k, k < 16 → 3 ≤ k → wd k = cdf (fun j => lc (wb k j)) (wl k) ∧ 2 ≤ wl k ∧ wl k ≤ 5 ∧ 37 ≤ wd k ∧ wd k < 37 ^ 5 := by decide +kernel
theorem wd_nz : ∀ k, k < 16 → 3 ≤ k → ∀ j, j < 5 → j < wl k → lc (wb k j) ≠ 0 := by decide +kernel
theorem wd_is (g : Nat → Nat) (k n : Nat) (hk : k < 16) (h3 : 3 ≤ k) (hg : ∀ j, j < n → lc (g j) ≠ 0) : (wd k = cdf (fun j => lc (g j)) n) ↔ (n = wl k ∧ ∀ j, j < n → g j = wb k j) := by
  obtain ⟨h1, h2, h5, _, _⟩ := wd_cdf k hk h3
  constructor
  · intro h
    obtain ⟨e, e2⟩ := cdf_inj n (wl k) (fun j => lc (g j)) (fun j => lc (wb k j)) (fun j hj => ⟨hg j hj, lc_le _⟩) (fun j hj => ⟨wd_nz k hk h3 j (by omega) hj, lc_le _⟩) (by rw [← h, h1])
    exact ⟨e, fun j hj => lc_inj (hg j hj) (e2 j hj)⟩
  · rintro ⟨e, e2⟩
    rw [h1, ← e]
    exact cdf_congr n (fun j hj => by show lc _ = lc _; rw [e2 j hj])
theorem wkF_no {x : Nat} (h : x < 37 ∨ 37 ^ 5 ≤ x) : ∀ n, n ≤ 13 → wkF n x = 1 := by
  intro n
  induction n with
  | zero => intro _; rfl
  | succ n ih =>
    intro hn
    have := (wd_cdf (15 - n) (by omega) (by omega)).2.2.2
    rw [wkF, if_neg (by omega)]
    exact ih (by omega)
theorem wkF_in (x : Nat) : ∀ n, n ≤ 13 → 1 ≤ wkF n x ∧ wkF n x ≤ 15 ∧ wkF n x ≠ 2 := by
  intro n
  induction n with
  | zero => intro _; exact ⟨Nat.le_refl 1, by show 1 ≤ 15; omega, by show 1 ≠ 2; omega⟩
  | succ n ih =>
    intro hn
    rw [wkF]
    by_cases h : wd (15 - n) = x
    · rw [if_pos h]; omega
    · rw [if_neg h]; exact ih (by omega)
