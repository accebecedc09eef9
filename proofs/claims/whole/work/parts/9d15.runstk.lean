/-! RUNS, 15: the stack of workings, as it is meant. -/
abbrev jSt : Type := Nat × (Nat → Nat) × (Nat → Nat) × (Nat → Nat) × (Nat → Nat) × (Nat → Nat → aV)
def jSd (S : jSt) : Nat := S.1
def jSk (S : jSt) : Nat → Nat := S.2.1
def jSf (S : jSt) : Nat → Nat := S.2.2.1
def jSg (S : jSt) : Nat → Nat := S.2.2.2.1
def jSl (S : jSt) : Nat → Nat := S.2.2.2.2.1
def jSw (S : jSt) : Nat → Nat → aV := S.2.2.2.2.2
/-- the reference's stage -/
def rstg (K sg : Nat) : Nat := if sg = 100 then (if 28 ≤ K then 1000 else 2) else if K = 29 ∧ sg % 2 = 1 then 500 + sg / 2 else sg
/-- how many atoms are kept for a call -/
def kept (K sg : Nat) : Nat := if K = 29 ∧ sg % 2 = 1 then sg / 2 else 0
def keptS (D : Nat → jDs) (S : jSt) (d : Nat) : Nat := kept (dK (D (jSk S d))) (jSg S d)
/-- the first part that is not used -/
def unus (K m sg : Nat) : Nat := if sg = 100 then m else if K = 29 ∧ sg % 2 = 1 then sg / 2 + 1 else sg
/-- the type of what a working waits for -/
def xtyp (W : Nat → Nat) (D : Nat → jDs) (k sg : Nat) : Nat := if sg = 100 ∨ dK (D k) = 28 then W k else if dK (D k) = 29 then W (dC (D k) (sg / 2)) else if dK (D k) = 5 then W (dC (D k) 0) else if dK (D k) = 10 then 1 else 0
/-- which stages there are -/
def stgOK (K m sg : Nat) : Prop := sg = 0 ∨ (K = 28 ∧ m = 0 ∧ sg = 1) ∨ (K = 28 ∧ 0 < m ∧ sg = 100) ∨ (K = 29 ∧ (sg = 100 ∨ (sg % 2 = 1 ∧ sg / 2 < m))) ∨ ((K = 5 ∨ K = 7 ∨ K = 10) ∧ (sg = 1 ∨ sg = 100)) ∨ ((K = 19 ∨ (23 ≤ K ∧ K ≤ 27)) ∧ (sg = 1 ∨ sg = 2))
def RStk (D : Nat → jDs) (H : jHp) (S : jSt) (τ ρ : jx_S) : Prop := (τ.1 8 11 = nI (jSd S) ∧ ρ.1 106 82 = nI (jSd S) ∧ jSd S ≤ 250) ∧ ρ.1 106 85 = nI (sumN (keptS D S) (jSd S)) ∧ ∀ d, d < jSd S → (τ.1 75 d = nI (jSk S d + 1) ∧ ρ.1 161 d = nI (jSk S d)) ∧ (τ.1 77 d = nI (jFb H (jSf S d)) ∧ ρ.1 162 d = nI (jFb H (jSf S d))) ∧ (τ.1 79 d = nI (jSg S d) ∧ ρ.1 163 d = nI (rstg (dK (D (jSk S d))) (jSg S d))) ∧ ρ.1 164 d = (if jSl S d = 0 then -1 else nI (jSl S d - 1)) ∧ (∀ j, j < keptS D S d → τ.2 81 (8 * d + j) = cV (jSw S d j) ∧ ρ.2 166 (sumN (keptS D S) d + j) = rV (jSw S d j)) ∧ (dK (D (jSk S d)) < 28 → jSg S d = 2 → τ.2 81 (8 * d) = cV (jSw S d 0) ∧ ρ.2 165 d = rV (jSw S d 0))
/-- what holds of one working -/
def SE (E : jEn) (G : jGh) (F : Nat) (nS pN bN lN' : Nat → Nat) (ty : Nat → Nat → Nat) (W : Nat → Nat) (D : Nat → jDs) (tk LO : Nat → Nat) (sl sp : Nat → Nat → Nat) (H : jHp) (S : jSt) (d : Nat) : Prop := (jSf S d < jFn H ∧ nS (jFf H (jSf S d)) ≤ jSk S d ∧ jSk S d < nS (jFf H (jSf S d) + 1)) ∧ W (jSk S d) < 2 ∧ (∀ s, gV G (jSk S d) s → jLb H (jSf S d) s) ∧ jOw H (jSk S d) (jSf S d) = 0 ∧ stgOK (dK (D (jSk S d))) (dM (D (jSk S d))) (jSg S d) ∧
  (∀ i, unus (dK (D (jSk S d))) (dM (D (jSk S d))) (jSg S d) ≤ i → i < dM (D (jSk S d)) → ∀ c, LO (dC (D (jSk S d)) i) ≤ c → c ≤ dC (D (jSk S d)) i → jOw H c (jSf S d) = 2 * d + 1) ∧
  (jSg S d < 2 → ∀ s, bsD D (jSk S d) s → ¬ jLb H (jSf S d) s) ∧
  (jSl S d ≠ 0 → jSl S d ≤ jPn H ∧ jPs H (jSl S d - 1) = 1 ∧ W (jPk H (jSl S d - 1)) = W (jSk S d)) ∧
  (∀ j, j < keptS D S d → VT F pN bN ty W H (ty (dG (D (jSk S d))) j) (jSw S d j))
/-- what a working waits for -/
def SW (W : Nat → Nat) (D : Nat → jDs) (H : jHp) (S : jSt) (d l : Nat) : Prop := jSg S d ≠ 0 ∧ (dK (D (jSk S d)) = 28 → dM (D (jSk S d)) = 0 → l ≠ 0 ∧ jLv H (jSf S d) (dS (D (jSk S d))) = (3, nI (l - 1))) ∧ (¬ (dK (D (jSk S d)) = 28 ∧ dM (D (jSk S d)) = 0) → l = 0)
/-- the stack: bt the type of the whole, fc what is forced (and 1) -/
def SI0 (E : jEn) (G : jGh) (F : Nat) (nS pN bN lN' : Nat → Nat) (ty : Nat → Nat → Nat) (W : Nat → Nat) (D : Nat → jDs) (tk LO : Nat → Nat) (sl sp : Nat → Nat → Nat) (H : jHp) (S : jSt) (bt fc : Nat) : Prop := (∀ d, d < jSd S → SE E G F nS pN bN lN' ty W D tk LO sl sp H S d) ∧ (∀ d, d + 1 < jSd S → SW W D H S d (jSl S (d + 1)) ∧ W (jSk S (d + 1)) = xtyp W D (jSk S d) (jSg S d)) ∧ (0 < jSd S → W (jSk S 0) = bt ∧ jSl S 0 = fc) ∧ (∀ d e, d < jSd S → e < jSd S → jSl S d ≠ 0 → jSl S d = jSl S e → d = e)
/-- who is being worked is on the stack, or has just been worked -/
def BZ (H : jHp) (S : jSt) (pd : Nat) : Prop := ∀ i, i < jPn H → jPs H i = 1 → pd = i + 1 ∨ ∃ d, d < jSd S ∧ jSl S d = i + 1
/-- its top: pd what has just been worked (and 1), an the answer -/
def TOP (E : jEn) (G : jGh) (F : Nat) (nS pN bN lN' : Nat → Nat) (ty : Nat → Nat → Nat) (W : Nat → Nat) (D : Nat → jDs) (tk LO : Nat → Nat) (sl sp : Nat → Nat → Nat) (H : jHp) (S : jSt) (pd : Nat) (an : aV) (bt fc : Nat) : Prop := (jSd S = 0 → an.1 < 3 ∧ VT F pN bN ty W H bt an ∧ pd = fc) ∧
  (0 < jSd S → (jSg S (jSd S - 1) = 0 ∧ pd = 0) ∨ (SW W D H S (jSd S - 1) pd ∧ an.1 < 3 ∧ VT F pN bN ty W H (xtyp W D (jSk S (jSd S - 1)) (jSg S (jSd S - 1))) an)) ∧
  (pd ≠ 0 → pd ≤ jPn H ∧ jPs H (pd - 1) = 1 ∧ VT F pN bN ty W H (W (jPk H (pd - 1))) an) ∧ (∀ d, d < jSd S → jSl S d ≠ 0 → jSl S d ≠ pd) ∧ BZ H S pd
/-- the counts, while the run goes on -/
def RSc (τ ρ : jx_S) (st lm go : Nat) : Prop := τ.1 8 14 = 0 ∧ ρ.1 106 87 = 0 ∧ (τ.1 71 0 = nI st ∧ ρ.1 106 88 = nI st ∧ st ≤ lm ∧ lm ≤ 50000) ∧ (τ.1 8 12 = nI lm ∧ ρ.1 106 89 = nI lm) ∧ (∃ dd, dd ≤ 250 ∧ τ.1 71 4 = nI dd ∧ ρ.1 106 83 = nI dd) ∧ (τ.1 71 8 = ρ.1 106 91 ∧ τ.1 71 9 = ρ.1 106 92) ∧ (τ.1 8 13 = ρ.1 106 86 ∧ (τ.1 8 13 = 0 ∨ τ.1 8 13 = 1)) ∧ (τ.1 71 5 = 0 ∧ τ.1 71 6 = nI go ∧ τ.1 71 7 = 0) ∧ (ρ.1 106 93 = 0 ∧ ρ.1 106 95 = nI go ∧ ρ.1 106 96 = 0)
def dnN (H : jHp) : Nat := sumN (fun i => if jPs H i = 2 then 1 else 0) (jPn H)
/-- the run in both, but for the top -/
def RU0 (E : jEn) (G : jGh) (F : Nat) (nS pN bN lN' : Nat → Nat) (ty : Nat → Nat → Nat) (W : Nat → Nat) (D : Nat → jDs) (tk LO : Nat → Nat) (sl sp : Nat → Nat → Nat) (H : jHp) (S : jSt) (pd : Nat) (an : aV) (bt fc st lm go : Nat) (τ ρ : jx_S) : Prop := RP E G F nS pN bN lN' ty W D tk LO sl sp τ ρ ∧ (RPu H pd an τ ρ ∧ RCe H τ ρ ∧ RPa H τ ρ ∧ RGo H (fun x => x < jAn H) τ ρ ∧ RLo lN' H τ ρ) ∧ RStk D H S τ ρ ∧ RSc τ ρ st lm go ∧ HI E G F nS pN bN lN' ty W D tk LO sl sp H (fun x => x < jAn H) ∧ SI0 E G F nS pN bN lN' ty W D tk LO sl sp H S bt fc ∧ τ.1 9 13 = nI (dnN H)
/-- the run in both -/
def RUN (E : jEn) (G : jGh) (F : Nat) (nS pN bN lN' : Nat → Nat) (ty : Nat → Nat → Nat) (W : Nat → Nat) (D : Nat → jDs) (tk LO : Nat → Nat) (sl sp : Nat → Nat → Nat) (H : jHp) (S : jSt) (pd : Nat) (an : aV) (bt fc st lm go : Nat) (τ ρ : jx_S) : Prop := RU0 E G F nS pN bN lN' ty W D tk LO sl sp H S pd an bt fc st lm go τ ρ ∧ TOP E G F nS pN bN lN' ty W D tk LO sl sp H S pd an bt fc ∧ (jSd S = 0 ∨ jSg S (jSd S - 1) ≠ 0 → τ.2 8 15 = cV an ∧ ρ.2 106 90 = rV an)
/-- how much is to be done, at most -/
def remS (sg : Nat) : Nat := if sg = 100 then 1 else 18 - sg
def mea (S : jSt) (st lm : Nat) : Nat := 18 * (lm - st) + sumN (fun d => remS (jSg S d)) (jSd S)
/-- the run has come to its end within a working: the counts -/
def EN (H : jHp) (go : Nat) (τ ρ : jx_S) : Prop := (∃ en, 2 ≤ en ∧ en ≤ 5 ∧ τ.1 8 14 = nI en ∧ ρ.1 106 87 = nI en) ∧ (τ.1 71 0 = ρ.1 106 88 ∧ τ.1 71 4 = ρ.1 106 83 ∧ τ.1 71 8 = ρ.1 106 91 ∧ τ.1 71 9 = ρ.1 106 92) ∧ τ.1 9 11 = ρ.1 106 70 ∧ (jPn H ≤ 3000 ∧ τ.1 9 12 = nI (jPn H) ∧ ρ.1 106 67 = nI (jPn H) ∧ τ.1 9 13 = nI (dnN H) ∧ ∀ i, i < jPn H → ρ.1 153 i = nI (jPs H i) ∧ jPs H i < 3) ∧ (τ.1 71 5 = 0 ∧ τ.1 71 6 = nI go ∧ τ.1 71 7 = 0) ∧ (ρ.1 106 93 = 0 ∧ ρ.1 106 95 = nI go ∧ ρ.1 106 96 = 0)
