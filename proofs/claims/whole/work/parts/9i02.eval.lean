/-! CONSTRUCTORS, 2: what they make. Printed by wip/gen/jcsim.py. -/
def jc_w1 : jc_W := [.inl (0, [.ref 1, .ref 3, .ref 5, .ref 6, .ref 15, .ref 34, .ref 55, .ref 58, .ref 59, .ref 68, .int 0, .int 0, .int 0]), .inl (10, [.ref 2]), .inr (0, 4000, []), .inl (10, [.ref 4]), .inr (0, 8, []), .inl (1, [.int 0, .int 0]), .inl (2, [.ref 7, .ref 9, .ref 11, .ref 13, .int 0]), .inl (10, [.ref 8]), .inr (0, 1201, []), .inl (10, [.ref 10]), .inr (0, 1201, []), .inl (11, [.ref 12]), .inr (1, 1201, []), .inl (11, [.ref 14]), .inr (1, 16, [(15, 10307774), (14, 173031), (13, 19511), (12, 10051963), (11, 561), (10, 154036), (9, 270401), (8, 1024211), (7, 339), (6, 347), (5, 16633), (4, 620880), (3, 12859)]), .inl (3, [.ref 16, .ref 18, .ref 20, .ref 22, .ref 24, .ref 26, .ref 28, .ref 30, .ref 32, .int 0]), .inl (10, [.ref 17]), .inr (0, 1201, []), .inl (10, [.ref 19]), .inr (0, 1201, []), .inl (10, [.ref 21]), .inr (0, 1201, []), .inl (10, [.ref 23]), .inr (0, 1201, []), .inl (10, [.ref 25]), .inr (0, 1201, []), .inl (10, [.ref 27]), .inr (0, 1201, []), .inl (10, [.ref 29]), .inr (0, 1201, []), .inl (10, [.ref 31]), .inr (0, 1201, []), .inl (10, [.ref 33]), .inr (0, 1201, []), .inl (4, [.ref 35, .ref 37, .ref 39, .ref 41, .ref 43, .ref 45, .ref 47, .ref 49, .ref 51, .ref 53, .int 0]), .inl (10, [.ref 36]), .inr (0, 40, []), .inl (10, [.ref 38]), .inr (0, 40, []), .inl (10, [.ref 40]), .inr (0, 40, []), .inl (10, [.ref 42]), .inr (0, 40, []), .inl (10, [.ref 44]), .inr (0, 40, []), .inl (10, [.ref 46]), .inr (0, 40, []), .inl (10, [.ref 48]), .inr (0, 40, []), .inl (10, [.ref 50]), .inr (0, 1200, []), .inl (10, [.ref 52]), .inr (0, 1200, []), .inl (10, [.ref 54]), .inr (0, 1200, []), .inl (5, [.ref 6, .ref 15, .ref 34, .ref 5, .ref 56, .int 0, .int 0, .int 0]), .inl (10, [.ref 57]), .inr (0, 30, []), .inl (6, [.ref 6, .ref 15, .ref 34, .ref 5]), .inl (7, [.ref 15, .ref 34, .ref 60, .ref 62, .ref 64, .ref 66, .int 0]), .inl (10, [.ref 61]), .inr (0, 40000, []), .inl (10, [.ref 63]), .inr (0, 40, []), .inl (10, [.ref 65]), .inr (0, 1201, []), .inl (10, [.ref 67]), .inr (0, 30, []), .inl (8, [.ref 69, .ref 71, .ref 6, .ref 15, .ref 34, .ref 73, .ref 96, .ref 98, .ref 100, .ref 102, .ref 104, .int 0, .int 0, .int 0, .int 0, .long 0, .int 0, .int 0, .int 0]), .inl (10, [.ref 70]), .inr (0, 10, []), .inl (10, [.ref 72]), .inr (0, 50, []), .inl (9, [.ref 74, .ref 76, .ref 78, .ref 80, .ref 82, .ref 84, .ref 86, .ref 88, .ref 90, .ref 92, .ref 94, .int 0, .int 0, .int 0, .int 0, .int 0, .int 0]), .inl (11, [.ref 75]), .inr (1, 3000, []), .inl (11, [.ref 77]), .inr (1, 3000, []), .inl (10, [.ref 79]), .inr (0, 3000, []), .inl (10, [.ref 81]), .inr (0, 3000, []), .inl (10, [.ref 83]), .inr (0, 3000, []), .inl (11, [.ref 85]), .inr (1, 3000, []), .inl (11, [.ref 87]), .inr (1, 30000, []), .inl (11, [.ref 89]), .inr (1, 6000, []), .inl (11, [.ref 91]), .inr (1, 6000, []), .inl (10, [.ref 93]), .inr (0, 6000, []), .inl (10, [.ref 95]), .inr (0, 6000, []), .inl (10, [.ref 97]), .inr (0, 250, []), .inl (10, [.ref 99]), .inr (0, 250, []), .inl (10, [.ref 101]), .inr (0, 250, []), .inl (11, [.ref 103]), .inr (1, 2000, []), .inl (11, [.ref 105]), .inr (1, 8, [])]
def jc_w2 : jc_W := [.inl (0, [.ref 1, .ref 3, .ref 5, .ref 6, .ref 15, .ref 34, .ref 55, .ref 58, .ref 59, .ref 68, .int 0, .int 0, .int 0]), .inl (10, [.ref 2]), .inr (0, 4000, []), .inl (10, [.ref 4]), .inr (0, 8, []), .inl (1, [.int 0, .int 0]), .inl (2, [.ref 7, .ref 9, .ref 11, .ref 13, .int 0]), .inl (10, [.ref 8]), .inr (0, 1201, []), .inl (10, [.ref 10]), .inr (0, 1201, []), .inl (11, [.ref 12]), .inr (1, 1201, []), .inl (11, [.ref 14]), .inr (1, 16, [(15, 10307774), (14, 173031), (13, 19511), (12, 10051963), (11, 561), (10, 154036), (9, 270401), (8, 1024211), (7, 339), (6, 347), (5, 16633), (4, 620880), (3, 12859)]), .inl (3, [.ref 16, .ref 18, .ref 20, .ref 22, .ref 24, .ref 26, .ref 28, .ref 30, .ref 32, .int 0]), .inl (10, [.ref 17]), .inr (0, 1201, []), .inl (10, [.ref 19]), .inr (0, 1201, []), .inl (10, [.ref 21]), .inr (0, 1201, []), .inl (10, [.ref 23]), .inr (0, 1201, []), .inl (10, [.ref 25]), .inr (0, 1201, []), .inl (10, [.ref 27]), .inr (0, 1201, []), .inl (10, [.ref 29]), .inr (0, 1201, []), .inl (10, [.ref 31]), .inr (0, 1201, []), .inl (10, [.ref 33]), .inr (0, 1201, []), .inl (4, [.ref 35, .ref 37, .ref 39, .ref 41, .ref 43, .ref 45, .ref 47, .ref 49, .ref 51, .ref 53, .int 0]), .inl (10, [.ref 36]), .inr (0, 40, []), .inl (10, [.ref 38]), .inr (0, 40, []), .inl (10, [.ref 40]), .inr (0, 40, []), .inl (10, [.ref 42]), .inr (0, 40, []), .inl (10, [.ref 44]), .inr (0, 40, []), .inl (10, [.ref 46]), .inr (0, 40, []), .inl (10, [.ref 48]), .inr (0, 40, []), .inl (10, [.ref 50]), .inr (0, 1200, []), .inl (10, [.ref 52]), .inr (0, 1200, []), .inl (10, [.ref 54]), .inr (0, 1200, []), .inl (5, [.ref 6, .ref 15, .ref 34, .ref 5, .ref 56, .int 0, .int 0, .int 0]), .inl (10, [.ref 57]), .inr (0, 30, []), .inl (6, [.ref 6, .ref 15, .ref 34, .ref 5]), .inl (7, [.ref 15, .ref 34, .ref 60, .ref 62, .ref 64, .ref 66, .int 0]), .inl (10, [.ref 61]), .inr (0, 40000, []), .inl (10, [.ref 63]), .inr (0, 40, []), .inl (10, [.ref 65]), .inr (0, 1201, []), .inl (10, [.ref 67]), .inr (0, 30, []), .inl (8, [.ref 69, .ref 71, .ref 6, .ref 15, .ref 34, .ref 73, .ref 96, .ref 98, .ref 100, .ref 102, .ref 104, .int 0, .int 0, .int 0, .int 0, .long 0, .int 0, .int 0, .int 0]), .inl (10, [.ref 70]), .inr (0, 10, []), .inl (10, [.ref 72]), .inr (0, 50, []), .inl (9, [.ref 74, .ref 76, .ref 78, .ref 80, .ref 82, .ref 84, .ref 86, .ref 88, .ref 90, .ref 92, .ref 94, .int 0, .int 0, .int 0, .int 0, .int 0, .int 0]), .inl (11, [.ref 75]), .inr (1, 3000, []), .inl (11, [.ref 77]), .inr (1, 3000, []), .inl (10, [.ref 79]), .inr (0, 3000, []), .inl (10, [.ref 81]), .inr (0, 3000, []), .inl (10, [.ref 83]), .inr (0, 3000, []), .inl (11, [.ref 85]), .inr (1, 3000, []), .inl (11, [.ref 87]), .inr (1, 30000, []), .inl (11, [.ref 89]), .inr (1, 6000, []), .inl (11, [.ref 91]), .inr (1, 6000, []), .inl (10, [.ref 93]), .inr (0, 6000, []), .inl (10, [.ref 95]), .inr (0, 6000, []), .inl (10, [.ref 97]), .inr (0, 250, []), .inl (10, [.ref 99]), .inr (0, 250, []), .inl (10, [.ref 101]), .inr (0, 250, []), .inl (11, [.ref 103]), .inr (1, 2000, []), .inl (11, [.ref 105]), .inr (1, 8, []), .inl (12, [.ref 107, .int 0, .int 0, .int 0, .int 0, .int (-1), .ref 108, .ref 109, .ref 110, .ref 111, .int 0, .ref 112, .ref 113, .ref 114, .ref 115, .ref 116, .ref 117, .ref 118, .ref 119, .ref 120, .ref 121, .ref 122, .ref 123, .ref 124, .ref 125, .int 0, .ref 126, .ref 127, .ref 128, .ref 129, .ref 130, .ref 131, .ref 132, .ref 133, .ref 134, .ref 135, .ref 136, .ref 137, .int 0, .int 0, .int 0, .int 0, .ref 138, .ref 139, .ref 140, .int 0, .ref 141, .int 0, .int 0, .int 0, .ref 142, .ref 143, .int 0, .ref 144, .ref 145, .int 0, .int 0, .ref 146, .ref 147, .ref 148, .ref 149, .ref 150, .int 0, .ref 151, .ref 152, .ref 153, .ref 154, .int 0, .ref 155, .ref 156, .int 0, .ref 157, .ref 158, .ref 159, .int 0, .ref 160, .int 0, .ref 161, .ref 162, .ref 163, .ref 164, .ref 165, .int 0, .int 0, .ref 166, .int 0, .int 0, .int 0, .int 0, .int 0, .long 0, .int 0, .int 0, .int 0, .ref 167, .int 0, .int 0, .ref 168, .int 0, .ref 169, .ref 170, .int 0]), .inr (0, 4000, []), .inr (0, 1202, []), .inr (0, 1202, []), .inr (0, 1202, []), .inr (0, 1202, []), .inr (0, 3000, []), .inr (0, 3000, []), .inr (0, 3000, []), .inr (0, 3000, []), .inr (0, 3000, []), .inr (0, 3000, []), .inr (0, 3000, []), .inr (0, 3000, []), .inr (0, 3000, []), .inr (0, 3000, []), .inr (0, 3000, []), .inr (0, 3000, []), .inr (0, 3000, []), .inr (2, 3000, []), .inr (0, 40, []), .inr (0, 40, []), .inr (0, 40, []), .inr (0, 40, []), .inr (0, 40, []), .inr (0, 40, []), .inr (0, 40, []), .inr (0, 40, []), .inr (0, 320, []), .inr (0, 320, []), .inr (2, 320, []), .inr (0, 1200, []), .inr (0, 4000, []), .inr (0, 4000, []), .inr (0, 4000, []), .inr (0, 3000, []), .inr (0, 64, []), .inr (0, 64, []), .inr (0, 3000, []), .inr (0, 3000, []), .inr (0, 40000, []), .inr (0, 40000, []), .inr (0, 3000, []), .inr (0, 32, []), .inr (1, 30000, []), .inr (0, 3000, []), .inr (0, 3000, []), .inr (0, 3000, []), .inr (1, 3000, []), .inr (1, 3000, []), .inr (1, 3000, []), .inr (1, 6000, []), .inr (0, 6000, []), .inr (0, 6000, []), .inr (1, 6000, []), .inr (0, 251, []), .inr (0, 251, []), .inr (0, 251, []), .inr (0, 251, []), .inr (1, 251, []), .inr (1, 4000, []), .inr (0, 50, []), .inr (0, 8, []), .inr (0, 3000, []), .inr (0, 3000, [])]
def jc_pl : List Nat := [0, 5, 6, 15, 34, 55, 58, 59, 68, 73, 1, 2, 3, 4, 7, 8, 9, 10, 11, 12, 13, 14, 16, 17, 18, 19, 20, 21, 22, 23, 24, 25, 26, 27, 28, 29, 30, 31, 32, 33, 35, 36, 37, 38, 39, 40, 41, 42, 43, 44, 45, 46, 47, 48, 49, 50, 51, 52, 53, 54, 56, 57, 60, 61, 62, 63, 64, 65, 66, 67, 69, 70, 71, 72, 96, 97, 98, 99, 100, 101, 102, 103, 104, 105, 74, 75, 76, 77, 78, 79, 80, 81, 82, 83, 84, 85, 86, 87, 88, 89, 90, 91, 92, 93, 94, 95, 106, 107, 108, 109, 110, 111, 112, 113, 114, 115, 116, 117, 118, 119, 120, 121, 122, 123, 124, 125, 126, 127, 128, 129, 130, 131, 132, 133, 134, 135, 136, 137, 138, 139, 140, 141, 142, 143, 144, 145, 146, 147, 148, 149, 150, 151, 152, 153, 154, 155, 156, 157, 158, 159, 160, 161, 162, 163, 164, 165, 166, 167, 168, 169, 170, 171]
def jc_p (k : Nat) : Nat := jc_pl.getD k 5000
def jc_w3 : jc_W := jc_w2 ++ [.inr (1, 1, [])]
def jc_veq (a b : Value) : Bool := match a, b with
  | .int x, .int y => x == y
  | .long x, .long y => x == y
  | .ref x, .ref y => x == y
  | .null, .null => true
  | _, _ => false
def jc_vseq : List Value → List Value → Bool
  | [], [] => true
  | a :: r, b :: q => jc_veq a b && jc_vseq r q
  | _, _ => false
def jc_eeq (a b : jc_E) : Bool := match a, b with
  | .inl (c, f), .inl (c1, f1) => c == c1 && jc_vseq f f1
  | .inr (t, n, w), .inr (t1, n1, w1) => t == t1 && n == n1 && w == w1
  | _, _ => false
def jc_weq : jc_W → jc_W → Bool
  | [], [] => true
  | a :: r, b :: q => jc_eeq a b && jc_weq r q
  | _, _ => false
theorem jc_veq_eq {a b : Value} (h : jc_veq a b = true) : a = b := by
  unfold jc_veq at h
  split at h <;> simp_all
theorem jc_vseq_eq : ∀ {a b : List Value}, jc_vseq a b = true → a = b
  | [], [], _ => rfl
  | a :: r, b :: q, h => by
    simp only [jc_vseq, Bool.and_eq_true] at h
    rw [jc_veq_eq h.1, jc_vseq_eq h.2]
  | [], _ :: _, h => by cases h
  | _ :: _, [], h => by cases h
theorem jc_eeq_eq {a b : jc_E} (h : jc_eeq a b = true) : a = b := by
  unfold jc_eeq at h
  split at h
  · simp only [Bool.and_eq_true, beq_iff_eq] at h
    rw [h.1, jc_vseq_eq h.2]
  · simp only [Bool.and_eq_true, beq_iff_eq] at h
    rw [h.1.1, h.1.2, h.2]
  · cases h
theorem jc_weq_eq : ∀ {a b : jc_W}, jc_weq a b = true → a = b
  | [], [], _ => rfl
  | a :: r, b :: q, h => by
    simp only [jc_weq, Bool.and_eq_true] at h
    rw [jc_eeq_eq h.1, jc_weq_eq h.2]
  | [], _ :: _, h => by cases h
  | _ :: _, [], h => by cases h
def jc_is (r : Option (Option Value × jc_W)) (ws : jc_W) : Bool := match r with
  | some (none, w) => jc_weq w ws
  | _ => false
theorem jc_is_eq {r : Option (Option Value × jc_W)} {ws : jc_W} (h : jc_is r ws = true) : r = some (none, ws) := by
  unfold jc_is at h
  split at h
  · rw [jc_weq_eq h]
  · cases h
theorem jc_run1 : jc_run 3000 6 0 0 (lv_args 0 [.ref 0]) [] [.inl (0, jc_def 0)] = some (none, jc_w1) := jc_is_eq (by decide +kernel)
theorem jc_run2 : jc_run 3000 6 12 0 (lv_args 0 [.ref 106]) [] (jc_w1 ++ [.inl (12, jc_def 12)]) = some (none, jc_w2) := jc_is_eq (by decide +kernel)
def jc_vok (k j kd : Nat) (v : Value) : Bool := match kd, v with
  | 0, .int x => x == jS0.1 k j
  | 1, .long x => x == jS0.2 k j
  | 2, .int x => x == jS0.1 k j
  | t + 3, .ref x => x == jc_p t
  | _, _ => false
def jc_ok (k : Nat) : Bool := match jt_O k, jc_w3[jc_p k]? with
  | .inl (ci, kds), some (.inl (c1, fs)) => ci == c1 && kds.length == fs.length && (List.range kds.length).all fun j => jc_vok k j (kds.getD j 0) (fs.getD j .null)
  | .inr (t, n), some (.inr (t1, n1, w)) => t == t1 && n == n1 && (if k = 21 then n == 16 && (List.range n).all fun j => (w.lookup j).getD 0 == jS0.2 21 j else w.length == 0)
  | _, _ => false
theorem jc_okA : (List.range 172).all jc_ok = true := by decide +kernel
theorem jc_pA : (List.range 172).all (fun k => decide (jc_p k < 172)) = true ∧ jc_pl.Nodup := by decide +kernel
theorem jc_slA : (jc_w3.map (fun E => match E with | .inl (_, fs) => fs.length | .inr (_, n, _) => n)).sum ≤ 7200000 := by decide +kernel
