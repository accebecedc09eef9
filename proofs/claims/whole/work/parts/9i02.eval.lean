/-! CONSTRUCTORS, 2: what they make. -/
/-- the worlds on the law's way: behind LazyStrict(), behind LazyStrictModel(), with out -/
def jc_w1 : jc_W := ((jc_run 3000 6 0 0 (lv_args 0 [.ref 0]) [] [.inl (0, jc_def 0)]).map (fun q => q.2)).getD []
def jc_w2 : jc_W := ((jc_run 3000 6 12 0 (lv_args 0 [.ref 106]) [] (jc_w1 ++ [.inl (12, jc_def 12)])).map (fun q => q.2)).getD []
def jc_w3 : jc_W := jc_w2 ++ [.inr (1, 1, [])]
/-- which of them is the object k -/
def jc_pm (ws : jc_W) : List (Nat × Nat) := (List.range 172).foldl (fun acc k => match jt_O k, ws[(acc.lookup k).getD 5000]? with
  | .inl (_, kds), some (.inl (_, fs)) => acc ++ ((List.range kds.length).filterMap fun j => if kds.getD j 0 < 3 then none else (match fs.getD j .null with
    | .ref x => some (kds.getD j 0 - 3, x)
    | _ => none))
  | _, _ => acc) [(0, 0), (106, 106), (171, 171)]
def jc_p (k : Nat) : Nat := ((jc_pm jc_w3).lookup k).getD 5000
def jc_vok (π : Nat → Nat) (k j kd : Nat) (v : Value) : Bool := match kd, v with
  | 0, .int x => x == jS0.1 k j
  | 1, .long x => x == jS0.2 k j
  | 2, .int x => x == jS0.1 k j
  | t + 3, .ref x => x == π t
  | _, _ => false
def jc_ok (π : Nat → Nat) (ws : jc_W) (k : Nat) : Bool := match jt_O k, ws[π k]? with
  | .inl (ci, kds), some (.inl (c1, fs)) => ci == c1 && kds.length == fs.length && (List.range kds.length).all fun j => jc_vok π k j (kds.getD j 0) (fs.getD j .null)
  | .inr (t, n), some (.inr (t1, n1, w)) => t == t1 && n == n1 && (if k = 21 then (List.range n).all fun j => (w.lookup j).getD 0 == jS0.2 21 j else w.length == 0)
  | _, _ => false
theorem jc_e1 : (jc_run 3000 6 0 0 (lv_args 0 [.ref 0]) [] [.inl (0, jc_def 0)]).map (fun q => q.2.length) = some 106 := by decide +kernel
