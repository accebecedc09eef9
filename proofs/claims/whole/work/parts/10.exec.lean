/-! A PURE MACHINE: the bytecode of methods that make nothing, over numbered objects. Objects are known by their numbers; their int and long cells are two functions. -/
abbrev jx_S : Type := (Nat → Nat → Int32) × (Nat → Nat → Int64)
abbrev jx_L : Type := List (Nat × Value)
abbrev jx_C : Type := Nat → Nat → Option (Instr × Nat × Nat)
abbrev jx_O : Type := Nat → (Nat × List Nat) ⊕ (Nat × Nat)
abbrev jx_M : Type := Nat → Bool × Nat × Nat × Nat
abbrev jx_R : Type := (Nat × jx_L × List Value × jx_S) ⊕ (Option Value ⊕ (Nat × List Value × Nat × List Value))
/-- a store into the ints, into the longs -/
def jx_i (σ : jx_S) (k j : Nat) (x : Int32) : jx_S := (fun a b => if a = k ∧ b = j then x else σ.1 a b, σ.2)
def jx_l (σ : jx_S) (k j : Nat) (x : Int64) : jx_S := (σ.1, fun a b => if a = k ∧ b = j then x else σ.2 a b)
/-- what a field holds: kinds 0 int, 1 long, 2 boolean, t + 3 the object t -/
def jx_rd (σ : jx_S) (k j : Nat) : Nat → Value
  | 0 => .int (σ.1 k j)
  | 1 => .long (σ.2 k j)
  | 2 => .int (σ.1 k j)
  | t + 3 => .ref t
def jx_len : Instr → Nat
  | .iconst _ => 1 | .bipush _ => 2 | .sipush _ => 3 | .lconst _ => 1 | .ldc _ => 2 | .ldc2_w _ => 3 | .ldc_w _ => 3
  | .iload _ => 2 | .iload_n _ => 1 | .lload _ => 2 | .lload_n _ => 1 | .aload _ => 2 | .aload_n _ => 1
  | .istore _ => 2 | .istore_n _ => 1 | .lstore _ => 2 | .lstore_n _ => 1 | .astore _ => 2 | .astore_n _ => 1
  | .iinc _ _ => 3 | .goto _ => 3 | .ifCond _ _ => 3 | .if_icmp _ _ => 3 | .getfield _ => 3 | .putfield _ => 3
  | .invokevirtual _ => 3 | .invokestatic _ => 3
  | .tableswitch _ _ _ _ => 0 | .lookupswitch _ _ => 0
  | _ => 1
def jx_cd (c : ClassFile.Cond) (x y : Int32) : Bool := match c with
  | .eq => decide (x = y) | .ne => decide (¬ x = y) | .lt => decide (x < y) | .ge => decide (y ≤ x) | .gt => decide (y < x) | .le => decide (x ≤ y)
abbrev jx_nx (pc : Nat) (l : jx_L) (st : List Value) (σ : jx_S) : Option jx_R := some (.inl (pc, l, st, σ))
def jx_go (pc : Nat) (off : Int) (l : jx_L) (st : List Value) (σ : jx_S) : Option jx_R := if (pc : Int) + off < 0 then none else jx_nx ((pc : Int) + off).toNat l st σ
def jx_br (pc : Nat) (off : Int) (b : Bool) (l : jx_L) (st : List Value) (σ : jx_S) : Option jx_R := if (pc : Int) + off < 0 then none else if b = true then jx_nx ((pc : Int) + off).toNat l st σ else jx_nx (pc + 3) l st σ
def jx_st1 (l : jx_L) (i : Nat) (v : Value) : jx_L := (i, v) :: l.filter (fun q => !(q.1 == i) && !(q.1 + 1 == i && q.2.category == 2))
def jx_st2 (l : jx_L) (i : Nat) (v : Value) : jx_L := (i, v) :: l.filter (fun q => !(q.1 == i) && (!(q.1 == i + 1) && !(q.1 + 1 == i && q.2.category == 2)))
def jx_i2 (st : List Value) (k : Int32 → Int32 → List Value → Option jx_R) : Option jx_R := match st with
  | .int y :: .int x :: r => k x y r
  | _ => none
def jx_l2 (st : List Value) (k : Int64 → Int64 → List Value → Option jx_R) : Option jx_R := match st with
  | .long y :: .long x :: r => k x y r
  | _ => none
def jx_li (st : List Value) (k : Int64 → Int32 → List Value → Option jx_R) : Option jx_R := match st with
  | .int y :: .long x :: r => k x y r
  | _ => none
def jx_i1 (st : List Value) (k : Int32 → List Value → Option jx_R) : Option jx_R := match st with
  | .int x :: r => k x r
  | _ => none
def jx_l1 (st : List Value) (k : Int64 → List Value → Option jx_R) : Option jx_R := match st with
  | .long x :: r => k x r
  | _ => none
def jx_li0 (l : jx_L) (i : Nat) (k : Int32 → Option jx_R) : Option jx_R := match l.lookup i with
  | some (.int x) => k x
  | _ => none
def jx_ll0 (l : jx_L) (i : Nat) (k : Int64 → Option jx_R) : Option jx_R := match l.lookup i with
  | some (.long x) => k x
  | _ => none
def jx_la0 (l : jx_L) (i : Nat) (k : Nat → Option jx_R) : Option jx_R := match l.lookup i with
  | some (.ref x) => k x
  | _ => none
def jx_a1 (st : List Value) (k : Nat → List Value → Option jx_R) : Option jx_R := match st with
  | .ref x :: r => k x r
  | _ => none
/-- an array of kind t and length n at the object k: 0 ints, 1 longs, 2 booleans -/
def jx_ar (O : jx_O) (N k t : Nat) (i : Int32) (q : Nat → Option jx_R) : Option jx_R := if k < N then (match O k with
  | .inr (t1, n) => if t1 = t then (if i < 0 ∨ n ≤ i.toNatClampNeg then none else q n) else none
  | .inl _ => none) else none
def jx_ob (O : jx_O) (N k ci j : Nat) (q : Nat → Option jx_R) : Option jx_R := if k < N then (match O k with
  | .inl (c1, kds) => if c1 = ci then (match kds[j]? with
    | some kd => q kd
    | none => none) else none
  | .inr _ => none) else none
def jx_w8 (st : List Value) : Bool := decide ((st.map fun v => v.category).sum ≤ 8)
def jx_wn (st : List Value) : Nat := (st.map fun v => v.category).sum
def jx_put (O : jx_O) (N ci j pc : Nat) (l : jx_L) (st : List Value) (σ : jx_S) : Option jx_R := match st with
  | .int x :: .ref k :: r => jx_ob O N k ci j (fun kd => if kd = 0 then jx_nx (pc + 3) l r (jx_i σ k j x) else if kd = 2 then (if x = 0 ∨ x = 1 then jx_nx (pc + 3) l r (jx_i σ k j x) else none) else none)
  | .long x :: .ref k :: r => jx_ob O N k ci j (fun kd => if kd = 1 then jx_nx (pc + 3) l r (jx_l σ k j x) else none)
  | _ => none
def jx_ast (O : jx_O) (N pc : Nat) (t : Nat) (l : jx_L) (st : List Value) (σ : jx_S) : Option jx_R := match st with
  | .int x :: .int i :: .ref k :: r => jx_ar O N k t i (fun _ => if t = 2 then (if x = 0 ∨ x = 1 then jx_nx (pc + 1) l r (jx_i σ k i.toNatClampNeg x) else none) else jx_nx (pc + 1) l r (jx_i σ k i.toNatClampNeg x))
  | _ => none
def jx_lst (O : jx_O) (N pc : Nat) (l : jx_L) (st : List Value) (σ : jx_S) : Option jx_R := match st with
  | .long x :: .int i :: .ref k :: r => jx_ar O N k 1 i (fun _ => jx_nx (pc + 1) l r (jx_l σ k i.toNatClampNeg x))
  | _ => none
def jx_ald (O : jx_O) (N pc t : Nat) (l : jx_L) (st : List Value) (σ : jx_S) : Option jx_R := match st with
  | .int i :: .ref k :: r => jx_ar O N k t i (fun _ => jx_nx (pc + 1) l ((if t = 1 then Value.long (σ.2 k i.toNatClampNeg) else .int (σ.1 k i.toNatClampNeg)) :: r) σ)
  | _ => none
def jx_cv1 (O : jx_O) (N : Nat) (M : jx_M) (pc mj : Nat) (st : List Value) : Option jx_R :=
  if (M mj).1 = true then none else (match st.drop (M mj).2.1 with
    | .ref b :: r => if b < N ∧ (st.take (M mj).2.1).length = (M mj).2.1 ∧ jx_w8 r = true ∧ jx_wn (.ref b :: (st.take (M mj).2.1).reverse) ≤ (M mj).2.2.2 then (match O b with
      | .inl (c1, _) => if c1 = (M mj).2.2.1 then some (.inr (.inr (mj, .ref b :: (st.take (M mj).2.1).reverse, pc + 3, r))) else none
      | .inr _ => none) else none
    | _ => none)
def jx_cs1 (M : jx_M) (pc mj : Nat) (st : List Value) : Option jx_R :=
  if (M mj).1 = true then (if (st.take (M mj).2.1).length = (M mj).2.1 ∧ jx_w8 (st.drop (M mj).2.1) = true ∧ jx_wn (st.take (M mj).2.1).reverse ≤ (M mj).2.2.2 then some (.inr (.inr (mj, (st.take (M mj).2.1).reverse, pc + 3, st.drop (M mj).2.1))) else none) else none
def jx_dup (pc : Nat) (l : jx_L) (st : List Value) (σ : jx_S) : Option jx_R := match st with
  | v :: r => if v.category = 1 then jx_nx (pc + 1) l (v :: v :: r) σ else none
  | _ => none
def jx_dup2 (pc : Nat) (l : jx_L) (st : List Value) (σ : jx_S) : Option jx_R := match st with
  | v :: w :: r => if v.category = 1 ∧ w.category = 1 then jx_nx (pc + 1) l (v :: w :: v :: w :: r) σ else none
  | _ => none
def jx_aln (O : jx_O) (N k : Nat) (q : Nat → Option jx_R) : Option jx_R := if k < N then (match O k with
  | .inr (t, n) => if t < 3 then q n else none
  | .inl _ => none) else none
def jx_irt (a1 : Nat) (st : List Value) : Option jx_R := match st with
  | [.int x] => if a1 = 0 then some (.inr (.inl (some (.int x)))) else if x = 0 ∨ x = 1 then some (.inr (.inl (some (.int x)))) else none
  | _ => none
def jx_lrt (st : List Value) : Option jx_R := match st with
  | [.long x] => some (.inr (.inl (some (.long x))))
  | _ => none
def jx_vrt (st : List Value) : Option jx_R := match st with
  | [] => some (.inr (.inl none))
  | _ => none
/-- a constant: its size, and whether it is below 0 -/
def jx_k (a1 : Nat) : Nat → Int32
  | 0 => Int32.ofNat a1
  | _ + 1 => -Int32.ofNat a1
/-- one instruction -/
def jx_step (O : jx_O) (N : Nat) (M : jx_M) (i : Instr) (a1 a2 pc : Nat) (l : jx_L) (st : List Value) (σ : jx_S) : Option jx_R := match i with
  | .iconst _ => jx_nx (pc + 1) l (.int (jx_k a1 a2) :: st) σ
  | .bipush _ => jx_nx (pc + 2) l (.int (jx_k a1 a2) :: st) σ
  | .sipush _ => jx_nx (pc + 3) l (.int (jx_k a1 a2) :: st) σ
  | .lconst n => jx_nx (pc + 1) l (.long (Int64.ofNat n) :: st) σ
  | .ldc _ => jx_nx (pc + 2) l (.int (Int32.ofNat a1) :: st) σ
  | .ldc_w _ => jx_nx (pc + 3) l (.int (Int32.ofNat a1) :: st) σ
  | .ldc2_w _ => jx_nx (pc + 3) l (.long (Int64.ofNat a1) :: st) σ
  | .iload n => jx_li0 l n (fun x => jx_nx (pc + 2) l (.int x :: st) σ)
  | .iload_n n => jx_li0 l n (fun x => jx_nx (pc + 1) l (.int x :: st) σ)
  | .lload n => jx_ll0 l n (fun x => jx_nx (pc + 2) l (.long x :: st) σ)
  | .lload_n n => jx_ll0 l n (fun x => jx_nx (pc + 1) l (.long x :: st) σ)
  | .aload n => jx_la0 l n (fun x => jx_nx (pc + 2) l (.ref x :: st) σ)
  | .aload_n n => jx_la0 l n (fun x => jx_nx (pc + 1) l (.ref x :: st) σ)
  | .istore n => jx_i1 st (fun x r => if n < a1 then jx_nx (pc + 2) (jx_st1 l n (.int x)) r σ else none)
  | .istore_n n => jx_i1 st (fun x r => if n < a1 then jx_nx (pc + 1) (jx_st1 l n (.int x)) r σ else none)
  | .lstore n => jx_l1 st (fun x r => if n + 1 < a1 then jx_nx (pc + 2) (jx_st2 l n (.long x)) r σ else none)
  | .lstore_n n => jx_l1 st (fun x r => if n + 1 < a1 then jx_nx (pc + 1) (jx_st2 l n (.long x)) r σ else none)
  | .astore n => jx_a1 st (fun x r => if n < a1 then jx_nx (pc + 2) (jx_st1 l n (.ref x)) r σ else none)
  | .astore_n n => jx_a1 st (fun x r => if n < a1 then jx_nx (pc + 1) (jx_st1 l n (.ref x)) r σ else none)
  | .iinc n _ => jx_li0 l n (fun x => if n < a1 then jx_nx (pc + 3) (jx_st1 l n (.int (x + jx_k (a2 / 2) (a2 % 2)))) st σ else none)
  | .iadd => jx_i2 st (fun x y r => jx_nx (pc + 1) l (.int (x + y) :: r) σ)
  | .isub => jx_i2 st (fun x y r => jx_nx (pc + 1) l (.int (x - y) :: r) σ)
  | .imul => jx_i2 st (fun x y r => jx_nx (pc + 1) l (.int (x * y) :: r) σ)
  | .iand => jx_i2 st (fun x y r => jx_nx (pc + 1) l (.int (x &&& y) :: r) σ)
  | .ior => jx_i2 st (fun x y r => jx_nx (pc + 1) l (.int (x ||| y) :: r) σ)
  | .ishl => jx_i2 st (fun x y r => jx_nx (pc + 1) l (.int (x <<< (y &&& 31)) :: r) σ)
  | .ishr => jx_i2 st (fun x y r => jx_nx (pc + 1) l (.int (x >>> (y &&& 31)) :: r) σ)
  | .idiv => jx_i2 st (fun x y r => if y = 0 then none else jx_nx (pc + 1) l (.int (x / y) :: r) σ)
  | .irem => jx_i2 st (fun x y r => if y = 0 then none else jx_nx (pc + 1) l (.int (x - x / y * y) :: r) σ)
  | .ineg => jx_i1 st (fun x r => jx_nx (pc + 1) l (.int (-x) :: r) σ)
  | .i2l => jx_i1 st (fun x r => jx_nx (pc + 1) l (.long x.toInt64 :: r) σ)
  | .l2i => jx_l1 st (fun x r => jx_nx (pc + 1) l (.int x.toInt32 :: r) σ)
  | .ladd => jx_l2 st (fun x y r => jx_nx (pc + 1) l (.long (x + y) :: r) σ)
  | .lsub => jx_l2 st (fun x y r => jx_nx (pc + 1) l (.long (x - y) :: r) σ)
  | .lmul => jx_l2 st (fun x y r => jx_nx (pc + 1) l (.long (x * y) :: r) σ)
  | .land => jx_l2 st (fun x y r => jx_nx (pc + 1) l (.long (x &&& y) :: r) σ)
  | .lor => jx_l2 st (fun x y r => jx_nx (pc + 1) l (.long (x ||| y) :: r) σ)
  | .lcmp => jx_l2 st (fun x y r => jx_nx (pc + 1) l (.int (lg_cmp x y) :: r) σ)
  | .lshl => jx_li st (fun x y r => jx_nx (pc + 1) l (.long (x <<< (y.toInt64 &&& 63)) :: r) σ)
  | .lshr => jx_li st (fun x y r => jx_nx (pc + 1) l (.long (x >>> (y.toInt64 &&& 63)) :: r) σ)
  | .lushr => jx_li st (fun x y r => jx_nx (pc + 1) l (.long (x.toUInt64 >>> (y.toInt64.toUInt64 &&& Int64.toUInt64 63)).toInt64 :: r) σ)
  | .goto off => jx_go pc off l st σ
  | .ifCond c off => jx_i1 st (fun x r => jx_br pc off (jx_cd c x 0) l r σ)
  | .if_icmp c off => jx_i2 st (fun x y r => jx_br pc off (jx_cd c x y) l r σ)
  | .tableswitch dflt lo hi offs => jx_i1 st (fun x r => if x.toInt < lo ∨ hi < x.toInt then jx_go pc dflt l r σ else (match offs[(x.toInt - lo).toNat]? with
    | some off => jx_go pc off l r σ
    | none => none))
  | .lookupswitch dflt ps => jx_i1 st (fun x r => if (ps.toList.zip (ps.toList.drop 1)).all (fun (a, next) => a.1 < next.1) = true then jx_go pc (Op.lookupswitch.offset ps.toList dflt x.toInt) l r σ else none)
  | .dup => jx_dup pc l st σ
  | .dup2 => jx_dup2 pc l st σ
  | .getfield _ => jx_a1 st (fun k r => jx_ob O N k a1 a2 (fun kd => jx_nx (pc + 3) l (jx_rd σ k a2 kd :: r) σ))
  | .putfield _ => jx_put O N a1 a2 pc l st σ
  | .iaload => jx_ald O N pc 0 l st σ
  | .laload => jx_ald O N pc 1 l st σ
  | .baload => jx_ald O N pc 2 l st σ
  | .iastore => jx_ast O N pc 0 l st σ
  | .bastore => jx_ast O N pc 2 l st σ
  | .lastore => jx_lst O N pc l st σ
  | .arraylength => jx_a1 st (fun k r => jx_aln O N k (fun n => jx_nx (pc + 1) l (.int (Int32.ofNat n) :: r) σ))
  | .invokevirtual _ => jx_cv1 O N M pc a1 st
  | .invokestatic _ => jx_cs1 M pc a1 st
  | .ireturn => jx_irt a1 st
  | .lreturn => jx_lrt st
  | .return_ => jx_vrt st
  | _ => none
/-- Math.max of ints, Math.min of longs -/
def jx_prim (mj : Nat) (as : List Value) : Option Value := match as with
  | [.int x, .int y] => if mj = 10000 then some (.int (if x < y then y else x)) else none
  | [.long x, .long y] => if mj = 10001 then some (.long (if y < x then y else x)) else none
  | _ => none
/-- n steps at most, calls at most d deep -/
def jx_run (C : jx_C) (O : jx_O) (N : Nat) (M : jx_M) : Nat → Nat → Nat → Nat → jx_L → List Value → jx_S → Option (Option Value × jx_S)
  | 0, _, _, _, _, _, _ => none
  | n + 1, d, mi, pc, l, st, σ => match C mi pc with
    | none => none
    | some (i, a1, a2) => match jx_step O N M i a1 a2 pc l st σ with
      | none => none
      | some (.inl (pc1, l1, st1, σ1)) => jx_run C O N M n d mi pc1 l1 st1 σ1
      | some (.inr (.inl v)) => some (v, σ)
      | some (.inr (.inr (mj, as, pc1, st1))) => match d with
        | 0 => none
        | d1 + 1 => match jx_prim mj as with
          | some v => jx_run C O N M n (d1 + 1) mi pc1 l (v :: st1) σ
          | none => if mj < 10000 then (match jx_run C O N M n d1 mj 0 (lv_args 0 as) [] σ with
            | none => none
            | some (v, σ1) => jx_run C O N M n (d1 + 1) mi pc1 l (v.toList ++ st1) σ1) else none
