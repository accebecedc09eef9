/-! CONSTRUCTORS, 1: a machine that makes objects. Printed by wip/gen/jcgen.py. -/
abbrev jc_E : Type := (Nat × List Value) ⊕ (Nat × Nat × List (Nat × Int64))
abbrev jc_W : Type := List jc_E
def jc_by : Nat → ByteArray := fun mi => ([prog_1_method_1_code, prog_3_method_1_code, prog_10_method_1_code, prog_11_method_1_code, prog_4_method_1_code, prog_9_method_1_code, prog_12_method_1_code, prog_2_method_1_code, prog_8_method_1_code, prog_5_method_1_code, prog_6_method_1_code, prog_7_method_1_code, prog_14_method_1_code, prog_10_method_10_code, prog_7_method_3_code] : List ByteArray).getD mi ⟨#[]⟩
def jc_mx : Nat → Nat := fun mi => ([1, 1, 5, 1, 1, 5, 5, 3, 4, 1, 2, 2, 1, 1, 4] : List Nat).getD mi 0
def jc_yy : Nat → MethodName := fun mi => ([⟨"LazyStrict", "<init>", "()V"⟩, ⟨"LazyStrict$Fault", "<init>", "()V"⟩, ⟨"LazyStrict$Tokens", "<init>", "()V"⟩, ⟨"LazyStrict$Tree", "<init>", "()V"⟩, ⟨"LazyStrict$Functions", "<init>", "()V"⟩, ⟨"LazyStrict$Reader", "<init>", "(LLazyStrict$Tokens;LLazyStrict$Tree;LLazyStrict$Functions;LLazyStrict$Fault;)V"⟩, ⟨"LazyStrict$Typing", "<init>", "(LLazyStrict$Tokens;LLazyStrict$Tree;LLazyStrict$Functions;LLazyStrict$Fault;)V"⟩, ⟨"LazyStrict$Analysis", "<init>", "(LLazyStrict$Tree;LLazyStrict$Functions;)V"⟩, ⟨"LazyStrict$Machine", "<init>", "(LLazyStrict$Tokens;LLazyStrict$Tree;LLazyStrict$Functions;)V"⟩, ⟨"LazyStrict$Heap", "<init>", "()V"⟩, ⟨"LazyStrict$Ints", "<init>", "(I)V"⟩, ⟨"LazyStrict$Longs", "<init>", "(I)V"⟩, ⟨"LazyStrictModel", "<init>", "()V"⟩, ⟨"LazyStrict$Tokens", "letterCode", "(I)I"⟩, ⟨"LazyStrict$Longs", "put", "(IJ)V"⟩] : List MethodName).getD mi ⟨"", "", ""⟩
def jc_rt : Nat → Option FieldType := fun mi => if mi = 13 then some .int else none
def jc_na : Nat → Nat := fun mi => ([0, 0, 0, 0, 0, 4, 4, 2, 3, 0, 1, 1, 0, 1, 2] : List Nat).getD mi 0
def jc_nw : Nat → List (Nat × Nat) := fun mi => ([[(7, 10), (21, 1), (28, 2), (35, 3), (42, 4), (49, 5), (58, 6), (65, 7), (74, 8)], [], [(9, 10), (23, 11)], [(9, 10)], [(9, 10)], [(9, 10)], [], [(9, 10)], [(9, 10), (23, 9), (39, 11)], [(7, 11), (21, 10)], [], [], [], [], []] : List (List (Nat × Nat))).getD mi []
def jc_fl : Nat → List (Nat × Nat × Nat) := fun mi => ([[(14, 0, 0), (18, 0, 1), (24, 0, 2), (31, 0, 3), (38, 0, 4), (45, 0, 5), (54, 0, 6), (61, 0, 7), (70, 0, 8), (79, 0, 9)], [], [(14, 2, 0), (20, 2, 1), (26, 2, 2), (30, 2, 3)], [(14, 3, 0), (20, 3, 1), (23, 3, 2), (26, 3, 3), (29, 3, 4), (32, 3, 5), (35, 3, 6), (38, 3, 7), (41, 3, 8)], [(14, 4, 0), (20, 4, 1), (23, 4, 2), (26, 4, 3), (29, 4, 4), (32, 4, 5), (35, 4, 6), (38, 4, 7), (41, 4, 8), (44, 4, 9)], [(14, 5, 4), (20, 5, 0), (24, 5, 1), (28, 5, 2), (32, 5, 3)], [(9, 6, 0), (15, 6, 1), (19, 6, 2), (23, 6, 3)], [(15, 7, 2), (21, 7, 3), (24, 7, 4), (27, 7, 5), (30, 7, 0), (34, 7, 1)], [(14, 8, 0), (20, 8, 1), (26, 8, 5), (30, 8, 6), (33, 8, 7), (36, 8, 8), (42, 8, 9), (46, 8, 10), (49, 8, 2), (53, 8, 3), (57, 8, 4)], [(14, 9, 0), (18, 9, 1), (24, 9, 2), (28, 9, 3), (31, 9, 4), (34, 9, 5), (37, 9, 6), (40, 9, 7), (43, 9, 8), (46, 9, 9), (49, 9, 10)], [(7, 10, 0)], [(7, 11, 0)], [(7, 12, 0), (13, 12, 5), (17, 12, 6), (20, 12, 7), (23, 12, 8), (26, 12, 9), (29, 12, 11), (32, 12, 12), (35, 12, 13), (38, 12, 14), (41, 12, 15), (44, 12, 16), (47, 12, 17), (50, 12, 18), (53, 12, 19), (56, 12, 20), (59, 12, 21), (62, 12, 22), (65, 12, 23), (68, 12, 24), (72, 12, 26), (75, 12, 27), (78, 12, 28), (81, 12, 29), (84, 12, 30), (87, 12, 31), (90, 12, 32), (93, 12, 33), (96, 12, 34), (99, 12, 35), (102, 12, 36), (105, 12, 37), (108, 12, 42), (111, 12, 43), (114, 12, 44), (117, 12, 46), (120, 12, 50), (123, 12, 51), (126, 12, 53), (129, 12, 54), (133, 12, 57), (136, 12, 58), (139, 12, 59), (142, 12, 60), (145, 12, 61), (149, 12, 63), (152, 12, 64), (155, 12, 65), (158, 12, 66), (161, 12, 68), (164, 12, 69), (167, 12, 71), (170, 12, 72), (173, 12, 73), (176, 12, 75), (179, 12, 77), (182, 12, 78), (185, 12, 79), (188, 12, 80), (191, 12, 81), (194, 12, 84), (197, 12, 94), (200, 12, 97), (203, 12, 99), (206, 12, 100)], [], [(7, 11, 0)]] : List (List (Nat × Nat × Nat))).getD mi []
def jc_iv : Nat → List (Nat × Nat × Nat) := fun mi => ([[(1, 99, 4), (11, 10, 0), (23, 1, 1), (30, 2, 0), (37, 3, 1), (44, 4, 1), (51, 5, 0), (60, 6, 0), (67, 7, 0), (76, 8, 0)], [(1, 99, 4)], [(3, 99, 4), (11, 10, 0), (25, 11, 0), (35, 98, 5), (41, 98, 6), (45, 14, 2), (51, 13, 3)], [(3, 99, 4), (11, 10, 0)], [(3, 99, 4), (11, 10, 0)], [(3, 99, 4), (11, 10, 0)], [(3, 99, 4)], [(3, 99, 4), (12, 10, 0)], [(3, 99, 4), (11, 10, 0), (25, 9, 1), (41, 11, 0)], [(1, 99, 4), (11, 11, 0), (23, 10, 0)], [(1, 99, 4)], [(1, 99, 4)], [(1, 99, 4)], [], []] : List (List (Nat × Nat × Nat))).getD mi []
def jc_txt : List Nat := [105, 110, 116, 32, 108, 105, 115, 116, 32, 108, 101, 116, 32, 105, 110, 32, 105, 102, 32, 116, 104, 101, 110, 32, 101, 108, 115, 101, 32, 99, 97, 115, 101, 32, 111, 102, 32, 101, 109, 112, 116, 121, 32, 110, 105, 108, 32, 99, 111, 110, 115, 32, 101, 114, 114, 111, 114, 32]
def jc_def (ci : Nat) : List Value := (List.range (jt_cw ci).2.2).map (fun j => defaultValue (jt_tyc ci j))
/-- an int constant of the pool -/
def jc_ic (mi ix : Nat) : Option Int32 := if (mi = 7 ∧ ix = 11) ∨ (mi = 12 ∧ ix = 132) then some 40000 else none
/-- where a machine stands, how a method ends, what it calls -/
abbrev jc_R : Type := (Nat × jx_L × List Value × jc_W) ⊕ (Option Value ⊕ (Nat × Nat × List Value × List Value))
abbrev jc_nx (pc : Nat) (l : jx_L) (st : List Value) (ws : jc_W) : Option jc_R := some (.inl (pc, l, st, ws))
def jc_go (pc : Nat) (off : Int) (l : jx_L) (st : List Value) (ws : jc_W) : Option jc_R := if (pc : Int) + off < 0 then none else jc_nx ((pc : Int) + off).toNat l st ws
def jc_pi (pc : Nat) (v : Value) (l : jx_L) (st : List Value) (ws : jc_W) : Option jc_R := jc_nx pc l (v :: st) ws
def jc_ld (k : Nat) (pc i : Nat) (l : jx_L) (st : List Value) (ws : jc_W) : Option jc_R := match l.lookup i, k with
  | some (.int x), 0 => jc_nx pc l (.int x :: st) ws
  | some (.long x), 1 => jc_nx pc l (.long x :: st) ws
  | some (.ref x), 2 => jc_nx pc l (.ref x :: st) ws
  | _, _ => none
def jc_cs (i : Instr) (mi pc : Nat) (st : List Value) : Option (Nat × Nat) := match i with
  | .invokespecial ix => ((jc_iv mi).find? (fun e => e.1 == ix)).bind fun e => if e.2.2 = 0 ∨ e.2.2 = 1 ∨ e.2.2 = 4 then some (e.2.1, e.2.2) else none
  | .invokevirtual ix => ((jc_iv mi).find? (fun e => e.1 == ix)).bind fun e => if e.2.2 = 2 ∨ e.2.2 = 5 ∨ e.2.2 = 6 then some (e.2.1, e.2.2) else none
  | .invokestatic ix => ((jc_iv mi).find? (fun e => e.1 == ix)).bind fun e => if e.2.2 = 3 then some (e.2.1, e.2.2) else none
  | _ => none
def jc_put (ci k : Nat) (v : Value) (b pc : Nat) (l : jx_L) (st : List Value) (ws : jc_W) : Option jc_R := match ws[b]? with
  | some (.inl (c1, fs)) => if c1 = ci ∧ k < fs.length then jc_nx (pc + 3) l st (ws.set b (.inl (c1, fs.set k v))) else none
  | _ => none
def jc_get (ci k b pc : Nat) (l : jx_L) (st : List Value) (ws : jc_W) : Option jc_R := match ws[b]? with
  | some (.inl (c1, fs)) => if c1 = ci then (match fs[k]? with
    | some v => jc_nx (pc + 3) l (v :: st) ws
    | none => none) else none
  | _ => none
def jc_ty : ArrayType → Option Nat
  | .int => some 0 | .long => some 1 | .boolean => some 2 | _ => none
def jc_step (i : Instr) (mi pc : Nat) (l : jx_L) (st : List Value) (ws : jc_W) : Option jc_R := match i, st with
  | .iconst n, st => jc_nx (pc + 1) l (.int (Int32.ofInt n) :: st) ws
  | .bipush n, st => jc_nx (pc + 2) l (.int (Int8.ofInt n).toInt32 :: st) ws
  | .sipush n, st => jc_nx (pc + 3) l (.int (Int16.ofInt n).toInt32 :: st) ws
  | .lconst n, st => jc_nx (pc + 1) l (.long (Int64.ofNat n) :: st) ws
  | .ldc ix, st => if mi = 2 ∧ ix = 33 then jc_nx (pc + 2) l (.ref 1000 :: st) ws else (match jc_ic mi ix with
    | some v => jc_nx (pc + 2) l (.int v :: st) ws
    | none => none)
  | .ldc2_w ix, st => if mi = 2 ∧ ix = 49 then jc_nx (pc + 3) l (.long 37 :: st) ws else none
  | .iload n, st => jc_ld 0 (pc + 2) n l st ws
  | .iload_n n, st => jc_ld 0 (pc + 1) n l st ws
  | .lload_n n, st => jc_ld 1 (pc + 1) n l st ws
  | .aload n, st => jc_ld 2 (pc + 2) n l st ws
  | .aload_n n, st => jc_ld 2 (pc + 1) n l st ws
  | .istore n, .int x :: st => if n < jc_mx mi then jc_nx (pc + 2) (jx_st1 l n (.int x)) st ws else none
  | .istore_n n, .int x :: st => if n.val < jc_mx mi then jc_nx (pc + 1) (jx_st1 l n (.int x)) st ws else none
  | .lstore_n n, .long x :: st => if n.val + 1 < jc_mx mi then jc_nx (pc + 1) (jx_st2 l n (.long x)) st ws else none
  | .iinc n k, st => (match l.lookup n with
    | some (.int x) => if n < jc_mx mi then jc_nx (pc + 3) (jx_st1 l n (.int (x + Int32.ofInt k))) st ws else none
    | _ => none)
  | .iadd, .int y :: .int x :: st => jc_nx (pc + 1) l (.int (x + y) :: st) ws
  | .isub, .int y :: .int x :: st => jc_nx (pc + 1) l (.int (x - y) :: st) ws
  | .i2l, .int x :: st => jc_nx (pc + 1) l (.long x.toInt64 :: st) ws
  | .lmul, .long y :: .long x :: st => jc_nx (pc + 1) l (.long (x * y) :: st) ws
  | .ladd, .long y :: .long x :: st => jc_nx (pc + 1) l (.long (x + y) :: st) ws
  | .goto off, st => jc_go pc off l st ws
  | .ifCond c off, .int x :: st => if jx_cd c x 0 = true then jc_go pc off l st ws else (if (pc : Int) + off < 0 then none else jc_nx (pc + 3) l st ws)
  | .if_icmp c off, .int y :: .int x :: st => if jx_cd c x y = true then jc_go pc off l st ws else (if (pc : Int) + off < 0 then none else jc_nx (pc + 3) l st ws)
  | .dup, .ref b :: st => jc_nx (pc + 1) l (.ref b :: .ref b :: st) ws
  | .new ix, st => (match (jc_nw mi).find? (fun e => e.1 == ix) with
    | some e => jc_nx (pc + 3) l (.ref ws.length :: st) (ws ++ [.inl (e.2, jc_def e.2)])
    | none => none)
  | .newarray t, .int n :: st => (match jc_ty t with
    | some k => if n < 0 ∨ 70000 < n.toNatClampNeg then none else jc_nx (pc + 2) l (.ref ws.length :: st) (ws ++ [.inr (k, n.toNatClampNeg, [])])
    | none => none)
  | .getfield ix, .ref b :: st => (match (jc_fl mi).find? (fun e => e.1 == ix) with
    | some e => jc_get e.2.1 e.2.2 b pc l st ws
    | none => none)
  | .putfield ix, .int v :: .ref b :: st => (match (jc_fl mi).find? (fun e => e.1 == ix) with
    | some e => jc_put e.2.1 e.2.2 (.int v) b pc l st ws
    | none => none)
  | .putfield ix, .ref v :: .ref b :: st => (match (jc_fl mi).find? (fun e => e.1 == ix) with
    | some e => jc_put e.2.1 e.2.2 (.ref v) b pc l st ws
    | none => none)
  | .arraylength, .ref b :: st => (match ws[b]? with
    | some (.inr (_, n, _)) => jc_nx (pc + 1) l (.int (Int32.ofNat n) :: st) ws
    | _ => none)
  | .lastore, .long v :: .int i :: .ref b :: st => (match ws[b]? with
    | some (.inr (1, n, w)) => if i < 0 ∨ n ≤ i.toNatClampNeg then none else jc_nx (pc + 1) l st (ws.set b (.inr (1, n, (i.toNatClampNeg, v) :: w)))
    | _ => none)
  | .return_, [] => some (.inr (.inl none))
  | .ireturn, [.int x] => some (.inr (.inl (some (.int x))))
  | i, st => (match jc_cs i mi pc st with
    | some (mj, 4) => (match mj, st with
      | _, .ref _ :: st => jc_nx (pc + 3) l st ws
      | _, _ => none)
    | some (mj, 5) => (match mj, st with
      | _, .ref 1000 :: st => jc_nx (pc + 3) l (.int (Int32.ofNat jc_txt.length) :: st) ws
      | _, _ => none)
    | some (mj, 6) => (match mj, st with
      | _, .int x :: .ref 1000 :: st => if x < 0 ∨ jc_txt.length ≤ x.toNatClampNeg then none else jc_nx (pc + 3) l (.int (Int32.ofNat (jc_txt.getD x.toNatClampNeg 0)) :: st) ws
      | _, _ => none)
    | some (mj, 3) => if (st.take (jc_na mj)).length = jc_na mj then some (.inr (.inr (mj, 3, (st.take (jc_na mj)).reverse, st.drop (jc_na mj)))) else none
    | some (mj, k) => (match st.drop (jc_na mj) with
      | .ref b :: r => if (st.take (jc_na mj)).length = jc_na mj then some (.inr (.inr (mj, k, .ref b :: (st.take (jc_na mj)).reverse, r))) else none
      | _ => none)
    | none => none)
def jc_run : Nat → Nat → Nat → Nat → jx_L → List Value → jc_W → Option (Option Value × jc_W)
  | 0, _, _, _, _, _, _ => none
  | n + 1, d, mi, pc, l, st, ws => match decode (jc_by mi) pc with
    | .error _ => none
    | .ok (i, _) => match jc_step i mi pc l st ws with
      | none => none
      | some (.inl (pc1, l1, st1, ws1)) => jc_run n d mi pc1 l1 st1 ws1
      | some (.inr (.inl v)) => some (v, ws)
      | some (.inr (.inr (mj, _, as, st1))) => match d with
        | 0 => none
        | d1 + 1 => match jc_run n d1 mj 0 (lv_args 0 as) [] ws with
          | none => none
          | some (v, ws1) => jc_run n (d1 + 1) mi (pc + 3) l (v.toList ++ st1) ws1
