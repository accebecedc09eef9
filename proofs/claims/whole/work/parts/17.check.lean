/-! The tables are right: by evaluation. -/
def jt_con (w : Cond) : Bool := (lw_tbl.any fun c => decide (c = w)) && goodWord w
def jt_ok1 (mi a1 a2 : Nat) (i : Instr) : Bool := match i with
  | .iconst n => decide (Int32.ofInt n = jx_k a1 a2)
  | .bipush n => decide ((Int8.ofInt n).toInt32 = jx_k a1 a2)
  | .sipush n => decide ((Int16.ofInt n).toInt32 = jx_k a1 a2)
  | .iinc _ k => decide (Int32.ofInt k = jx_k (a2 / 2) (a2 % 2))
  | .ldc ix => jt_con (.constant (jt_ow mi) ix (Int32.ofNat a1))
  | .ldc_w ix => jt_con (.constant (jt_ow mi) ix (Int32.ofNat a1))
  | .ldc2_w ix => jt_con (.constantLong (jt_ow mi) ix (Int64.ofNat a1))
  | .getfield ix => (jt_fl (jt_oi mi)).any fun e => e.1 == ix && e.2.1 == a1 && e.2.2.1 == a2
  | .putfield ix => ((jt_fl (jt_oi mi)).any fun e => e.1 == ix && e.2.1 == a1 && e.2.2.1 == a2) && !((jt_cl.getD a1 ("", fun _ => ("", "", "", false), 0)).2.1 a2).2.2.2
  | .invokevirtual ix => ((jt_ml (jt_oi mi)).any fun e => e.1 == ix && e.2.1 == a1) && decide (a1 < jt_nM)
  | .invokestatic ix => if a1 < 10000 then ((jt_ml (jt_oi mi)).any fun e => e.1 == ix && e.2.1 == a1) && decide (a1 < jt_nM) else jt_pl.any fun e => e.1 == jt_oi mi && e.2.1 == ix && e.2.2.1 == a1
  | .ireturn => decide (jt_rt mi = some (if a1 = 0 then .int else .boolean))
  | .lreturn => decide (jt_rt mi = some .long)
  | .return_ => decide (jt_rt mi = none)
  | _ => true
def jt_ok (mi pc : Nat) : Bool := match jt_C0 mi pc with
  | none => true
  | some (i, a1, a2) => (match decode (jt_by mi) pc with
    | .ok (j, len) => decide (j = i) && (jx_len i == 0 || jx_len i == len)
    | .error _ => false) && (!jx_sto i || decide (a1 ≤ jt_mx mi)) && jt_ok1 mi a1 a2 i
def jt_okR (a n : Nat) : Bool := (List.range n).all fun k => (List.range (jt_ln (a + k))).all (fun pc => jt_ok (a + k) pc)
theorem jt_in {i : Nat} {w : Cond} (h : lw_tbl[i]? = some w) (hg : goodWord w = true) : w ∈ jt_Ts := List.mem_filter.mpr ⟨List.mem_of_getElem? h, hg⟩
theorem jt_in2 {i : Nat} {w : Cond} (h : (decide (lw_tbl[i]? = some w) && goodWord w) = true) : w ∈ jt_Ts := by
  rw [Bool.and_eq_true] at h
  exact jt_in (of_decide_eq_true h.1) h.2
theorem jt_good : GoodIn jt_Ts jt_Ts := fun w hw => ⟨hw, good_of_word (List.mem_filter.mp hw).2⟩
def jt_cw (ci : Nat) : vw_C := jt_cl.getD ci ("", fun _ => ("", "", "", false), 0)
def jt_flw (o : Nat) (e : Nat × Nat × Nat × Nat) : Cond := .fieldLink (jt_cn o) e.1 ((jt_cw e.2.1).2.1 e.2.2.1).1 ((jt_cw e.2.1).2.1 e.2.2.1).2.1 ((jt_cw e.2.1).2.1 e.2.2.1).2.2.1
def jt_mlw (o : Nat) (e : Nat × Nat × Nat) : Cond := .methodLink (jt_cn o) e.1 (jt_yy e.2.1)
def jt_usd (mi : Nat) : Bool := (List.range 13).any fun o => (jt_ml o).any fun e => e.2.1 == mi
def jt_mw (mi : Nat) : Bool := (decide (lw_tbl[(jt_mp mi).1]? = some (.code (jt_yy mi) (jt_by mi) (jt_mx mi) (jt_rt mi))) && goodWord (.code (jt_yy mi) (jt_by mi) (jt_mx mi) (jt_rt mi))) && (decide (lw_tbl[(jt_mp mi).2.1]? = some (.initialized (jt_ow mi))) && goodWord (.initialized (jt_ow mi))) && plainName (jt_ow mi) && decide (jt_ow mi ≠ "java/lang/invoke/MethodHandle" ∧ jt_ow mi ≠ "java/lang/invoke/VarHandle") && decide ((parseMethodDescriptor (jt_yy mi).desc).map (fun d => d.parameters.length) = some (jt_M mi).2.1) && decide (jt_mx mi ≤ 60) && decide ((jt_M mi).2.2.2 ≤ jt_mx mi)
def jt_mv (mi : Nat) : Bool := if (jt_M mi).1 = true then decide (lw_tbl[(jt_mp mi).2.2.1]? = some (.static (jt_yy mi))) && goodWord (.static (jt_yy mi)) else (!jt_usd mi || ((decide (lw_tbl[(jt_mp mi).2.2.1]? = some (.instanceMethod (jt_yy mi))) && goodWord (.instanceMethod (jt_yy mi))) && (decide (lw_tbl[(jt_mp mi).2.2.2]? = some (.selects (jt_ow mi) (jt_yy mi) (jt_yy mi))) && goodWord (.selects (jt_ow mi) (jt_yy mi) (jt_yy mi))) && decide ((jt_M mi).2.2.1 < 13) && decide ((jt_cw (jt_M mi).2.2.1).1 = jt_ow mi)))
def jt_mR (a n : Nat) : Bool := (List.range n).all fun k => jt_mw (a + k) && jt_mv (a + k)
