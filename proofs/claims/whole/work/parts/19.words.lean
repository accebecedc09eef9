set_option maxRecDepth 100000 in
theorem jt_flk : (List.range 13).all (fun o => (jt_fl o).all fun e => decide (lw_tbl[e.2.2.2]? = some (jt_flw o e)) && goodWord (jt_flw o e) && decide (e.2.1 < 13) && decide (e.2.2.1 < (jt_cw e.2.1).2.2)) = true := by decide +kernel
set_option maxRecDepth 100000 in
theorem jt_mlk : (List.range 13).all (fun o => (jt_ml o).all fun e => decide (lw_tbl[e.2.2]? = some (jt_mlw o e)) && goodWord (jt_mlw o e)) = true := by decide +kernel
set_option maxRecDepth 100000 in
theorem jt_fwk : (List.range 13).all (fun ci => (List.range (jt_cw ci).2.2).all fun k => decide (lw_tbl[(jt_fw ci).getD k 0]? = some (u_lay (jt_cw ci).1 (jt_cw ci).2.1 k)) && goodWord (u_lay (jt_cw ci).1 (jt_cw ci).2.1 k)) = true := by decide +kernel
def jt_pq (mj : Nat) : MethodName := if mj = 10000 then Lib.Math.max.name else Lib.MathLoose.min_long.x
set_option maxRecDepth 100000 in
theorem jt_plk : jt_pl.all (fun e => decide (lw_tbl[e.2.2.2]? = some (.methodLink (jt_cn e.1) e.2.1 (jt_pq e.2.2.1))) && goodWord (.methodLink (jt_cn e.1) e.2.1 (jt_pq e.2.2.1))) = true := by decide +kernel
set_option maxRecDepth 100000 in
theorem jt_pw0 : (decide (lw_tbl[jt_pw.getD 0 0]? = some (.initialized "java/lang/Math")) && goodWord (.initialized "java/lang/Math")) = true := by decide +kernel
set_option maxRecDepth 100000 in
theorem jt_pw1 : (decide (lw_tbl[jt_pw.getD 1 0]? = some (.static Lib.Math.max.name)) && goodWord (.static Lib.Math.max.name)) = true := by decide +kernel
set_option maxRecDepth 100000 in
theorem jt_pw2 : (decide (lw_tbl[jt_pw.getD 2 0]? = some (.code Lib.Math.max.name Lib.Math.max.code 2 (some .int))) && goodWord (.code Lib.Math.max.name Lib.Math.max.code 2 (some .int))) = true := by decide +kernel
set_option maxRecDepth 100000 in
theorem jt_pw3 : (decide (lw_tbl[jt_pw.getD 3 0]? = some (.static Lib.MathLoose.min_long.x)) && goodWord (.static Lib.MathLoose.min_long.x)) = true := by decide +kernel
set_option maxRecDepth 100000 in
theorem jt_pw4 : (decide (lw_tbl[jt_pw.getD 4 0]? = some (.code Lib.MathLoose.min_long.x Lib.MathLoose.min_long.code 4 (some .long))) && goodWord (.code Lib.MathLoose.min_long.x Lib.MathLoose.min_long.code 4 (some .long))) = true := by decide +kernel
def jt_tyc (ci : Nat) : Nat → FieldType := ([jt_Y0, jt_Y1, jt_Y2, jt_Y3, jt_Y4, jt_Y5, jt_Y6, jt_Y7, jt_Y8, jt_Y9, jt_Y10, jt_Y11, jt_Y12] : List (Nat → FieldType)).getD ci (fun _ => .int)
set_option maxRecDepth 100000 in
theorem jt_tyk : (List.range 13).all (fun ci => (List.range (jt_cw ci).2.2).all fun k => decide (parseFieldDescriptor ((jt_cw ci).2.1 k).2.2.1 = some (jt_tyc ci k))) = true := by decide +kernel
set_option maxRecDepth 100000 in
theorem jt_kdk : (List.range jt_N).all (fun b => match jt_O b with
  | .inl (ci, kds) => (List.range kds.length).all fun k => decide (3 ≤ kds.getD k 0) || decide (jt_tyc ci k = jx_ty (kds.getD k 0) ∧ k < (jt_cw ci).2.2 ∧ ci < 13)
  | .inr _ => true) = true := by decide +kernel
def jt_nmd (ci a n : Nat) : Bool := (List.range n).all fun i => (List.range (a + i)).all fun b => decide (((jt_cw ci).2.1 (a + i)).2.1 ≠ ((jt_cw ci).2.1 b).2.1)
set_option maxRecDepth 100000 in
theorem jt_nmk : (List.range 12).all (fun ci => jt_nmd ci 0 (jt_cw ci).2.2) = true := by decide +kernel
set_option maxRecDepth 100000 in
theorem jt_nmM0 : jt_nmd 12 0 35 = true := by decide +kernel
set_option maxRecDepth 100000 in
theorem jt_nmM1 : jt_nmd 12 35 15 = true := by decide +kernel
set_option maxRecDepth 100000 in
theorem jt_nmM2 : jt_nmd 12 50 15 = true := by decide +kernel
set_option maxRecDepth 100000 in
theorem jt_nmM3 : jt_nmd 12 65 10 = true := by decide +kernel
set_option maxRecDepth 100000 in
theorem jt_nmM4 : jt_nmd 12 75 10 = true := by decide +kernel
set_option maxRecDepth 100000 in
theorem jt_nmM5 : jt_nmd 12 85 9 = true := by decide +kernel
set_option maxRecDepth 100000 in
theorem jt_nmM6 : jt_nmd 12 94 8 = true := by decide +kernel
