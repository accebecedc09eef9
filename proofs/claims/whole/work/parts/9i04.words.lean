/-! CONSTRUCTORS, 4: their code and their words. -/
def jc_len (i : Instr) : Nat := match i with
  | .new _ => 3 | .newarray _ => 2 | .invokespecial _ => 3 | .sipush _ => 3 | .bipush _ => 2 | .ldc _ => 2 | .ldc2_w _ => 3 | .iload _ => 2 | .aload _ => 2 | .istore _ => 2 | .iinc _ _ => 3 | .goto _ => 3 | .ifCond _ _ => 3 | .if_icmp _ _ => 3 | .getfield _ => 3 | .putfield _ => 3 | .invokevirtual _ => 3 | .invokestatic _ => 3
  | _ => 1
def jc_dc (mi : Nat) : Bool := (jc_C mi).all fun e => match decode (jc_by mi) e.1 with
  | .ok (i, len) => decide (i = e.2) && decide (len = jc_len i)
  | .error _ => false
theorem jc_dcA : (List.range 12).all jc_dc = true := by decide +kernel
theorem jc_dcB : jc_dc 12 = true := by decide +kernel
theorem jc_dcC : jc_dc 13 = true ∧ jc_dc 14 = true := by decide +kernel
theorem jc_dec {mi pc : Nat} {i : Instr} (h : (jc_C mi).lookup pc = some i) : decode (jc_by mi) pc = .ok (i, jc_len i) := by
  have hm : (pc, i) ∈ jc_C mi := by
    generalize jc_C mi = L at h
    induction L with
    | nil => cases h
    | cons q L ih =>
      obtain ⟨a, b⟩ := q
      rw [List.lookup_cons] at h
      by_cases e : pc = a
      · subst e
        simp at h
        subst h
        exact List.mem_cons_self
      · rw [show (pc == a) = false from by simp [e]] at h
        exact List.mem_cons_of_mem _ (ih h)
  have hb : jc_dc mi = true := by
    by_cases h1 : mi < 12
    · exact List.all_eq_true.mp jc_dcA mi (List.mem_range.mpr h1)
    · rcases (show mi = 12 ∨ mi = 13 ∨ mi = 14 ∨ 15 ≤ mi by omega) with rfl | rfl | rfl | h2
      · exact jc_dcB
      · exact jc_dcC.1
      · exact jc_dcC.2
      · exfalso
        have : jc_C mi = [] := by
          unfold jc_C
          rw [List.getD_eq_getElem?_getD, List.getElem?_eq_none (by show 15 ≤ mi; exact h2)]
          rfl
        rw [this] at hm
        cases hm
  have := List.all_eq_true.mp hb (pc, i) hm
  dsimp only at this
  split at this
  · rename_i i' len e
    rw [Bool.and_eq_true, decide_eq_true_eq, decide_eq_true_eq] at this
    rw [e, this.1, this.2, this.1]
  · cases this
/-- the words that an instruction needs -/
def jc_own (mi : Nat) : String := (jc_yy mi).cls
def jc_fp : Nat → List Nat := fun mi => ([[676, 677, 678, 679, 680, 681, 682, 683, 684, 685], [], [285, 287, 291, 295], [317, 322, 326, 329, 333, 334, 339, 344, 347], [383, 386, 392, 397, 402, 404, 409, 413, 414, 415], [456, 452, 453, 454, 455], [483, 484, 485, 486], [507, 508, 509, 510, 505, 506], [616, 618, 623, 624, 625, 626, 627, 628, 620, 621, 622], [546, 548, 550, 552, 554, 556, 558, 560, 562, 564, 566], [186], [220], [1453, 1458, 1459, 1460, 1461, 1462, 1464, 1465, 1466, 1467, 1468, 1469, 1470, 1471, 1472, 1473, 1474, 1475, 1476, 1477, 1479, 1480, 1481, 1482, 1483, 1484, 1485, 1486, 1487, 1488, 1489, 1490, 1495, 1496, 1497, 1499, 1503, 1504, 1506, 1507, 1510, 1511, 1512, 1513, 1514, 1516, 1517, 1518, 1519, 1521, 1522, 1524, 1525, 1526, 1528, 1530, 1531, 1532, 1533, 1534, 1537, 1547, 1550, 1552, 1553], [], [220]] : List (List Nat)).getD mi []
def jc_fw (mi : Nat) : Bool := (List.range (jc_fl mi).length).all fun j => (fun e : Nat × Nat × Nat => decide (e.2.1 < 13) && decide (e.2.2 < (jt_cw e.2.1).2.2) && decide (lw_tbl[(jc_fp mi).getD j 0]? = some (Cond.fieldLink (jc_own mi) e.1 ((jt_cw e.2.1).2.1 e.2.2).1 ((jt_cw e.2.1).2.1 e.2.2).2.1 ((jt_cw e.2.1).2.1 e.2.2).2.2.1)) && decide (((jt_cw e.2.1).2.1 e.2.2).1 = (jt_cw e.2.1).1)) ((jc_fl mi).getD j (0, 0, 0))
def jc_nv (mi : Nat) : Bool := (jc_nw mi).all fun e => decide (e.2 < 13) && decide (Cond.classLink (jc_own mi) e.1 (jt_cw e.2).1 ∈ lw_tbl) && decide (Cond.initialized (jt_cw e.2).1 ∈ lw_tbl)
theorem jc_nvA : (List.range 15).all jc_nv = true := by decide +kernel
theorem jc_fwA : (List.range 12).all jc_fw = true := by decide +kernel
theorem jc_fwB : jc_fw 12 = true := by decide +kernel
theorem jc_fwC : jc_fw 13 = true ∧ jc_fw 14 = true := by decide +kernel
