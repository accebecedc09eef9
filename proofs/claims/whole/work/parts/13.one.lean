/-! what an answer of the step says -/
theorem jx_inj {a a' : Nat} {b b' : jx_L} {c c' : List Value} {d d' : jx_S} (h : jx_nx a b c d = some (.inl (a', b', c', d'))) : a = a' ∧ b = b' ∧ c = c' ∧ d = d' := by
  cases h; exact ⟨rfl, rfl, rfl, rfl⟩
theorem jx_ite_inv {α : Type} {c : Prop} [Decidable c] {t : Option α} {r : α} (h : (if c then t else none) = some r) : c ∧ t = some r := by
  by_cases hc : c
  · rw [if_pos hc] at h; exact ⟨hc, h⟩
  · rw [if_neg hc] at h; cases h
theorem jx_ite0_inv {α : Type} {c : Prop} [Decidable c] {t : Option α} {r : α} (h : (if c then none else t) = some r) : ¬ c ∧ t = some r := by
  by_cases hc : c
  · rw [if_pos hc] at h; cases h
  · rw [if_neg hc] at h; exact ⟨hc, h⟩
theorem jx_i2_inv {st : List Value} {k : Int32 → Int32 → List Value → Option jx_R} {r : jx_R} (h : jx_i2 st k = some r) : ∃ x y t, st = .int y :: .int x :: t ∧ k x y t = some r := by
  unfold jx_i2 at h; split at h
  · exact ⟨_, _, _, rfl, h⟩
  · cases h
theorem jx_l2_inv {st : List Value} {k : Int64 → Int64 → List Value → Option jx_R} {r : jx_R} (h : jx_l2 st k = some r) : ∃ x y t, st = .long y :: .long x :: t ∧ k x y t = some r := by
  unfold jx_l2 at h; split at h
  · exact ⟨_, _, _, rfl, h⟩
  · cases h
theorem jx_li_inv {st : List Value} {k : Int64 → Int32 → List Value → Option jx_R} {r : jx_R} (h : jx_li st k = some r) : ∃ x y t, st = .int y :: .long x :: t ∧ k x y t = some r := by
  unfold jx_li at h; split at h
  · exact ⟨_, _, _, rfl, h⟩
  · cases h
theorem jx_i1_inv {st : List Value} {k : Int32 → List Value → Option jx_R} {r : jx_R} (h : jx_i1 st k = some r) : ∃ x t, st = .int x :: t ∧ k x t = some r := by
  unfold jx_i1 at h; split at h
  · exact ⟨_, _, rfl, h⟩
  · cases h
theorem jx_l1_inv {st : List Value} {k : Int64 → List Value → Option jx_R} {r : jx_R} (h : jx_l1 st k = some r) : ∃ x t, st = .long x :: t ∧ k x t = some r := by
  unfold jx_l1 at h; split at h
  · exact ⟨_, _, rfl, h⟩
  · cases h
theorem jx_a1_inv {st : List Value} {k : Nat → List Value → Option jx_R} {r : jx_R} (h : jx_a1 st k = some r) : ∃ x t, st = .ref x :: t ∧ k x t = some r := by
  unfold jx_a1 at h; split at h
  · exact ⟨_, _, rfl, h⟩
  · cases h
theorem jx_li0_inv {l : jx_L} {i : Nat} {k : Int32 → Option jx_R} {r : jx_R} (h : jx_li0 l i k = some r) : ∃ x, l.lookup i = some (.int x) ∧ k x = some r := by
  unfold jx_li0 at h; split at h
  · rename_i x e; exact ⟨x, e, h⟩
  · cases h
theorem jx_ll0_inv {l : jx_L} {i : Nat} {k : Int64 → Option jx_R} {r : jx_R} (h : jx_ll0 l i k = some r) : ∃ x, l.lookup i = some (.long x) ∧ k x = some r := by
  unfold jx_ll0 at h; split at h
  · rename_i x e; exact ⟨x, e, h⟩
  · cases h
theorem jx_la0_inv {l : jx_L} {i : Nat} {k : Nat → Option jx_R} {r : jx_R} (h : jx_la0 l i k = some r) : ∃ x, l.lookup i = some (.ref x) ∧ k x = some r := by
  unfold jx_la0 at h; split at h
  · rename_i x e; exact ⟨x, e, h⟩
  · cases h
theorem jx_ar_inv {O : jx_O} {N k t : Nat} {i : Int32} {q : Nat → Option jx_R} {r : jx_R} (h : jx_ar O N k t i q = some r) : ∃ n, k < N ∧ O k = .inr (t, n) ∧ vp_in i n ∧ q n = some r := by
  unfold jx_ar at h
  obtain ⟨hk, h⟩ := jx_ite_inv h
  split at h
  · rename_i t1 n e
    obtain ⟨h1, h2⟩ := jx_ite_inv h
    subst h1
    obtain ⟨hi, h3⟩ := jx_ite0_inv h2
    exact ⟨n, hk, e, hi, h3⟩
  · cases h
theorem jx_ob_inv {O : jx_O} {N k ci j : Nat} {q : Nat → Option jx_R} {r : jx_R} (h : jx_ob O N k ci j q = some r) : ∃ kds kd, k < N ∧ O k = .inl (ci, kds) ∧ kds[j]? = some kd ∧ q kd = some r := by
  unfold jx_ob at h
  obtain ⟨hk, h⟩ := jx_ite_inv h
  split at h
  · rename_i c1 kds e
    obtain ⟨h1, h2⟩ := jx_ite_inv h
    subst h1
    split at h2
    · rename_i kd e2
      exact ⟨kds, kd, hk, e, e2, h2⟩
    · cases h2
  · cases h
theorem jx_go_inv {pc : Nat} {off : Int} {l l' : jx_L} {st st' : List Value} {σ σ' : jx_S} {pc' : Nat} (h : jx_go pc off l st σ = some (.inl (pc', l', st', σ'))) : (pc : Int) + off = (pc' : Int) ∧ l = l' ∧ st = st' ∧ σ = σ' := by
  unfold jx_go at h
  obtain ⟨h1, h⟩ := jx_ite0_inv h
  obtain ⟨e, h2⟩ := jx_inj h
  refine ⟨?_, h2⟩
  omega
theorem jx_br_inv {pc : Nat} {off : Int} {b : Bool} {l l' : jx_L} {st st' : List Value} {σ σ' : jx_S} {pc' : Nat} (h : jx_br pc off b l st σ = some (.inl (pc', l', st', σ'))) : ∃ t : Nat, (pc : Int) + off = (t : Int) ∧ pc' = (if b = true then t else pc + 3) ∧ l = l' ∧ st = st' ∧ σ = σ' := by
  unfold jx_br at h
  obtain ⟨h1, h2⟩ := jx_ite0_inv h
  refine ⟨((pc : Int) + off).toNat, by omega, ?_⟩
  by_cases hb : b = true
  · rw [if_pos hb] at h2
    obtain ⟨e, h3⟩ := jx_inj h2
    exact ⟨by rw [if_pos hb]; exact e.symm, h3⟩
  · rw [if_neg hb] at h2
    obtain ⟨e, h3⟩ := jx_inj h2
    exact ⟨by rw [if_neg hb]; exact e.symm, h3⟩
section JXS
variable {p : Program} {l : Launch} {e : Env} {R : Room} {s : State} {m : MethodId} {args : Array Value} {below : List Frame} {meth : Method} {c : Code} {H : Heap} {locs : List Loc} {cells slots : Nat} {Q : State → Prop}
variable {C : jx_C} {O : jx_O} {N : Nat} {M : jx_M} {cl : List vw_C} {Ts : List Cond} {bytes : Nat → ByteArray} {own : Nat → String} {yy : Nat → MethodName} {mx : Nat → Nat} {rt : Nat → Option FieldType}
variable {D : va_G} {dA : Nat → ClassId} {ad : Nat → Nat} {A : Nat → Prop} {H0 : Heap}
set_option maxHeartbeats 4000000 in
/-- ONE INSTRUCTION that is no call and no return -/
theorem jx_one (hOk : jx_Ok C O N M cl Ts bytes own yy mx rt) {mi pc : Nat} (hx : p.tables.exec = Jvm.exec) (hb : c.code = bytes mi) (hown : s.vm.findClass (own mi) = some m.cls) (hts : ∀ w ∈ Ts, w.before args s = true) (hK : va_K D cl (jx_tys dA) s)
    {i : Instr} {a1 a2 pc1 : Nat} {lc l1 : jx_L} {st st1 : List Value} {σ σ1 : jx_S} (hC : C mi pc = some (i, a1, a2)) (h : jx_step O N M i a1 a2 pc lc st σ = some (.inl (pc1, l1, st1, σ1)))
    {ls : Array Slot} (hl : lv_has ls (mx mi) (jx_cl ad lc)) (hP : va_P D cl (jx_W ad dA O N σ) H) (hD : va_D A (jx_W ad dA O N σ)) (hS : va_S A H0 H locs)
    (kk : ∀ (H1 : Heap) (locs1 : List Loc) (ls1 : Array Slot), va_P D cl (jx_W ad dA O N σ1) H1 → va_D A (jx_W ad dA O N σ1) → va_S A H0 H1 locs1 → lv_has ls1 (mx mi) (jx_cl ad l1) → W p l e R s m args below meth c H1 locs1 cells slots Q (F0 m pc1 ls1 (jx_vs ad st1))) :
    W p l e R s m args below meth c H locs cells slots Q (F0 m pc ls (jx_vs ad st)) := by
  obtain ⟨hdec, hsto, hldc, hldc2, hget, hput, hcv, hcs, hr1, hr2, hr3, hgood, hp1, hp2, hk1, hk2, hk3, hk4⟩ := hOk
  obtain ⟨len, hdg, hlen⟩ := hdec mi pc i a1 a2 hC
  have hst := hsto mi pc i a1 a2 hC
  cases i with
  | iconst n =>
    obtain rfl := hlen.resolve_left (by simp [jx_len])
    obtain ⟨rfl, rfl, rfl, rfl⟩ := jx_inj h
    exact lv_iconst hx hb hdg (hk1 _ _ _ _ _ hC) (kk _ _ _ hP hD hS hl)
  | bipush n =>
    obtain rfl := hlen.resolve_left (by simp [jx_len])
    obtain ⟨rfl, rfl, rfl, rfl⟩ := jx_inj h
    exact lv_bipush hx hb hdg (hk2 _ _ _ _ _ hC) (kk _ _ _ hP hD hS hl)
  | sipush n =>
    obtain rfl := hlen.resolve_left (by simp [jx_len])
    obtain ⟨rfl, rfl, rfl, rfl⟩ := jx_inj h
    exact lv_sipush hx hb hdg (hk3 _ _ _ _ _ hC) (kk _ _ _ hP hD hS hl)
  | lconst n =>
    obtain rfl := hlen.resolve_left (by simp [jx_len])
    obtain ⟨rfl, rfl, rfl, rfl⟩ := jx_inj h
    exact lv_lconst hx hb hdg rfl (kk _ _ _ hP hD hS hl)
  | ldc n =>
    obtain rfl := hlen.resolve_left (by simp [jx_len])
    obtain ⟨rfl, rfl, rfl, rfl⟩ := jx_inj h
    exact lv_ldc hx hb hown (hts _ (hldc _ _ _ _ _ (Or.inl hC))) hdg (kk _ _ _ hP hD hS hl)
  | ldc_w n =>
    obtain rfl := hlen.resolve_left (by simp [jx_len])
    obtain ⟨rfl, rfl, rfl, rfl⟩ := jx_inj h
    exact lv_ldcw hx hb hown (hts _ (hldc _ _ _ _ _ (Or.inr hC))) hdg (kk _ _ _ hP hD hS hl)
  | ldc2_w n =>
    obtain rfl := hlen.resolve_left (by simp [jx_len])
    obtain ⟨rfl, rfl, rfl, rfl⟩ := jx_inj h
    exact lv_ldc2 hx hb hown (hts _ (hldc2 _ _ _ _ _ hC)) hdg (kk _ _ _ hP hD hS hl)
  | iload n =>
    obtain rfl := hlen.resolve_left (by simp [jx_len])
    obtain ⟨x, hx1, h⟩ := jx_li0_inv h
    obtain ⟨rfl, rfl, rfl, rfl⟩ := jx_inj h
    exact lv_iload hx hb hdg (jx_loc hl hx1) (kk _ _ _ hP hD hS hl)
  | iload_n n =>
    obtain rfl := hlen.resolve_left (by simp [jx_len])
    obtain ⟨x, hx1, h⟩ := jx_li0_inv h
    obtain ⟨rfl, rfl, rfl, rfl⟩ := jx_inj h
    exact lv_iload_n hx hb hdg rfl (jx_loc hl hx1) (kk _ _ _ hP hD hS hl)
  | lload n =>
    obtain rfl := hlen.resolve_left (by simp [jx_len])
    obtain ⟨x, hx1, h⟩ := jx_ll0_inv h
    obtain ⟨rfl, rfl, rfl, rfl⟩ := jx_inj h
    exact lv_lload hx hb hdg (jx_loc hl hx1) (kk _ _ _ hP hD hS hl)
  | lload_n n =>
    obtain rfl := hlen.resolve_left (by simp [jx_len])
    obtain ⟨x, hx1, h⟩ := jx_ll0_inv h
    obtain ⟨rfl, rfl, rfl, rfl⟩ := jx_inj h
    exact lv_lload_n hx hb hdg rfl (jx_loc hl hx1) (kk _ _ _ hP hD hS hl)
  | aload n =>
    obtain rfl := hlen.resolve_left (by simp [jx_len])
    obtain ⟨x, hx1, h⟩ := jx_la0_inv h
    obtain ⟨rfl, rfl, rfl, rfl⟩ := jx_inj h
    exact lv_aload hx hb hdg (jx_loc hl hx1) (kk _ _ _ hP hD hS hl)
  | aload_n n =>
    obtain rfl := hlen.resolve_left (by simp [jx_len])
    obtain ⟨x, hx1, h⟩ := jx_la0_inv h
    obtain ⟨rfl, rfl, rfl, rfl⟩ := jx_inj h
    exact lv_aload_n hx hb hdg rfl (jx_loc hl hx1) (kk _ _ _ hP hD hS hl)
  | istore n =>
    obtain rfl := hlen.resolve_left (by simp [jx_len])
    obtain ⟨x, t, rfl, h⟩ := jx_i1_inv h
    obtain ⟨hn, h⟩ := jx_ite_inv h
    obtain ⟨rfl, rfl, rfl, rfl⟩ := jx_inj h
    exact lv_istore hx hb hdg hl (Nat.lt_of_lt_of_le hn (hst rfl)) (jx_st1_cl ad lc n (.int x)) (fun ls1 hl1 => kk _ _ _ hP hD hS hl1)
  | istore_n n =>
    obtain rfl := hlen.resolve_left (by simp [jx_len])
    obtain ⟨x, t, rfl, h⟩ := jx_i1_inv h
    obtain ⟨hn, h⟩ := jx_ite_inv h
    obtain ⟨rfl, rfl, rfl, rfl⟩ := jx_inj h
    exact lv_istore_n hx hb hdg rfl hl (Nat.lt_of_lt_of_le hn (hst rfl)) (jx_st1_cl ad lc n (.int x)) (fun ls1 hl1 => kk _ _ _ hP hD hS hl1)
  | lstore n =>
    obtain rfl := hlen.resolve_left (by simp [jx_len])
    obtain ⟨x, t, rfl, h⟩ := jx_l1_inv h
    obtain ⟨hn, h⟩ := jx_ite_inv h
    obtain ⟨rfl, rfl, rfl, rfl⟩ := jx_inj h
    exact lv_lstore hx hb hdg hl (Nat.lt_of_lt_of_le hn (hst rfl)) (jx_st2_cl ad lc n (.long x)) (fun ls1 hl1 => kk _ _ _ hP hD hS hl1)
  | lstore_n n =>
    obtain rfl := hlen.resolve_left (by simp [jx_len])
    obtain ⟨x, t, rfl, h⟩ := jx_l1_inv h
    obtain ⟨hn, h⟩ := jx_ite_inv h
    obtain ⟨rfl, rfl, rfl, rfl⟩ := jx_inj h
    exact lv_lstore_n hx hb hdg rfl hl (Nat.lt_of_lt_of_le hn (hst rfl)) (jx_st2_cl ad lc n (.long x)) (fun ls1 hl1 => kk _ _ _ hP hD hS hl1)
  | astore n =>
    obtain rfl := hlen.resolve_left (by simp [jx_len])
    obtain ⟨x, t, rfl, h⟩ := jx_a1_inv h
    obtain ⟨hn, h⟩ := jx_ite_inv h
    obtain ⟨rfl, rfl, rfl, rfl⟩ := jx_inj h
    exact lv_astore hx hb hdg hl (Nat.lt_of_lt_of_le hn (hst rfl)) (jx_st1_cl ad lc n (.ref x)) (fun ls1 hl1 => kk _ _ _ hP hD hS hl1)
  | astore_n n =>
    obtain rfl := hlen.resolve_left (by simp [jx_len])
    obtain ⟨x, t, rfl, h⟩ := jx_a1_inv h
    obtain ⟨hn, h⟩ := jx_ite_inv h
    obtain ⟨rfl, rfl, rfl, rfl⟩ := jx_inj h
    exact lv_astore_n hx hb hdg rfl hl (Nat.lt_of_lt_of_le hn (hst rfl)) (jx_st1_cl ad lc n (.ref x)) (fun ls1 hl1 => kk _ _ _ hP hD hS hl1)
  | iinc n k =>
    obtain rfl := hlen.resolve_left (by simp [jx_len])
    obtain ⟨x, hx1, h⟩ := jx_li0_inv h
    obtain ⟨hn, h⟩ := jx_ite_inv h
    obtain ⟨rfl, rfl, rfl, rfl⟩ := jx_inj h
    obtain ⟨j, hj⟩ := List.getElem?_of_mem (List.mem_map.mpr ⟨(n, Value.int x), jx_lookup hx1, rfl⟩ : (n, Value.int x) ∈ jx_cl ad lc)
    exact lv_iinc hx hb hdg hl hj (by rw [hk4 _ _ _ _ _ _ hC]) (Nat.lt_of_lt_of_le hn (hst rfl)) (jx_st1_cl ad lc n (.int (x + jx_k (a2 / 2) (a2 % 2)))) (fun ls1 hl1 => kk _ _ _ hP hD hS hl1)
  | iadd =>
    obtain rfl := hlen.resolve_left (by simp [jx_len])
    obtain ⟨x, y, t, rfl, h⟩ := jx_i2_inv h
    obtain ⟨rfl, rfl, rfl, rfl⟩ := jx_inj h
    exact lv_iadd hx hb hdg (kk _ _ _ hP hD hS hl)
  | isub =>
    obtain rfl := hlen.resolve_left (by simp [jx_len])
    obtain ⟨x, y, t, rfl, h⟩ := jx_i2_inv h
    obtain ⟨rfl, rfl, rfl, rfl⟩ := jx_inj h
    exact lv_isub hx hb hdg (kk _ _ _ hP hD hS hl)
  | imul =>
    obtain rfl := hlen.resolve_left (by simp [jx_len])
    obtain ⟨x, y, t, rfl, h⟩ := jx_i2_inv h
    obtain ⟨rfl, rfl, rfl, rfl⟩ := jx_inj h
    exact lv_imul hx hb hdg (kk _ _ _ hP hD hS hl)
  | iand =>
    obtain rfl := hlen.resolve_left (by simp [jx_len])
    obtain ⟨x, y, t, rfl, h⟩ := jx_i2_inv h
    obtain ⟨rfl, rfl, rfl, rfl⟩ := jx_inj h
    exact lv_iand hx hb hdg (kk _ _ _ hP hD hS hl)
  | ior =>
    obtain rfl := hlen.resolve_left (by simp [jx_len])
    obtain ⟨x, y, t, rfl, h⟩ := jx_i2_inv h
    obtain ⟨rfl, rfl, rfl, rfl⟩ := jx_inj h
    exact lv_ior hx hb hdg (kk _ _ _ hP hD hS hl)
  | ishl =>
    obtain rfl := hlen.resolve_left (by simp [jx_len])
    obtain ⟨x, y, t, rfl, h⟩ := jx_i2_inv h
    obtain ⟨rfl, rfl, rfl, rfl⟩ := jx_inj h
    exact lv_ishl hx hb hdg (kk _ _ _ hP hD hS hl)
  | ishr =>
    obtain rfl := hlen.resolve_left (by simp [jx_len])
    obtain ⟨x, y, t, rfl, h⟩ := jx_i2_inv h
    obtain ⟨rfl, rfl, rfl, rfl⟩ := jx_inj h
    exact lv_ishr hx hb hdg (kk _ _ _ hP hD hS hl)
  | idiv =>
    obtain rfl := hlen.resolve_left (by simp [jx_len])
    obtain ⟨x, y, t, rfl, h⟩ := jx_i2_inv h
    obtain ⟨hy, h⟩ := jx_ite0_inv h
    obtain ⟨rfl, rfl, rfl, rfl⟩ := jx_inj h
    exact lv_idiv hx hb hdg hy (kk _ _ _ hP hD hS hl)
  | irem =>
    obtain rfl := hlen.resolve_left (by simp [jx_len])
    obtain ⟨x, y, t, rfl, h⟩ := jx_i2_inv h
    obtain ⟨hy, h⟩ := jx_ite0_inv h
    obtain ⟨rfl, rfl, rfl, rfl⟩ := jx_inj h
    exact lv_irem hx hb hdg hy (kk _ _ _ hP hD hS hl)
  | ineg =>
    obtain rfl := hlen.resolve_left (by simp [jx_len])
    obtain ⟨x, t, rfl, h⟩ := jx_i1_inv h
    obtain ⟨rfl, rfl, rfl, rfl⟩ := jx_inj h
    exact lv_ineg hx hb hdg (kk _ _ _ hP hD hS hl)
  | i2l =>
    obtain rfl := hlen.resolve_left (by simp [jx_len])
    obtain ⟨x, t, rfl, h⟩ := jx_i1_inv h
    obtain ⟨rfl, rfl, rfl, rfl⟩ := jx_inj h
    exact lv_i2l hx hb hdg rfl (kk _ _ _ hP hD hS hl)
  | l2i =>
    obtain rfl := hlen.resolve_left (by simp [jx_len])
    obtain ⟨x, t, rfl, h⟩ := jx_l1_inv h
    obtain ⟨rfl, rfl, rfl, rfl⟩ := jx_inj h
    exact lv_l2i hx hb hdg rfl (kk _ _ _ hP hD hS hl)
  | ladd =>
    obtain rfl := hlen.resolve_left (by simp [jx_len])
    obtain ⟨x, y, t, rfl, h⟩ := jx_l2_inv h
    obtain ⟨rfl, rfl, rfl, rfl⟩ := jx_inj h
    exact lv_ladd hx hb hdg (kk _ _ _ hP hD hS hl)
  | lsub =>
    obtain rfl := hlen.resolve_left (by simp [jx_len])
    obtain ⟨x, y, t, rfl, h⟩ := jx_l2_inv h
    obtain ⟨rfl, rfl, rfl, rfl⟩ := jx_inj h
    exact lv_lsub hx hb hdg (kk _ _ _ hP hD hS hl)
  | lmul =>
    obtain rfl := hlen.resolve_left (by simp [jx_len])
    obtain ⟨x, y, t, rfl, h⟩ := jx_l2_inv h
    obtain ⟨rfl, rfl, rfl, rfl⟩ := jx_inj h
    exact lv_lmul hx hb hdg (kk _ _ _ hP hD hS hl)
  | land =>
    obtain rfl := hlen.resolve_left (by simp [jx_len])
    obtain ⟨x, y, t, rfl, h⟩ := jx_l2_inv h
    obtain ⟨rfl, rfl, rfl, rfl⟩ := jx_inj h
    exact lv_land hx hb hdg (kk _ _ _ hP hD hS hl)
  | lor =>
    obtain rfl := hlen.resolve_left (by simp [jx_len])
    obtain ⟨x, y, t, rfl, h⟩ := jx_l2_inv h
    obtain ⟨rfl, rfl, rfl, rfl⟩ := jx_inj h
    exact lv_lor hx hb hdg (kk _ _ _ hP hD hS hl)
  | lcmp =>
    obtain rfl := hlen.resolve_left (by simp [jx_len])
    obtain ⟨x, y, t, rfl, h⟩ := jx_l2_inv h
    obtain ⟨rfl, rfl, rfl, rfl⟩ := jx_inj h
    exact W.lcmp hx hb hdg (kk _ _ _ hP hD hS hl)
  | lshl =>
    obtain rfl := hlen.resolve_left (by simp [jx_len])
    obtain ⟨x, y, t, rfl, h⟩ := jx_li_inv h
    obtain ⟨rfl, rfl, rfl, rfl⟩ := jx_inj h
    exact lv_lshl hx hb hdg rfl (kk _ _ _ hP hD hS hl)
  | lshr =>
    obtain rfl := hlen.resolve_left (by simp [jx_len])
    obtain ⟨x, y, t, rfl, h⟩ := jx_li_inv h
    obtain ⟨rfl, rfl, rfl, rfl⟩ := jx_inj h
    exact lv_lshr hx hb hdg rfl (kk _ _ _ hP hD hS hl)
  | lushr =>
    obtain rfl := hlen.resolve_left (by simp [jx_len])
    obtain ⟨x, y, t, rfl, h⟩ := jx_li_inv h
    obtain ⟨rfl, rfl, rfl, rfl⟩ := jx_inj h
    exact lv_lushr hx hb hdg rfl (kk _ _ _ hP hD hS hl)
  | goto off =>
    obtain rfl := hlen.resolve_left (by simp [jx_len])
    obtain ⟨ht, rfl, rfl, rfl⟩ := jx_go_inv h
    exact lv_goto hx hb hdg ht (kk _ _ _ hP hD hS hl)
  | ifCond cd off =>
    obtain rfl := hlen.resolve_left (by simp [jx_len])
    obtain ⟨x, t, rfl, h2⟩ := jx_i1_inv h
    obtain ⟨tg, ht, hp1, rfl, rfl, rfl⟩ := jx_br_inv h2
    have k1 := kk _ _ _ hP hD hS hl
    subst hp1
    by_cases hc : jx_cd cd x 0 = true
    · rw [if_pos hc] at k1
      cases cd <;> simp only [jx_cd, decide_eq_true_eq] at hc
      · exact lv_if_eq hx hb hdg ht (fun _ => k1) (fun q => absurd hc q)
      · exact lv_if_ne hx hb hdg ht (fun _ => k1) (fun q => absurd q hc)
      · exact lv_if_lt hx hb hdg ht (fun _ => k1) (fun q => absurd hc q)
      · exact lv_if_ge hx hb hdg ht (fun _ => k1) (fun q => absurd hc q)
      · exact lv_if_gt hx hb hdg ht (fun _ => k1) (fun q => absurd hc q)
      · exact lv_if_le hx hb hdg ht (fun _ => k1) (fun q => absurd hc q)
    · rw [if_neg hc] at k1
      cases cd <;> simp only [jx_cd, decide_eq_true_eq] at hc
      · exact lv_if_eq hx hb hdg ht (fun q => absurd q hc) (fun _ => k1)
      · exact lv_if_ne hx hb hdg ht (fun q => absurd q hc) (fun _ => k1)
      · exact lv_if_lt hx hb hdg ht (fun q => absurd q hc) (fun _ => k1)
      · exact lv_if_ge hx hb hdg ht (fun q => absurd q hc) (fun _ => k1)
      · exact lv_if_gt hx hb hdg ht (fun q => absurd q hc) (fun _ => k1)
      · exact lv_if_le hx hb hdg ht (fun q => absurd q hc) (fun _ => k1)
  | if_icmp cd off =>
    obtain rfl := hlen.resolve_left (by simp [jx_len])
    obtain ⟨x, y, t, rfl, h2⟩ := jx_i2_inv h
    obtain ⟨tg, ht, hp1, rfl, rfl, rfl⟩ := jx_br_inv h2
    have k1 := kk _ _ _ hP hD hS hl
    subst hp1
    by_cases hc : jx_cd cd x y = true
    · rw [if_pos hc] at k1
      cases cd <;> simp only [jx_cd, decide_eq_true_eq] at hc
      · exact lv_icmp_eq hx hb hdg ht (fun _ => k1) (fun q => absurd hc q)
      · exact lv_icmp_ne hx hb hdg ht (fun _ => k1) (fun q => absurd q hc)
      · exact lv_icmp_lt hx hb hdg ht (fun _ => k1) (fun q => absurd hc q)
      · exact lv_icmp_ge hx hb hdg ht (fun _ => k1) (fun q => absurd hc q)
      · exact lv_icmp_gt hx hb hdg ht (fun _ => k1) (fun q => absurd hc q)
      · exact lv_icmp_le hx hb hdg ht (fun _ => k1) (fun q => absurd hc q)
    · rw [if_neg hc] at k1
      cases cd <;> simp only [jx_cd, decide_eq_true_eq] at hc
      · exact lv_icmp_eq hx hb hdg ht (fun q => absurd q hc) (fun _ => k1)
      · exact lv_icmp_ne hx hb hdg ht (fun q => absurd q hc) (fun _ => k1)
      · exact lv_icmp_lt hx hb hdg ht (fun q => absurd q hc) (fun _ => k1)
      · exact lv_icmp_ge hx hb hdg ht (fun q => absurd q hc) (fun _ => k1)
      · exact lv_icmp_gt hx hb hdg ht (fun q => absurd q hc) (fun _ => k1)
      · exact lv_icmp_le hx hb hdg ht (fun q => absurd q hc) (fun _ => k1)
  | tableswitch dflt lo hi offs =>
    obtain ⟨x, t, rfl, h2⟩ := jx_i1_inv h
    by_cases hc : x.toInt < lo ∨ hi < x.toInt
    · rw [if_pos hc] at h2
      obtain ⟨ht, rfl, rfl, rfl⟩ := jx_go_inv h2
      exact lv_tableOut hx hb hdg hc ht (kk _ _ _ hP hD hS hl)
    · rw [if_neg hc] at h2
      split at h2
      · rename_i off ho
        obtain ⟨ht, rfl, rfl, rfl⟩ := jx_go_inv h2
        exact lv_tableIn hx hb hdg (fun q => hc (Or.inl q)) (fun q => hc (Or.inr q)) ho ht (kk _ _ _ hP hD hS hl)
      · cases h2
  | lookupswitch dflt ps =>
    obtain ⟨x, t, rfl, h2⟩ := jx_i1_inv h
    obtain ⟨hp, h3⟩ := jx_ite_inv h2
    obtain ⟨ht, rfl, rfl, rfl⟩ := jx_go_inv h3
    exact lv_lookup hx hb hdg hp rfl ht (kk _ _ _ hP hD hS hl)
  | dup =>
    obtain rfl := hlen.resolve_left (by simp [jx_len])
    replace h : jx_dup pc lc st σ = some (.inl (pc1, l1, st1, σ1)) := h
    unfold jx_dup at h
    split at h
    · obtain ⟨hc, h3⟩ := jx_ite_inv h
      obtain ⟨rfl, rfl, rfl, rfl⟩ := jx_inj h3
      exact lv_dup hx hb hdg ((jx_cv_cat ad _).trans hc) (kk _ _ _ hP hD hS hl)
    · cases h
  | dup2 =>
    obtain rfl := hlen.resolve_left (by simp [jx_len])
    replace h : jx_dup2 pc lc st σ = some (.inl (pc1, l1, st1, σ1)) := h
    unfold jx_dup2 at h
    split at h
    · obtain ⟨hc, h3⟩ := jx_ite_inv h
      obtain ⟨rfl, rfl, rfl, rfl⟩ := jx_inj h3
      exact lv_dup2_11 hx hb hdg ((jx_cv_cat ad _).trans hc.1) ((jx_cv_cat ad _).trans hc.2) (kk _ _ _ hP hD hS hl)
    · cases h
  | getfield ix =>
    obtain rfl := hlen.resolve_left (by simp [jx_len])
    obtain ⟨k, t, rfl, h2⟩ := jx_a1_inv h
    obtain ⟨kds, kd, hk, ho, hj, h3⟩ := jx_ob_inv h2
    obtain ⟨rfl, rfl, rfl, rfl⟩ := jx_inj h3
    obtain ⟨CN, T, NN, hc, hkN, hin, hlk⟩ := hget _ _ _ _ _ hC
    exact va_get hx hb hts hin hown hK hP k (jx_Wobj hk ho) hc a2 hkN (hts _ hlk) (fun _ q => q) (jx_fs_get hj) hdg (kk _ _ _ hP hD hS hl)
  | putfield ix =>
    obtain rfl := hlen.resolve_left (by simp [jx_len])
    obtain ⟨CN, T, NN, ty0, hc, hkN, hin, hlk, hty, hnm, hfin, hds⟩ := hput _ _ _ _ _ hC
    replace h : jx_put O N a1 a2 pc lc st σ = some (.inl (pc1, l1, st1, σ1)) := h
    unfold jx_put at h
    split at h
    · rename_i x k r
      obtain ⟨kds, kd, hk, ho, hj, h3⟩ := jx_ob_inv h
      by_cases hk0 : kd = 0
      · subst hk0
        rw [if_pos rfl] at h3
        obtain ⟨rfl, rfl, rfl, rfl⟩ := jx_inj h3
        refine va_put (v := .int x) hx hb hts hin ty0 hty hnm hown hK hP hD hS k (jx_Wobj hk ho) hc a2 hkN (hts _ hlk) (fun _ q => q) hfin (hds _ _ _ hk ho hj (by decide)) rfl rfl (by rw [jx_fs_len]; exact (List.getElem?_eq_some_iff.mp hj).1) hdg (fun H1 locs1 hP1 hD1 hS1 => ?_)
        rw [jx_Wset_f ho hj (Or.inl rfl)] at hP1 hD1
        exact kk _ _ _ hP1 hD1 hS1 hl
      · rw [if_neg hk0] at h3
        obtain ⟨hk2, h4⟩ := jx_ite_inv h3
        subst hk2
        obtain ⟨hx01, h5⟩ := jx_ite_inv h4
        obtain ⟨rfl, rfl, rfl, rfl⟩ := jx_inj h5
        refine va_put (v := .int x) hx hb hts hin ty0 hty hnm hown hK hP hD hS k (jx_Wobj hk ho) hc a2 hkN (hts _ hlk) (fun _ q => q) hfin (hds _ _ _ hk ho hj (by decide)) (jx_narrow_b hx01).1 (jx_narrow_b hx01).2.1 (by rw [jx_fs_len]; exact (List.getElem?_eq_some_iff.mp hj).1) hdg (fun H1 locs1 hP1 hD1 hS1 => ?_)
        rw [jx_Wset_f ho hj (Or.inr rfl)] at hP1 hD1
        exact kk _ _ _ hP1 hD1 hS1 hl
    · rename_i x k r
      obtain ⟨kds, kd, hk, ho, hj, h3⟩ := jx_ob_inv h
      obtain ⟨hk2, h4⟩ := jx_ite_inv h3
      subst hk2
      obtain ⟨rfl, rfl, rfl, rfl⟩ := jx_inj h4
      refine va_put (v := .long x) hx hb hts hin ty0 hty hnm hown hK hP hD hS k (jx_Wobj hk ho) hc a2 hkN (hts _ hlk) (fun _ q => q) hfin (hds _ _ _ hk ho hj (by decide)) rfl rfl (by rw [jx_fs_len]; exact (List.getElem?_eq_some_iff.mp hj).1) hdg (fun H1 locs1 hP1 hD1 hS1 => ?_)
      rw [jx_Wset_g ho hj] at hP1 hD1
      exact kk _ _ _ hP1 hD1 hS1 hl
    · cases h
  | iaload =>
    obtain rfl := hlen.resolve_left (by simp [jx_len])
    replace h : jx_ald O N pc 0 lc st σ = some (.inl (pc1, l1, st1, σ1)) := h
    unfold jx_ald at h
    split at h
    · obtain ⟨n, hk, ho, hin, h3⟩ := jx_ar_inv h
      obtain ⟨rfl, rfl, rfl, rfl⟩ := jx_inj h3
      exact va_iald hx hb hK hP _ 0 (jx_Warr hk ho (by decide)) rfl hin hdg (kk _ _ _ hP hD hS hl)
    · cases h
  | laload =>
    obtain rfl := hlen.resolve_left (by simp [jx_len])
    replace h : jx_ald O N pc 1 lc st σ = some (.inl (pc1, l1, st1, σ1)) := h
    unfold jx_ald at h
    split at h
    · obtain ⟨n, hk, ho, hin, h3⟩ := jx_ar_inv h
      obtain ⟨rfl, rfl, rfl, rfl⟩ := jx_inj h3
      exact va_lald hx hb hK hP _ 1 (jx_Warr1 hk ho) rfl hin hdg (kk _ _ _ hP hD hS hl)
    · cases h
  | baload =>
    obtain rfl := hlen.resolve_left (by simp [jx_len])
    replace h : jx_ald O N pc 2 lc st σ = some (.inl (pc1, l1, st1, σ1)) := h
    unfold jx_ald at h
    split at h
    · obtain ⟨n, hk, ho, hin, h3⟩ := jx_ar_inv h
      obtain ⟨rfl, rfl, rfl, rfl⟩ := jx_inj h3
      exact va_zald hx hb hK hP _ 2 (jx_Warr hk ho (by decide)) rfl hin hdg (kk _ _ _ hP hD hS hl)
    · cases h
  | iastore =>
    obtain rfl := hlen.resolve_left (by simp [jx_len])
    replace h : jx_ast O N pc 0 lc st σ = some (.inl (pc1, l1, st1, σ1)) := h
    unfold jx_ast at h
    split at h
    · obtain ⟨n, hk, ho, hin, h3⟩ := jx_ar_inv h
      rw [if_neg (by decide)] at h3
      obtain ⟨rfl, rfl, rfl, rfl⟩ := jx_inj h3
      refine va_iast hx hb hK hP hD hS _ 0 (jx_Warr hk ho (by decide)) rfl hin hdg (fun H1 locs1 hP1 hD1 hS1 => ?_)
      rw [jx_Wset_a ho (by decide)] at hP1 hD1
      exact kk _ _ _ hP1 hD1 hS1 hl
    · cases h
  | bastore =>
    obtain rfl := hlen.resolve_left (by simp [jx_len])
    replace h : jx_ast O N pc 2 lc st σ = some (.inl (pc1, l1, st1, σ1)) := h
    unfold jx_ast at h
    split at h
    · obtain ⟨n, hk, ho, hin, h3⟩ := jx_ar_inv h
      rw [if_pos rfl] at h3
      obtain ⟨hx01, h3⟩ := jx_ite_inv h3
      obtain ⟨rfl, rfl, rfl, rfl⟩ := jx_inj h3
      refine va_zast hx hb hK hP hD hS _ 2 (jx_Warr hk ho (by decide)) rfl hin hdg (fun H1 locs1 hP1 hD1 hS1 => ?_)
      rw [(jx_narrow_b hx01).2.2, jx_Wset_a ho (by decide)] at hP1 hD1
      exact kk _ _ _ hP1 hD1 hS1 hl
    · cases h
  | lastore =>
    obtain rfl := hlen.resolve_left (by simp [jx_len])
    replace h : jx_lst O N pc lc st σ = some (.inl (pc1, l1, st1, σ1)) := h
    unfold jx_lst at h
    split at h
    · obtain ⟨n, hk, ho, hin, h3⟩ := jx_ar_inv h
      obtain ⟨rfl, rfl, rfl, rfl⟩ := jx_inj h3
      refine va_last hx hb hK hP hD hS _ 1 (jx_Warr1 hk ho) rfl hin hdg (fun H1 locs1 hP1 hD1 hS1 => ?_)
      rw [jx_Wset_b ho] at hP1 hD1
      exact kk _ _ _ hP1 hD1 hS1 hl
    · cases h
  | arraylength =>
    obtain rfl := hlen.resolve_left (by simp [jx_len])
    obtain ⟨k, t, rfl, h2⟩ := jx_a1_inv h
    unfold jx_aln at h2
    obtain ⟨hk, h3⟩ := jx_ite_inv h2
    split at h3
    · rename_i t1 n ho
      obtain ⟨ht, h4⟩ := jx_ite_inv h3
      obtain ⟨rfl, rfl, rfl, rfl⟩ := jx_inj h4
      have k1 := kk _ _ _ hP hD hS hl
      have he := jx_W_get (ad := ad) (dA := dA) (O := O) (σ := σ) hk
      rw [ho] at he
      match t1, ht, he with
      | 0, _, he => exact va_alen hx hb hK hP k 0 he (ty := .int) rfl rfl hdg k1
      | 1, _, he => exact va_alen hx hb hK hP k 1 he (ty := .long) rfl rfl hdg k1
      | 2, _, he => exact va_alen hx hb hK hP k 2 he (ty := .boolean) rfl rfl hdg k1
    · cases h3
  | invokevirtual ix =>
    exfalso
    replace h : jx_cv1 O N M pc a1 st = some (.inl (pc1, l1, st1, σ1)) := h
    unfold jx_cv1 at h
    split at h
    · cases h
    · split at h
      · split at h
        · split at h
          · split at h <;> cases h
          · cases h
        · cases h
      · cases h
  | invokestatic ix =>
    exfalso
    replace h : jx_cs1 M pc a1 st = some (.inl (pc1, l1, st1, σ1)) := h
    unfold jx_cs1 at h
    split at h
    · split at h <;> cases h
    · cases h
  | ireturn =>
    exfalso
    replace h : jx_irt a1 st = some (.inl (pc1, l1, st1, σ1)) := h
    unfold jx_irt at h
    split at h
    · split at h
      · cases h
      · split at h <;> cases h
    · cases h
  | lreturn =>
    exfalso
    replace h : jx_lrt st = some (.inl (pc1, l1, st1, σ1)) := h
    unfold jx_lrt at h
    split at h <;> cases h
  | return_ =>
    exfalso
    replace h : jx_vrt st = some (.inl (pc1, l1, st1, σ1)) := h
    unfold jx_vrt at h
    split at h <;> cases h
  | _ =>
    exfalso
    have h9 : (none : Option jx_R) = some (.inl (pc1, l1, st1, σ1)) := h
    cases h9
end JXS
