/-! HOPS: a stretch of a method, by a predicate that goes backwards along steps and calls. -/
def jCl (mi d : Nat) (P : Nat → jx_L → List Value → jx_S → Prop) : Prop :=
  (∀ pc i a1 a2 pc1 l l1 st st1 σ σ1, jt_C mi pc = some (i, a1, a2) → jx_step jt_O jt_N jt_M i a1 a2 pc l st σ = some (.inl (pc1, l1, st1, σ1)) → P pc1 l1 st1 σ1 → P pc l st σ) ∧
  (∀ pc i a1 a2 mj as pc1 l st st1 σ σ1 v, jt_C mi pc = some (i, a1, a2) → jx_step jt_O jt_N jt_M i a1 a2 pc l st σ = some (.inr (.inr (mj, as, pc1, st1))) → mj < 10000 → jE d mj 0 (lv_args 0 as) [] σ (v, σ1) → P pc1 l (v.toList ++ st1) σ1 → P pc l st σ)
section JCL
variable {mi d : Nat} {P : Nat → jx_L → List Value → jx_S → Prop}
theorem jK_blk (hP : jCl mi d P) {a1 a2 : Nat} {i : Instr} : ∀ {bs : List (Instr × Nat × Nat)} {pc pc1 : Nat} {l l1 : jx_L} {st st1 : List Value} {σ σ1 : jx_S}, jx_at mi pc (bs ++ [(i, a1, a2)]) = true → jx_seq bs pc l st σ = some (pc1, l1, st1, σ1) → (jt_C mi pc1 = some (i, a1, a2) → P pc1 l1 st1 σ1) → P pc l st σ := by
  intro bs
  induction bs with
  | nil =>
    intro pc pc1 l l1 st st1 σ σ1 ha hs k
    cases hs
    simp only [List.nil_append, jx_at, Bool.and_true, decide_eq_true_eq] at ha
    exact k ha
  | cons e bs ih =>
    intro pc pc1 l l1 st st1 σ σ1 ha hs k
    simp only [List.cons_append, jx_at, Bool.and_eq_true, decide_eq_true_eq] at ha
    rw [jx_seq] at hs
    split at hs
    · rename_i pc2 l2 st2 σ2 h2
      obtain ⟨h3, h4⟩ := jx_ite_inv hs
      subst h3
      exact hP.1 _ e.1 e.2.1 e.2.2 _ _ _ _ _ _ _ ha.1 h2 (ih ha.2 h4 k)
    · cases hs
theorem jK_ifT (hP : jCl mi d P) {pc a1 a2 : Nat} (tgt : Nat) {c : ClassFile.Cond} {off : Int} {x : Int32} {l : jx_L} {st : List Value} {σ : jx_S} (hC : jt_C mi pc = some (.ifCond c off, a1, a2)) (ht : (pc : Int) + off = (tgt : Int)) (hc : jx_cdP c x 0) (k : P tgt l st σ) : P pc l (.int x :: st) σ :=
  hP.1 _ _ _ _ _ _ _ _ _ _ _ hC (jx_brT ht ((jx_cdP_iff c x 0).mpr hc)) k
theorem jK_ifF (hP : jCl mi d P) {pc a1 a2 : Nat} (tgt : Nat) {c : ClassFile.Cond} {off : Int} {x : Int32} {l : jx_L} {st : List Value} {σ : jx_S} (hC : jt_C mi pc = some (.ifCond c off, a1, a2)) (ht : (pc : Int) + off = (tgt : Int)) (hc : ¬ jx_cdP c x 0) (k : P (pc + 3) l st σ) : P pc l (.int x :: st) σ :=
  hP.1 _ _ _ _ _ _ _ _ _ _ _ hC (jx_brF ht (fun q => hc ((jx_cdP_iff c x 0).mp q))) k
theorem jK_icT (hP : jCl mi d P) {pc a1 a2 : Nat} (tgt : Nat) {c : ClassFile.Cond} {off : Int} {x y : Int32} {l : jx_L} {st : List Value} {σ : jx_S} (hC : jt_C mi pc = some (.if_icmp c off, a1, a2)) (ht : (pc : Int) + off = (tgt : Int)) (hc : jx_cdP c x y) (k : P tgt l st σ) : P pc l (.int y :: .int x :: st) σ :=
  hP.1 _ _ _ _ _ _ _ _ _ _ _ hC (jx_brT ht ((jx_cdP_iff c x y).mpr hc)) k
theorem jK_icF (hP : jCl mi d P) {pc a1 a2 : Nat} (tgt : Nat) {c : ClassFile.Cond} {off : Int} {x y : Int32} {l : jx_L} {st : List Value} {σ : jx_S} (hC : jt_C mi pc = some (.if_icmp c off, a1, a2)) (ht : (pc : Int) + off = (tgt : Int)) (hc : ¬ jx_cdP c x y) (k : P (pc + 3) l st σ) : P pc l (.int y :: .int x :: st) σ :=
  hP.1 _ _ _ _ _ _ _ _ _ _ _ hC (jx_brF ht (fun q => hc ((jx_cdP_iff c x y).mp q))) k
theorem jK_call (hP : jCl mi d P) {pc pc1 a1 a2 mj : Nat} {i : Instr} {l : jx_L} {st st1 as : List Value} {σ σ1 : jx_S} {v : Option Value} (hC : jt_C mi pc = some (i, a1, a2)) (hs : jx_step jt_O jt_N jt_M i a1 a2 pc l st σ = some (.inr (.inr (mj, as, pc1, st1)))) (hm : mj < 10000) (h1 : jE d mj 0 (lv_args 0 as) [] σ (v, σ1)) (k : P pc1 l (v.toList ++ st1) σ1) : P pc l st σ :=
  hP.2 _ _ _ _ _ _ _ _ _ _ _ _ _ hC hs hm h1 k
end JCL
section JGS
variable {D : va_G} {dA : Nat → ClassId} {ad : Nat → Nat} {p : Program} {l : Launch} {e : Env} {R : Room} {s : State} {m : MethodId} {args : Array Value} {below : List Frame} {meth : Method} {c : Code} {cells slots : Nat} {Q : State → Prop} {A : Nat → Prop} {H0 : Heap}
/-- the walk goes on from there, wherever the world lies as σ says -/
def jG (D : va_G) (dA : Nat → ClassId) (ad : Nat → Nat) (p : Program) (l : Launch) (e : Env) (R : Room) (s : State) (m : MethodId) (args : Array Value) (below : List Frame) (meth : Method) (c : Code) (cells slots : Nat) (Q : State → Prop) (A : Nat → Prop) (H0 : Heap) (mi : Nat) (pc : Nat) (lc : jx_L) (st : List Value) (σ : jx_S) : Prop :=
  ∀ (H : Heap) (locs : List Loc) (ls : Array Slot), lv_has ls (jt_mx mi) (jx_cl ad lc) → va_P D jt_cl (jx_W ad dA jt_O jt_N σ) H → va_D A (jx_W ad dA jt_O jt_N σ) → va_S A H0 H locs → W p l e R s m args below meth c H locs cells slots Q (F0 m pc ls (jx_vs ad st))
/-- what stands around the walk -/
def jAmb (D : va_G) (dA : Nat → ClassId) (p : Program) (R : Room) (s : State) (m : MethodId) (args : Array Value) (c : Code) (cells slots : Nat) (A : Nat → Prop) (H0 : Heap) (mi d : Nat) : Prop :=
  p.tables.exec = Jvm.exec ∧ c.code = jt_by mi ∧ c.maxLocals = jt_mx mi ∧ s.vm.findClass (jt_ow mi) = some m.cls ∧ (∀ w ∈ jt_Ts, w.before args s = true) ∧ va_K D jt_cl (jx_tys dA) s ∧ (∀ q, H0.size ≤ q → A q) ∧ (d + 1 ≤ R.frames ∧ 100 * (d + 1) ≤ R.locals) ∧ (cells ≤ R.cells ∧ slots ≤ R.slots)
theorem jG_cl {mi d : Nat} (Z : jAmb D dA p R s m args c cells slots A H0 mi d) : jCl mi d (jG D dA ad p l e R s m args below meth c cells slots Q A H0 mi) := by
  obtain ⟨hx, hb, hml, hown, hts, hK, hA, hR, hcs⟩ := Z
  refine ⟨fun pc i a1 a2 pc1 l0 l1 st st1 σ σ1 hC hs k H locs ls hl hP hD hS => jx_one jt_Ok hx hb hown hts hK hC hs hl hP hD hS (fun H1 locs1 ls1 hP1 hD1 hS1 hl1 => k H1 locs1 ls1 hl1 hP1 hD1 hS1), ?_⟩
  intro pc i a1 a2 mj as pc1 lc st st1 σ σ1 v hC hs hmj hE k H locs ls hl hP hD hS
  obtain ⟨n, hrun⟩ := hE
  obtain ⟨rfl, rfl, h8, hwn, hcall⟩ := jx_call_inv hs
  have hP1 := jx_walk (D := D) (dA := dA) (ad := ad) jt_Ok l d
  obtain ⟨hdec, -, -, -, -, -, hcv, hcs1, hr1, hr2, hr3, hgood, hp1, hp2, -, -, -, -⟩ := id jt_Ok
  obtain ⟨len, hdg, hlen⟩ := hdec mi pc i _ a2 hC
  have h8' : (st1.map fun v => v.category).sum ≤ 8 := by simpa [jx_w8] using h8
  have h8c : 2 * (F0 m pc ls (jx_vs ad st)).monitorRoom + ((jx_vs ad st1).map fun v => v.category).sum ≤ 8 := by
    have : ((jx_vs ad st1).map fun v => v.category) = st1.map fun v => v.category := by
      rw [List.map_map]; exact List.map_congr_left (fun v _ => jx_cv_cat ad v)
    rw [this]
    show 2 * 0 + _ ≤ 8
    omega
  have kkk : ∀ (H1 : Heap) (locs1 : List Loc), va_P D jt_cl (jx_W ad dA jt_O jt_N σ1) H1 → va_D A (jx_W ad dA jt_O jt_N σ1) → va_S A H0 H1 locs1 → W p l e R s m args below meth c H1 locs1 cells slots Q (F0 m (pc + 3) ls ((v.map (jx_cv ad)).toList ++ jx_vs ad st1)) := by
    intro H1 locs1 hP2 hD2 hS2
    have := k H1 locs1 ls hl hP2 hD2 hS2
    have e : jx_vs ad (v.toList ++ st1) = (v.map (jx_cv ad)).toList ++ jx_vs ad st1 := by cases v <;> simp [jx_vs]
    rw [e] at this
    exact this
  rcases hcall with ⟨ix, b, bs, kds, rfl, hst, rfl, hbl, rfl, hbN, hO⟩ | ⟨ix, rfl, hst, hbl, rfl⟩
  · obtain rfl := hlen.resolve_left (by simp [jx_len])
    obtain ⟨w1, w2, w3, hm, T, NN, hcl⟩ := hcv _ _ _ _ _ hC hst
    have hM := jx_met jt_Ok hP1 (ad := ad) hm hrun hwn
    obtain ⟨m1, m2, m3, m4, m5, m6, m7, m8⟩ := hm
    refine jx_call (a := #[]) (σ := σ) (σ' := σ1) (v := v) (va_runV (As := jx_vs ad bs) (b := ad b) (rest := jx_vs ad st1) (C := jt_ow _) ⟨hx, hb, hml, hown, hts⟩ (hM H.size) (cwV (jt_M _).2.1 hts (jx_goodc hgood w1 w2 w3 m2 (fun w hw => by rcases List.mem_cons.mp hw with rfl | hw; exact m1; exact hw)) rfl rfl rfl ⟨m3, m5.1, m5.2, m6⟩ ⟨hR.1, by show 8 + (_ + 11) + 100 * d ≤ R.locals; omega⟩) ⟨jx_blind, va_recv hK hP hcl (jx_Wobj hbN hO), fun U hU hW => ⟨rfl, by rw [hU], by rw [hU]; exact hP, va_K.moved hW.alike hK, hD.weaken (fun _ _ _ _ => trivial)⟩⟩ rfl (by rw [List.length_map]; exact hbl) hl.1 (by simp [jx_vs, jx_cv]) h8c hdg ⟨hcs.1, hcs.2⟩) hD hS hA kkk
  · obtain rfl := hlen.resolve_left (by simp [jx_len])
    obtain ⟨w1, w2, hm⟩ := hcs1 _ _ _ _ _ hC hmj hst
    have hM := jx_met jt_Ok hP1 (ad := ad) hm hrun hwn
    obtain ⟨m1, m2, m3, m4, m5, m6, m7, m8⟩ := hm
    refine jx_call (a := #[]) (σ := σ) (σ' := σ1) (v := v) (va_runS (As := jx_vs ad as) (rest := jx_vs ad st1) ⟨hx, hb, hml, hown, hts⟩ (hM H.size) (va_cwS (jt_M _).2.1 hts (jx_goodc3 hgood w1 w2 (by rw [m3]; exact m2) (fun w hw => by rcases List.mem_cons.mp hw with rfl | hw; exact m1; exact hw)) rfl rfl rfl ⟨m5.1, m5.2, m6⟩ ⟨hR.1, by show 8 + (_ + 11) + 100 * d ≤ R.locals; omega⟩) ⟨jx_blind, fun U hU hW => ⟨rfl, by rw [hU], by rw [hU]; exact hP, va_K.moved hW.alike hK, hD.weaken (fun _ _ _ _ => trivial)⟩⟩ rfl (by rw [List.length_map]; exact hbl) hl.1 (by simp [jx_vs]) h8c hdg ⟨hcs.1, hcs.2⟩) hD hS hA kkk
end JGS
