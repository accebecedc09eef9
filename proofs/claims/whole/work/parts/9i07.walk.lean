/-! CONSTRUCTORS, 7: the walk. -/
/-- which methods end how -/
def jc_endk (mi : Nat) (i : Instr) : Bool := match i with
  | .return_ => decide (mi ≠ 13)
  | .ireturn => decide (mi = 13)
  | _ => true
theorem jc_endA : (List.range 15).all (fun mi => (jc_C mi).all (fun e => jc_endk mi e.2)) = true := by decide +kernel
theorem jc_mem {mi pc : Nat} {i : Instr} (h : (jc_C mi).lookup pc = some i) : (pc, i) ∈ jc_C mi := by
  generalize jc_C mi = L at h
  induction L with
  | nil => cases h
  | cons q L ih =>
    obtain ⟨a, b⟩ := q
    rw [List.lookup_cons] at h
    by_cases e : pc = a
    · subst e
      simp at h
      subst h
      exact List.mem_cons_self
    · rw [show (pc == a) = false from by simp [e]] at h
      exact List.mem_cons_of_mem _ (ih h)
theorem jc_ret_inv {i : Instr} {mi pc : Nat} {lc : jx_L} {st : List Value} {ws : jc_W} {v : Option Value} (h : jc_step i mi pc lc st ws = some (.inr (.inl v))) : (i = .return_ ∧ st = [] ∧ v = none) ∨ (∃ x, i = .ireturn ∧ st = [.int x] ∧ v = some (.int x)) := by
  unfold jc_step at h
  split at h
  all_goals (try unfold jc_ld at h)
  all_goals (try unfold jc_go at h)
  all_goals (repeat' split at h)
  all_goals (try unfold jc_put at h)
  all_goals (try unfold jc_get at h)
  all_goals (repeat' split at h)
  all_goals first
    | (cases h; done)
    | (cases h; exact Or.inl ⟨rfl, rfl, rfl⟩)
    | (cases h; exact Or.inr ⟨_, rfl, rfl, rfl⟩)
theorem jc_call_inv {i : Instr} {mi pc mj k : Nat} {lc : jx_L} {st as st1 : List Value} {ws : jc_W} (h : jc_step i mi pc lc st ws = some (.inr (.inr (mj, k, as, st1)))) :
    jx_w8 st1 = true ∧ jx_wn as ≤ jc_mx mj ∧ ((∃ ix b bs, i = .invokespecial ix ∧ (k = 0 ∨ k = 1) ∧ (ix, mj, k) ∈ jc_iv mi ∧ as = .ref b :: bs ∧ bs.length = jc_na mj ∧ st = bs.reverse ++ .ref b :: st1) ∨ (∃ ix b bs, i = .invokevirtual ix ∧ k = 2 ∧ (ix, mj, k) ∈ jc_iv mi ∧ as = .ref b :: bs ∧ bs.length = jc_na mj ∧ st = bs.reverse ++ .ref b :: st1 ∧ jc_cof ws b = 11) ∨ (∃ ix, i = .invokestatic ix ∧ k = 3 ∧ (ix, mj, k) ∈ jc_iv mi ∧ as.length = jc_na mj ∧ st = as.reverse ++ st1)) := by
  unfold jc_step at h
  split at h
  all_goals first
    | (cases h; done)
    | (exfalso; unfold jc_ld at h; split at h <;> (cases h; done))
    | (exfalso; (repeat' split at h) <;> first | (cases h; done) | (unfold jc_go at h; split at h <;> (cases h; done)) | (unfold jc_put at h; (repeat' split at h) <;> (cases h; done)) | (unfold jc_get at h; (repeat' split at h) <;> (cases h; done)))
    | skip
  · split at h
    · exfalso
      (repeat' split at h) <;> (cases h; done)
    · exfalso
      (repeat' split at h) <;> (cases h; done)
    · exfalso
      (repeat' split at h) <;> (cases h; done)
    · rename_i mj' hcs
      obtain ⟨⟨e1, e2, e3⟩, h2⟩ := jx_ite_inv h
      cases h2
      obtain ⟨ix, hmem, ⟨-, q⟩ | ⟨-, q⟩ | ⟨rfl, -⟩⟩ := jc_cs_inv hcs
      · omega
      · omega
      · exact ⟨e2, e3, Or.inr (Or.inr ⟨ix, rfl, rfl, hmem, by simpa using e1, by rw [List.reverse_reverse, List.take_append_drop]⟩)⟩
    · have hcs := ‹jc_cs i mi pc st = some (_, _)›
      split at h
      · have hdr := ‹List.drop _ st = _ :: _›
        obtain ⟨⟨e1, e2, e3, e4⟩, h2⟩ := jx_ite_inv h
        cases h2
        obtain ⟨ix, hmem, ⟨rfl, q⟩ | ⟨rfl, q⟩ | ⟨rfl, q⟩⟩ := jc_cs_inv hcs
        · rcases q with rfl | rfl | rfl
          · exact ⟨e2, e3, Or.inl ⟨ix, _, _, rfl, Or.inl rfl, hmem, rfl, by simpa using e1, by rw [List.reverse_reverse, ← hdr, List.take_append_drop]⟩⟩
          · exact ⟨e2, e3, Or.inl ⟨ix, _, _, rfl, Or.inr rfl, hmem, rfl, by simpa using e1, by rw [List.reverse_reverse, ← hdr, List.take_append_drop]⟩⟩
          · exfalso
            simp_all
        · rcases q with rfl | rfl | rfl
          · exact ⟨e2, e3, Or.inr (Or.inl ⟨ix, _, _, rfl, rfl, hmem, rfl, by simpa using e1, by rw [List.reverse_reverse, ← hdr, List.take_append_drop], e4.resolve_left (fun z => z rfl)⟩)⟩
          · exfalso
            simp_all
          · exfalso
            simp_all
        · exfalso
          simp_all
      · cases h
    · cases h
theorem jc_cof_inv {ws : jc_W} {b : Nat} (h : jc_cof ws b = 11) : ∃ fs, ws[b]? = some (.inl (11, fs)) := by
  unfold jc_cof at h
  split at h
  · rename_i c1 fs e1
    subst h
    exact ⟨fs, e1⟩
  · cases h
section JCW
variable {D : va_G} {dA : Nat → ClassId} {ad : Nat → Nat} {h : Nat} {s0 : State} {l : Launch}
/-- what stands for all constructors -/
def jcB (s0 : State) (ad : Nat → Nat) (h : Nat) : Prop := (∀ k, k < 1000 → ad k = h + k) ∧ jW1 s0 ∧ vk_R "LazyStrict$Tokens" 33 "int list let in if then else case of empty nil cons error " (ad 1000) s0 ∧ s0.heap.size ≤ h ∧ ∃ (a2 : Nat) (fm : Value), jsU s0 s0 (ad 1000) a2 fm
def jc_room (d mc ms : Nat) : Room := { frames := d + 6, cells := mc, slots := ms, locals := 100 * (d + 6) }
def jc_Met (l : Launch) (D : va_G) (dA : Nat → ClassId) (ad : Nat → Nat) (h : Nat) (s0 : State) (d mj : Nat) (as : List Value) (ws : jc_W) (v : Option Value) (ws' : jc_W) : Prop :=
  Met l (jc_yy mj) (Cond.code (jc_yy mj) (jc_by mj) (jc_mx mj) (jc_rt mj) :: jt_Ts) (jc_room d (ws'.length - ws.length) (jc_sl ws' - jc_sl ws))
    (va_Pc (jx_vs ad as) (fun U => U.heap.size = h + ws.length ∧ va_P D jt_cl (jc_ww ad dA ws) U.heap ∧ va_K D jt_cl (jx_tys dA) U ∧ jFrom s0 U))
    (fun _ st oc t => (oc = .returned (v.map (jx_cv ad)) ∧ va_P D jt_cl (jc_ww ad dA ws') t.heap) ∧ va_F (fun q : Nat => h ≤ q) st t) (ws'.length - ws.length) (jc_sl ws' - jc_sl ws) (fun q : Nat => h ≤ q)
def jc_P (l : Launch) (D : va_G) (dA : Nat → ClassId) (ad : Nat → Nat) (h : Nat) (s0 : State) (d : Nat) : Prop :=
  ∀ (p : Program) (e : Env) (R : Room) (s : State) (m : MethodId) (args : Array Value) (below : List Frame) (meth : Method) (c : Code) (Q : State → Prop) (n0 m0 mi : Nat), mi < 15 → jcA p s s0 m args meth c D dA ad h n0 mi → (d + 6 ≤ R.frames ∧ 100 * (d + 6) ≤ R.locals) →
    ∀ (n pc : Nat) (lc : jx_L) (st : List Value) (ws : jc_W) (v : Option Value) (ws' : jc_W), jc_run n d mi pc lc st ws = some (v, ws') → ws'.length ≤ n0 + R.cells → jc_sl ws' ≤ m0 + R.slots → ws'.length ≤ 1000 →
    (∀ (pcR : Nat) (iR : Instr) (H1 : Heap) (locs1 : List Loc) (ls1 : Array Slot) (cells1 slots1 : Nat), cells1 + n0 = ws'.length → slots1 + m0 = jc_sl ws' → decode (jc_by mi) pcR = .ok (iR, 1) → jx_ret (jc_rt mi) iR v → va_P D jt_cl (jc_ww ad dA ws') H1 → va_S (fun q : Nat => h ≤ q) s.heap H1 locs1 → W p l e R s m args below meth c H1 locs1 cells1 slots1 Q (F0 m pcR ls1 v.toList)) →
    jcG p l e R s m args below meth c Q D dA ad h n0 m0 mi pc lc st ws
theorem jc_blind {as : List Value} {ws : jc_W} : FrameBlind (va_Pc (jx_vs ad as) (fun U => U.heap.size = h + ws.length ∧ va_P D jt_cl (jc_ww ad dA ws) U.heap ∧ va_K D jt_cl (jx_tys dA) U ∧ jFrom s0 U)) := by
  intro a U g mk q
  obtain ⟨q0, q1, qP, qK, qF⟩ := q
  exact ⟨q0, q1, qP, va_K.moved (u := U) (U := U.calling g mk a) (Vm.Alike.refl U.vm) qK, qF⟩
/-- a contract out of the walk -/
theorem jc_met (hB : jcB s0 ad h) {d mj n : Nat} {as : List Value} {ws ws' : jc_W} {v : Option Value} (hP : jc_P l D dA ad h s0 d) (hmj : mj < 15) (hrun : jc_run n d mj 0 (lv_args 0 as) [] ws = some (v, ws')) (hwn : jx_wn as ≤ jc_mx mj) (h1000 : ws'.length ≤ 1000) : jc_Met l D dA ad h s0 d mj as ws v ws' := by
  obtain ⟨hpl, hmh, hvh, hds, hmx, hnm⟩ := jc_mgD hmj
  obtain ⟨had, hW1, hstr, hs0h, hjs⟩ := hB
  obtain ⟨hmo1, hmo2⟩ := jc_mono _ _ _ _ _ _ _ _ _ hrun
  have hlen : (lg_sl (jx_vs ad as)).length ≤ jc_mx mj := by rw [jx_sl_len]; omega
  refine Met.ofW (cc := jc_by mj) (maxL := jc_mx mj) (ret := jc_rt mj) hpl rfl ?_
  intro p e s m args below meth c s₁ B hml hv
  obtain ⟨rfl, hsz, hPw, hK, hF⟩ := hv
  have hx := B.exec
  have hb := B.bytes
  have hr := B.returns
  have hts0 := atoms_spec (ws := Cond.code (jc_yy mj) (jc_by mj) (jc_mx mj) (jc_rt mj) :: jt_Ts) B.pre
  have hts : ∀ w ∈ jt_Ts, w.before (jx_vs ad as).toArray s = true := fun w h => hts0 w (List.mem_cons_of_mem _ h)
  have hown : s.vm.findClass (jc_own mj) = some m.cls := findClass_of_methodNamed B.named
  have hlocks := B.notSynchronized
  have hin := (name_of_methodNamed B.named B.method).1
  have hS : va_S (fun q : Nat => h ≤ q) s.heap s.heap [] := va_S.rf
  have hl := lv_entry (jx_vs ad as) (n := jc_mx mj) hlen
  rw [lg_entry_eq]
  rw [jx_args_cl ad as 0] at hl
  refine hP p e _ s m _ below meth c _ ws.length (jc_sl ws) mj hmj ⟨hx, hb, hml, hown, hts, hK, hsz, had, fun z => hin.trans (hnm z), hF, hW1, hstr, hs0h, hjs⟩ ⟨Nat.le_refl _, Nat.le_refl _⟩ n 0 _ [] ws v ws' hrun (by show _ ≤ _ + (ws'.length - ws.length); omega) (by show _ ≤ _ + (jc_sl ws' - jc_sl ws); omega) h1000 ?_ s.heap [] _ 0 0 (Nat.zero_add _) (Nat.zero_add _) hl hPw hS
  intro pcR iR H1 locs1 ls1 cells1 slots1 hc1 hs1 hdg hret hP1 hS1
  have e1 : cells1 = ws'.length - ws.length := by omega
  have e2 : slots1 = jc_sl ws' - jc_sl ws := by omega
  subst e1
  subst e2
  rcases hret with ⟨rfl, rfl, hrt⟩ | ⟨x, rfl, rfl, ty, hrt, hn⟩ | ⟨x, rfl, rfl, hrt⟩
  · exact W.vret hx hb (hr.trans hrt) (fun t ht hW => ⟨⟨rfl, by rw [ht]; exact hP1⟩, hS1.F ht⟩) hS1.2.2 hdg
  · exact W.zret hx hb (hr.trans hrt) hn (fun t ht hW => ⟨⟨rfl, by rw [ht]; exact hP1⟩, hS1.F ht⟩) hS1.2.2 hdg
  · exact W.lret hx hb (hr.trans hrt) (fun t ht hW => ⟨⟨rfl, by rw [ht]; exact hP1⟩, hS1.F ht⟩) hS1.2.2 hdg
variable {p : Program} {e : Env} {R : Room} {s : State} {m : MethodId} {args : Array Value} {below : List Frame} {meth : Method} {c : Code} {H : Heap} {locs : List Loc} {cells slots : Nat} {Q : State → Prop}
/-- behind a call -/
theorem jc_behind {pc mc ms : Nat} {ls : Array Slot} {st0 rest : List Value} {a : Array Value} {ws1 : jc_W} {v : Option Value}
    (hr : va_Run p l e R s m args below meth c H locs cells slots mc ms (F0 m pc ls st0) rest ((fun _ st oc t => (oc = Outcome.returned (v.map (jx_cv ad)) ∧ va_P D jt_cl (jc_ww ad dA ws1) t.heap) ∧ va_F (fun q : Nat => h ≤ q) st t : Array Value → State → Outcome → State → Prop) a) (fun q : Nat => h ≤ q))
    (hS : va_S (fun q : Nat => h ≤ q) s.heap H locs)
    (kk : ∀ (H1 : Heap) (locs1 : List Loc), va_P D jt_cl (jc_ww ad dA ws1) H1 → va_S (fun q : Nat => h ≤ q) s.heap H1 locs1 → W p l e R s m args below meth c H1 locs1 (cells + mc) (slots + ms) Q (F0 m (pc + 3) ls ((v.map (jx_cv ad)).toList ++ rest))) : W p l e R s m args below meth c H locs cells slots Q (F0 m pc ls st0) := by
  intro T hT X
  obtain ⟨w, st₀, t, T', L, h0, X', hL, e1, e2, ⟨⟨hv, hp⟩, hz, hk⟩, st⟩ := hr T hT X
  cases hv
  rw [h0] at hz hk
  obtain ⟨t2, a1, b1⟩ := kk T'.heap (locs ++ L) (by rw [e1]; exact hp)
    ⟨Nat.le_trans hS.1 (by rw [e1]; exact hz), fun q h1 h2 => by rw [e1, hk q (Nat.lt_of_lt_of_le h1 hS.1) h2]; exact hS.2.1 q h1 h2, fun q hq => by
      rcases List.mem_append.mp hq with h | h
      · exact hS.2.2 q h
      · exact hL q h⟩ T' rfl X'
  exact ⟨t2, st t2 a1, b1⟩
set_option maxHeartbeats 4000000 in
theorem jc_walk1 (hB : jcB s0 ad h) (d : Nat) (ihd : ∀ d1, d = d1 + 1 → jc_P l D dA ad h s0 d1) : jc_P l D dA ad h s0 d := by
  intro p e R s m args below meth c Q n0 m0 mi hmi Z hR n
  induction n with
  | zero => intro pc lc st ws v ws' h; cases h
  | succ n ih =>
    intro pc lc st ws v ws' hh hb1 hb2 h1000 kk
    rw [jc_run] at hh
    split at hh
    · cases hh
    · rename_i i hC
      split at hh
      · cases hh
      · rename_i pc1 l1 st1 ws1 hs
        obtain ⟨g1, g2⟩ := jc_mono _ _ _ _ _ _ _ _ _ hh
        exact jc_one Z hmi hC hs (by omega) (by omega) (by omega) ⟨by omega, by omega⟩ (ih pc1 l1 st1 ws1 v ws' hh hb1 hb2 h1000 kk)
      · rename_i v1 hs
        cases hh
        have hdg := jc_dec hC
        have hend := List.all_eq_true.mp (List.all_eq_true.mp jc_endA mi (List.mem_range.mpr hmi)) _ (jc_mem hC)
        intro H locs ls cells slots hc hsl hl hP hS
        rcases jc_ret_inv hs with ⟨rfl, rfl, rfl⟩ | ⟨x, rfl, rfl, rfl⟩
        · have h13 : mi ≠ 13 := by simpa [jc_endk] using hend
          exact kk pc _ H locs ls cells slots hc hsl hdg (Or.inl ⟨rfl, rfl, by unfold jc_rt; rw [if_neg h13]⟩) hP hS
        · have h13 : mi = 13 := by simpa [jc_endk] using hend
          exact kk pc _ H locs ls cells slots hc hsl hdg (Or.inr (Or.inl ⟨x, rfl, rfl, .int, by unfold jc_rt; rw [if_pos h13], rfl⟩)) hP hS
      · rename_i mj kd as st1 hs
        obtain ⟨h8, hwn, hcall⟩ := jc_call_inv hs
        split at hh
        · cases hh
        · rename_i d1
          split at hh
          · cases hh
          · rename_i v1 ws1 hrun
            obtain ⟨g1, g2⟩ := jc_mono _ _ _ _ _ _ _ _ _ hh
            obtain ⟨g3, g4⟩ := jc_mono _ _ _ _ _ _ _ _ _ hrun
            obtain ⟨hx, hb, hml, hown, hts, hK, hs0, had, hnm, hF, hW1, hstr, hs0h, hjs⟩ := id Z
            have hdg := jc_dec hC
            have h8c := jc_w8c (ad := ad) h8
            have k1 := ih (pc + 3) lc (v1.toList ++ st1) ws1 v ws' hh hb1 hb2 h1000 kk
            intro H locs ls cells slots hc hsl hl hP hS T hT X
            have hsz := jc_size X hT hs0 hc had (by omega) hP hS
            have hFH := jc_fh hF hS hs0h
            have kkk : ∀ (H1 : Heap) (locs1 : List Loc), va_P D jt_cl (jc_ww ad dA ws1) H1 → va_S (fun q : Nat => h ≤ q) s.heap H1 locs1 → W p l e R s m args below meth c H1 locs1 (cells + (ws1.length - ws.length)) (slots + (jc_sl ws1 - jc_sl ws)) Q (F0 m (pc + 3) ls ((v1.map (jx_cv ad)).toList ++ jx_vs ad st1)) := by
              intro H1 locs1 hP2 hS2
              have := k1 H1 locs1 ls (cells + (ws1.length - ws.length)) (slots + (jc_sl ws1 - jc_sl ws)) (by omega) (by omega) hl hP2 hS2
              have e : jx_vs ad (v1.toList ++ st1) = (v1.map (jx_cv ad)).toList ++ jx_vs ad st1 := by cases v1 <;> simp [jx_vs]
              rw [e] at this
              exact this
            have hcs : cells + (ws1.length - ws.length) ≤ R.cells ∧ slots + (jc_sl ws1 - jc_sl ws) ≤ R.slots := ⟨by omega, by omega⟩
            have hpre : ∀ U : State, U.heap = H → s.WarmedH U.vm → U.heap.size = h + ws.length ∧ va_P D jt_cl (jc_ww ad dA ws) U.heap ∧ va_K D jt_cl (jx_tys dA) U ∧ jFrom s0 U := fun U hU hW => ⟨by rw [hU]; exact hsz, by rw [hU]; exact hP, va_K.moved hW.alike hK, State.WarmedH.trans hF.1 hW, fun a ha => by rw [hU]; exact hFH a ha⟩
            have hmj : mj < 15 := by
              rcases hcall with ⟨ix, b, bs, -, hk, hmem, -⟩ | ⟨ix, b, bs, -, rfl, hmem, -⟩ | ⟨ix, -, rfl, hmem, -⟩
              · have w := jc_ivD hmi hmem
                rcases hk with rfl | rfl
                · simp only [jc_ivk, Bool.and_eq_true, decide_eq_true_eq] at w
                  omega
                · simp only [jc_ivk, Bool.and_eq_true, decide_eq_true_eq] at w
                  omega
              · have w := jc_ivD hmi hmem
                simp only [jc_ivk, Bool.and_eq_true, decide_eq_true_eq] at w
                omega
              · have w := jc_ivD hmi hmem
                simp only [jc_ivk, Bool.and_eq_true, decide_eq_true_eq] at w
                omega
            have hM := jc_met (D := D) (dA := dA) hB (ihd d1 rfl) hmj hrun hwn (by omega)
            obtain ⟨q1, q2, q3, q4, q5, q6⟩ := jc_mgD hmj
            obtain ⟨m1, m2, m3, m4⟩ := jc_mwD hmj
            have hGd : GoodIn jt_Ts (Cond.code (jc_yy mj) (jc_by mj) (jc_mx mj) (jc_rt mj) :: jt_Ts) := by
              intro w hw
              rcases List.mem_cons.mp hw with rfl | hw
              · exact jt_gg _ (jt_inT m1 rfl)
              · exact jt_gg _ hw
            have hRR : d1 + 6 + 1 ≤ R.frames ∧ 8 + (jc_mx mj + 11) + 100 * (d1 + 6) ≤ R.locals := ⟨by omega, by omega⟩
            rcases hcall with ⟨ix, b, bs, rfl, hk, hmem, rfl, hbl, rfl⟩ | ⟨ix, b, bs, rfl, rfl, hmem, rfl, hbl, rfl, hcof⟩ | ⟨ix, rfl, rfl, hmem, hbl, rfl⟩
            · have w := jc_ivD hmi hmem
              have e3 : jx_vs ad (bs.reverse ++ .ref b :: st1) = (jx_vs ad bs).reverse ++ .ref (ad b) :: jx_vs ad st1 := by simp [jx_vs, jx_cv]
              rcases hk with rfl | rfl
              · obtain ⟨w1, w2⟩ : mj < 13 ∧ Cond.methodLink (jc_own mi) ix (jc_yy mj) ∈ lw_tbl := by simpa [jc_ivk] using w
                have hrt : jc_rt mj = none := by unfold jc_rt; rw [if_neg (by omega)]
                unfold jc_Met at hM
                rw [hrt] at hGd hM
                exact (jc_behind (a := (Value.ref (ad b) :: jx_vs ad bs).toArray) (va_runI (As := jx_vs ad bs) (b := ad b) (rest := jx_vs ad st1) ⟨hx, hb, hml, hown, hts⟩ hM (cwI (jc_na mj) hts hGd rfl rfl rfl (hts _ (jt_inT m2 rfl)) (hts _ (jt_inT w2 rfl)) (hts _ (jt_inT (m4 (by omega)) rfl)) (q6 w1) ⟨q2, q3, q4⟩ hRR) ⟨jc_blind, fun U hU hW => ⟨rfl, hpre U hU hW⟩⟩ rfl (by rw [List.length_map]; exact hbl) hl.1 e3 (by show 2 * 0 + _ ≤ 8; omega) hdg hcs) hS kkk) T hT X
              · obtain ⟨w1, w2⟩ : mj < 13 ∧ Cond.methodLinkNest (jc_own mi) ix (jc_yy mj) "LazyStrict" ∈ lw_tbl := by simpa [jc_ivk] using w
                have hrt : jc_rt mj = none := by unfold jc_rt; rw [if_neg (by omega)]
                unfold jc_Met at hM
                rw [hrt] at hGd hM
                obtain ⟨⟨a0, ht0, -⟩, -⟩ := hW1
                have hNw : va_Nw (.methodLinkNest (jc_own mi) ix (jc_yy mj) "LazyStrict") s := va_Nw.warmM hF.1 (va_Nw.of rfl (ht0 _ w2))
                exact (jc_behind (a := (Value.ref (ad b) :: jx_vs ad bs).toArray) (va_runIN (As := jx_vs ad bs) (b := ad b) (rest := jx_vs ad st1) ⟨hx, hb, hml, hown, hts⟩ hM ⟨va_cnB (jc_na mj) hts hGd rfl rfl rfl hNw (hts _ (jt_inT m2 rfl)) ⟨q2, q3, q4⟩ hRR, q6 w1, hts _ (jt_inT (m4 (by omega)) rfl)⟩ ⟨jc_blind, fun U hU hW => ⟨rfl, hpre U hU hW⟩⟩ rfl (by rw [List.length_map]; exact hbl) hl.1 e3 (by show 2 * 0 + _ ≤ 8; omega) hdg hcs) hS kkk) T hT X
            · have w := jc_ivD hmi hmem
              have e3 : jx_vs ad (bs.reverse ++ .ref b :: st1) = (jx_vs ad bs).reverse ++ .ref (ad b) :: jx_vs ad st1 := by simp [jx_vs, jx_cv]
              obtain ⟨rfl, w2⟩ : mj = 14 ∧ Cond.methodLink (jc_own mi) ix (jc_yy mj) ∈ lw_tbl := by simpa [jc_ivk] using w
              obtain ⟨fs, hfs⟩ := jc_cof_inv hcof
              have hrecv := va_recv hK hP (jt_cl_get (ci := 11) (by decide)) (jc_ww_get (ad := ad) (dA := dA) hfs)
              exact (jc_behind (a := (Value.ref (ad b) :: jx_vs ad bs).toArray) (va_runV (As := jx_vs ad bs) (b := ad b) (rest := jx_vs ad st1) (C := "LazyStrict$Longs") ⟨hx, hb, hml, hown, hts⟩ hM (cwV (jc_na 14) hts (jx_goodc jt_gg (jt_inT w2 rfl) (jt_inT (m4 (by decide)) rfl) (jt_inT jc_put14 rfl) (jt_inT m2 rfl) (fun w hw => (hGd w hw).1)) rfl rfl rfl ⟨rfl, q2, q3, q4⟩ hRR) ⟨jc_blind, hrecv, fun U hU hW => ⟨rfl, hpre U hU hW⟩⟩ rfl (by rw [List.length_map]; exact hbl) hl.1 e3 (by show 2 * 0 + _ ≤ 8; omega) hdg hcs) hS kkk) T hT X
            · have w := jc_ivD hmi hmem
              have e3 : jx_vs ad (as.reverse ++ st1) = (jx_vs ad as).reverse ++ jx_vs ad st1 := by simp [jx_vs]
              obtain ⟨rfl, w2⟩ : mj = 13 ∧ Cond.methodLink (jc_own mi) ix (jc_yy mj) ∈ lw_tbl := by simpa [jc_ivk] using w
              exact (jc_behind (a := (jx_vs ad as).toArray) (va_runS (As := jx_vs ad as) (rest := jx_vs ad st1) ⟨hx, hb, hml, hown, hts⟩ hM (va_cwS (jc_na 13) hts (jx_goodc3 jt_gg (jt_inT w2 rfl) (jt_inT (m3 rfl) rfl) (jt_inT m2 rfl) (fun w hw => (hGd w hw).1)) rfl rfl rfl ⟨q2, q3, q4⟩ hRR) ⟨jc_blind, fun U hU hW => ⟨rfl, hpre U hU hW⟩⟩ rfl (by rw [List.length_map]; exact hbl) hl.1 e3 (by show 2 * 0 + _ ≤ 8; omega) hdg hcs) hS kkk) T hT X
/-- THE WALK -/
theorem jc_walk (hB : jcB s0 ad h) : ∀ d, jc_P l D dA ad h s0 d
  | 0 => jc_walk1 hB 0 (fun d1 h => by omega)
  | d + 1 => jc_walk1 hB (d + 1) (fun d1 h => by have e : d1 = d := by omega
                                                 subst e
                                                 exact jc_walk hB d1)
end JCW
