/-! THE LAW'S START, 2. -/
theorem lw_isref {args : Array Value} {s : State} {C n d : String} (h : (Cond.isRef (.static C n d)).before args s = true) : ∃ v : Value, (Term.static C n d).eval args s none [] s = some v ∧ (v = .null ∨ ∃ q, v = .ref q) := by
  simp only [Cond.before, Cond.holds, Cond.value] at h
  cases hv : (Term.static C n d).eval args s none [] s with
  | none => rw [hv] at h; simp at h
  | some v =>
    rw [hv] at h
    cases v <;> simp_all
def lw_S : Term := .string "LazyStrict$Tokens" 33
def lw_V : Term := .field lw_S "java/lang/String" "value" "[B"
theorem lw_byA : (List.range 58).all (fun j => decide (Cond.eq (.elem lw_V (.int (Int32.ofNat j))) (.int (Int32.ofNat (jc_txt.getD j 0))) ∈ flatC (Jvm.Cond.and given_1 narrow_1))) = true := by decide +kernel
theorem lw_stA : Cond.exactly lw_S "java/lang/String" ∈ flatC (Jvm.Cond.and given_1 narrow_1) ∧ Cond.eq (.field lw_S "java/lang/String" "coder" "B") (.int 0) ∈ flatC (Jvm.Cond.and given_1 narrow_1) ∧ Cond.arrayOf lw_V .byte ∈ flatC (Jvm.Cond.and given_1 narrow_1) ∧ Cond.eq (.length lw_V) (.int 58) ∈ flatC (Jvm.Cond.and given_1 narrow_1) ∧ Cond.eq (.static "java/lang/String" "COMPACT_STRINGS" "Z") (.int 1) ∈ flatC (Jvm.Cond.and given_1 narrow_1) ∧ Cond.isRef (.static "jdk/internal/util/Preconditions" "SIOOBE_FORMATTER" "Ljava/util/function/BiFunction;") ∈ flatC (Jvm.Cond.and given_1 narrow_1) := by decide +kernel
theorem lw_stB : Cond.laysStatic "java/lang/String" "COMPACT_STRINGS" "Z" ∈ lw_tbl ∧ Cond.laysStatic "jdk/internal/util/Preconditions" "SIOOBE_FORMATTER" "Ljava/util/function/BiFunction;" ∈ lw_tbl ∧ Cond.initialized "java/lang/String" ∈ lw_tbl ∧ Cond.initialized "jdk/internal/util/Preconditions" ∈ lw_tbl ∧ Cond.stringRef "LazyStrict$Tokens" 33 "int list let in if then else case of empty nil cons error " ∈ lw_tbl := by decide +kernel
theorem lw_str {s : State} {b : Nat} (hts : ∀ w ∈ lw_tbl, w.before #[Value.ref b] s = true) (hgv : (Jvm.Cond.and given_1 narrow_1).before #[Value.ref b] s = true) : ∃ (q a2 : Nat) (fm : Value), vk_R "LazyStrict$Tokens" 33 "int list let in if then else case of empty nil cons error " q s ∧ jsU s s q a2 fm := by
  have hs := flat_of_before _ hgv
  obtain ⟨f1, f2, f3, f4, f5, f6⟩ := lw_stA
  obtain ⟨t1, t2, t3, t4, t5⟩ := lw_stB
  have hA : ∀ a : Nat, a < s.heap.size → ¬ (fun q : Nat => s.heap.size ≤ q) a := fun a ha => Nat.not_le.mpr ha
  obtain ⟨adK, adV, hv, hev⟩ := vk_Sof (args := #[Value.ref b]) (s := s) (N := 1) (tm := fun _ => lw_S) (len := [58]) (byt := [jc_txt.map Int32.ofNat]) (A := fun q : Nat => s.heap.size ≤ q)
    (fun i hi => by have : i = 0 := by omega
                    subst this
                    decide)
    (fun i hi => hs _ f1) (fun i hi => hs _ f2) (fun i hi => hs _ f3)
    (fun i hi => by have : i = 0 := by omega
                    subst this
                    exact hs _ f4)
    (fun i hi j hj => by
      have : i = 0 := by omega
      subst this
      have hj' : j < 58 := hj
      have h1 := List.all_eq_true.mp lw_byA j (List.mem_range.mpr hj')
      have h2 := hs _ (of_decide_eq_true h1)
      have e1 : (([jc_txt.map Int32.ofNat].getD 0 []).getD j 0) = Int32.ofNat (jc_txt.getD j 0) := by
        show (jc_txt.map Int32.ofNat).getD j 0 = _
        rw [List.getD_eq_getElem?_getD, List.getD_eq_getElem?_getD, List.getElem?_map]
        cases jc_txt[j]? <;> rfl
      rw [e1]
      exact h2)
    (fun i j hi hj hij => absurd (show i = j by omega) hij) hA
  obtain ⟨v1, v2, v3, v4⟩ := hv.1 0 (by decide)
  obtain ⟨fm, hf, hfm⟩ := lw_isref (hs _ f6)
  refine ⟨adK 0, adV 0, fm, vk_R.of (hts _ t5) (hev 0 (by decide)), v1, v2, v3, ?_, va_Zof (hts _ t1) (hts _ t3) (va_eqi (hs _ f5)) hA, va_Zof (hts _ t2) (hts _ t4) hf hA, hfm⟩
  have e1 : (fun j => Value.int (([jc_txt.map Int32.ofNat].getD 0 []).getD j 0)) = fun j => Value.int (Int32.ofNat (jc_txt.getD j 0)) := by
    funext j
    show Value.int ((jc_txt.map Int32.ofNat).getD j 0) = _
    rw [List.getD_eq_getElem?_getD, List.getD_eq_getElem?_getD, List.getElem?_map]
    cases jc_txt[j]? <;> rfl
  rw [e1] at v4
  exact v4
theorem jl_l1 : jc_w1.length = 106 ∧ jc_w2.length = 171 := by decide +kernel
theorem jl_wdA : Cond.classLink "LazyStrictLaw" 8 (jt_cw 0).1 ∈ lw_tbl ∧ Cond.classLink "LazyStrictLaw" 45 (jt_cw 12).1 ∈ lw_tbl ∧ Cond.initialized (jt_cw 0).1 ∈ lw_tbl ∧ Cond.initialized (jt_cw 12).1 ∈ lw_tbl ∧ Cond.methodLink "LazyStrictLaw" 44 (jc_yy 0) ∈ lw_tbl ∧ Cond.methodLink "LazyStrictLaw" 47 (jc_yy 12) ∈ lw_tbl := by decide +kernel
theorem jl_slB : jc_sl jc_w3 ≤ 7200000 := jc_slA
theorem jl_sl0 : jc_sl [.inl (0, jc_def 0)] = (jt_cw 0).2.2 := by decide +kernel
theorem jl_sl12 (ws : jc_W) : jc_sl (ws ++ [.inl (12, jc_def 12)]) = jc_sl ws + (jt_cw 12).2.2 := by
  rw [jc_sl_app]
  have : (jc_def 12).length = (jt_cw 12).2.2 := by simp [jc_def]
  show _ + (jc_def 12).length = _
  rw [this]
theorem jl_slg (ws : jc_W) : jc_sl (ws ++ [.inr (1, 1, [])]) = jc_sl ws + 1 := jc_sl_app
theorem jl_sl3 : jc_sl jc_w3 = jc_sl jc_w2 + 1 := by
  unfold jc_w3
  exact jl_slg _
set_option maxHeartbeats 4000000 in
/-- YOUR PART: from the entry, for every script of at most 2048 ints, the law comes to its end with true -/
theorem whole_start {p : Program} {e : Env} {s : State} {m : MethodId} {below : List Frame} {meth : Method} {c : Code} (l : Launch) {b L : Nat} {xs : Nat → Int32} (htr : l.stackTraces = false) (hL : L ≤ 2048) (C0 : lw_At p s m meth c b L xs) : W p l e room_1 s m #[Value.ref b] below meth c s.heap [] 0 0 (lw_Z below #[Value.ref b] s) (entryFrame m ([Value.ref b] : List Value).toArray 7) := by
  obtain ⟨hx, hb, hr, hml, hown, htsl, hX, hbl, hlocks, hgv⟩ := id C0
  have hts : ∀ w ∈ jt_Ts, w.before #[Value.ref b] s = true := fun w hw => htsl w (List.mem_filter.mp hw).1
  obtain ⟨D, dA, hK⟩ := lw_K htsl
  have hW1 := lw_W1 htsl hgv
  obtain ⟨qs, a2, fm, hstr, hjs⟩ := lw_str htsl hgv
  obtain ⟨ad, had, had1⟩ : ∃ ad : Nat → Nat, (∀ k, k < 1000 → ad k = s.heap.size + k) ∧ ad 1000 = qs := ⟨fun k => if k < 1000 then s.heap.size + k else qs, fun k hk => if_pos hk, if_neg (by decide)⟩
  have hB : jcB s ad s.heap.size := ⟨had, hW1, by rw [had1]; exact hstr, Nat.le_refl _, a2, fm, by rw [had1]; exact hjs⟩
  have hF : jFrom s s := ⟨State.WarmedH.refl s, fun _ _ => rfl⟩
  obtain ⟨l1, l2⟩ := jl_l1
  obtain ⟨w1, w2, w3, w4, w5, w6⟩ := jl_wdA
  have hsl := jl_slB
  have hs3 := jl_sl3
  have g1 := jc_mono _ _ _ _ _ _ _ _ _ jc_run1
  have g2 := jc_mono _ _ _ _ _ _ _ _ _ jc_run2
  rw [jl_sl0] at g1
  rw [jl_sl12] at g2
  have hl := lv_entry [Value.ref b] (n := 7) (Nat.le_of_ble_eq_true rfl)
  rw [lg_entry_eq]
  generalize (lg_sl [Value.ref b] ++ List.replicate (7 - (lg_sl [Value.ref b]).length) Slot.unset).toArray = ls at hl ⊢
  replace hl : lv_has ls 7 [(0, .ref b)] := hl
  have hP0 : va_P D jt_cl (jc_ww ad dA []) s.heap := fun k q hq => by cases hq
  refine jl_new (n0 := 0) (ws := []) (ci := 0) hx hb hown hts hK rfl had (by decide) w1 w3 (show decode code 0 = .ok (.new 8, 3) by decide +kernel) rfl (by decide) (by decide) (by show 0 + _ ≤ 7293034; omega) hP0 va_S.rf (fun H hP hS => ?_)
  refine lv_dup hx hb (show decode code 3 = .ok (.dup, 1) by decide +kernel) rfl ?_
  refine jl_init (n0 := 0) (b := 0) (mj := 0) hB jc_run1 (by decide) rfl (by decide) (by omega) w5 hx hb hml hl.1 hown hts hK hF rfl rfl ⟨by rw [l1]; decide, by rw [jl_sl0]; show 0 + _ + _ ≤ 7293034; omega⟩ ⟨by decide, by decide⟩ (Nat.le_of_ble_eq_true rfl) (show decode code 4 = .ok (.invokespecial 44, 3) by decide +kernel) hP hS (fun H locs hP hS => ?_)
  refine lv_astore_n (lv' := [(1, .ref (ad 0)), (0, .ref b)]) hx hb (show decode code 7 = .ok (.astore_n 1, 1) by decide +kernel) rfl hl (by decide) rfl (fun ls hl => ?_)
  refine jl_new (n0 := 0) (ws := jc_w1) (ci := 12) hx hb hown hts hK rfl had (by decide) w2 w4 (show decode code 8 = .ok (.new 45, 3) by decide +kernel) (by rw [l1]; rfl) (by rw [l1]; decide) (by rw [l1]; decide) (by rw [jl_sl0]; show 0 + _ + _ + _ ≤ 7293034; omega) hP hS (fun H hP hS => ?_)
  refine lv_dup hx hb (show decode code 11 = .ok (.dup, 1) by decide +kernel) rfl ?_
  rw [l1]
  refine jl_init (n0 := 0) (b := 106) (mj := 12) hB jc_run2 (by decide) rfl (by decide) (by omega) w6 hx hb hml hl.1 hown hts hK hF rfl (by rw [List.length_append, l1]; rfl) ⟨by rw [List.length_append, l1, l2]; decide, by rw [jl_sl12, jl_sl0]; show 0 + _ + _ + _ + _ ≤ 7293034; omega⟩ ⟨by decide, by decide⟩ (Nat.le_of_ble_eq_true rfl) (show decode code 12 = .ok (.invokespecial 47, 3) by decide +kernel) hP hS (fun H locs hP hS => ?_)
  refine lv_astore_n (lv' := [(2, .ref (ad 106)), (1, .ref (ad 0)), (0, .ref b)]) hx hb (show decode code 15 = .ok (.astore_n 2, 1) by decide +kernel) rfl hl (by decide) rfl (fun ls hl => ?_)
  refine lv_iconst (v := 1) hx hb (show decode code 16 = .ok (.iconst 1, 1) by decide +kernel) (by decide) ?_
  refine jl_newl (n0 := 0) (ws := jc_w2) hx hb hts hK rfl had (show decode code 17 = .ok (.newarray .long, 2) by decide +kernel) (by rw [List.length_append, l2, l1]; rfl) (by rw [l2]; decide) (by rw [List.length_append, l2, l1]; decide) (by rw [jl_sl12, jl_sl0]; show 0 + _ + _ + _ + _ + 1 ≤ 7293034; omega) hP hS (fun H hP hS => ?_)
  rw [l2]
  refine lv_astore_n (lv' := [(3, .ref (ad 171)), (2, .ref (ad 106)), (1, .ref (ad 0)), (0, .ref b)]) hx hb (show decode code 19 = .ok (.astore_n 3, 1) by decide +kernel) rfl hl (by decide) rfl (fun ls hl => ?_)
  have Z : lwZ p l s m meth c b L xs D dA (fun k => ad (jc_p k)) := ⟨C0, hK, fun k hk => by
    have hk2 : k < 172 := hk
    have := jl_p hk2
    show s.heap.size ≤ ad (jc_p k)
    rw [had _ (by omega)]
    omega, hW1, htr⟩
  have hl2 := lv_sub hl [3, 2, 1, 0] rfl
  have hPw := jl_world hP
  have hDw := jl_dis (dA := dA) had
  have e1 : ∀ c1 s1 S : Nat, S ≤ 7200000 → c1 = 172 → s1 = S → W p l e room_1 s m #[Value.ref b] below meth c H locs c1 s1 (lw_Z below #[Value.ref b] s) (F0 m 20 ls []) := by
    intro c1 s1 S hS0 h1 h2
    subst h1
    subst h2
    exact law_made (e := e) (below := below) hL hS0 Z H locs ls hl2 hPw hDw hS
  exact e1 _ _ (jc_sl jc_w3) hsl (by simp only [List.length_append, List.length_cons, List.length_nil, l1, l2]) (by rw [jl_sl0, jl_sl12, hs3]; omega)
