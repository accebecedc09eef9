/-! THE LAW'S START: the constructors are called, the world is made. -/
section JL0
variable {D : va_G} {dA : Nat → ClassId} {ad : Nat → Nat} {h n0 : Nat} {s0 : State} {l : Launch}
variable {p : Program} {e : Env} {R : Room} {s : State} {m : MethodId} {args : Array Value} {below : List Frame} {meth : Method} {c : Code} {H : Heap} {locs : List Loc} {cells slots : Nat} {Q : State → Prop}
theorem jl_new {cc : ByteArray} {own : String} {ix pc ci : Nat} {ls : Array Slot} {rest : List Value} {ws : jc_W} (hx : p.tables.exec = Jvm.exec) (hb : c.code = cc) (hown : s.vm.findClass own = some m.cls) (hts : ∀ w ∈ jt_Ts, w.before args s = true) (hK : va_K D jt_cl (jx_tys dA) s) (hs0 : s.heap.size = h + n0) (had : ∀ k, k < 1000 → ad k = h + k)
    (n1 : ci < 13) (n2 : Cond.classLink own ix (jt_cw ci).1 ∈ lw_tbl) (n3 : Cond.initialized (jt_cw ci).1 ∈ lw_tbl) (hdg : decode cc pc = .ok (.new ix, 3)) (hc : cells + n0 = ws.length) (h1000 : ws.length < 1000) (hb1 : cells + 1 ≤ R.cells) (hb2 : slots + (jt_cw ci).2.2 ≤ R.slots)
    (hP : va_P D jt_cl (jc_ww ad dA ws) H) (hS : va_S (fun q : Nat => h ≤ q) s.heap H locs)
    (kk : ∀ H1 : Heap, va_P D jt_cl (jc_ww ad dA (ws ++ [.inl (ci, jc_def ci)])) H1 → va_S (fun q : Nat => h ≤ q) s.heap H1 locs → W p l e R s m args below meth c H1 locs (cells + 1) (slots + (jt_cw ci).2.2) Q (F0 m (pc + 3) ls (.ref (ad ws.length) :: rest))) :
    W p l e R s m args below meth c H locs cells slots Q (F0 m pc ls rest) := by
  have hA : ∀ q : Nat, s.heap.size ≤ q → (fun q : Nat => h ≤ q) q := fun q hq => by show h ≤ q; omega
  have hin : Cond.instantiable (jt_cw ci).1 (jt_cw ci).2.2 ∈ lw_tbl := by
    have := List.all_eq_true.mp lw_inst ci (List.mem_range.mpr n1)
    simpa using this
  have hlen : (jc_def ci).length = (jt_cw ci).2.2 := by simp [jc_def]
  have hD := jc_ww_D (dA := dA) (ws := ws) had (by omega)
  refine va_new (ci := ci) (fs := (jc_def ci).map (jx_cv ad)) (C := (jt_cw ci).1) (T := (jt_cw ci).2.1) (N := (jt_cw ci).2.2) (Ts := jt_Ts) hx hb hts (jt_ws_in n1) (jt_tyc ci) (jc_ty_ok n1) hown (hts _ (jt_inT n2 rfl)) (hts _ (jt_inT hin rfl)) (hts _ (jt_inT n3 rfl)) hK hP hD hS hA (jt_cl_get n1) (jc_def_ok n1) hb1 hb2 hdg (fun q H1 hP1 hD1 hS1 => ?_)
  intro T2 hT2 X2
  have hq := jc_newq X2 hT2 hs0 hc had h1000 hP1 hD1
  rw [hq] at hP1
  have hP2 : va_P D jt_cl (jc_ww ad dA (ws ++ [.inl (ci, jc_def ci)])) H1 := by rw [jc_ww_app]; exact hP1
  rw [hq]
  exact kk H1 hP2 hS1 T2 hT2 X2
theorem jl_newl {cc : ByteArray} {pc : Nat} {ls : Array Slot} {rest : List Value} {ws : jc_W} (hx : p.tables.exec = Jvm.exec) (hb : c.code = cc) (hts : ∀ w ∈ jt_Ts, w.before args s = true) (hK : va_K D jt_cl (jx_tys dA) s) (hs0 : s.heap.size = h + n0) (had : ∀ k, k < 1000 → ad k = h + k)
    (hdg : decode cc pc = .ok (.newarray .long, 2)) (hc : cells + n0 = ws.length) (h1000 : ws.length < 1000) (hb1 : cells + 1 ≤ R.cells) (hb2 : slots + 1 ≤ R.slots)
    (hP : va_P D jt_cl (jc_ww ad dA ws) H) (hS : va_S (fun q : Nat => h ≤ q) s.heap H locs)
    (kk : ∀ H1 : Heap, va_P D jt_cl (jc_ww ad dA (ws ++ [.inr (1, 1, [])])) H1 → va_S (fun q : Nat => h ≤ q) s.heap H1 locs → W p l e R s m args below meth c H1 locs (cells + 1) (slots + 1) Q (F0 m (pc + 2) ls (.ref (ad ws.length) :: rest))) :
    W p l e R s m args below meth c H locs cells slots Q (F0 m pc ls (.int 1 :: rest)) := by
  have hA : ∀ q : Nat, s.heap.size ≤ q → (fun q : Nat => h ≤ q) q := fun q hq => by show h ≤ q; omega
  have hD := jc_ww_D (dA := dA) (ws := ws) had (by omega)
  refine va_newa (atype := .long) (ty := .long) (n := 1) (a0 := (1, .inr (.inl (fun _ => 0)))) hx hb (hts _ (jt_inT (by decide +kernel) rfl)) rfl hK hP hD hS hA (fun _ => rfl) (by decide) rfl (by decide) hb1 hb2 hdg (fun q cA H1 hK1 hP1 hD1 hS1 => ?_)
  intro T2 hT2 X2
  have hq := jc_newq X2 hT2 hs0 hc had h1000 hP1 hD1
  have hcA : cA = dA 1 := Option.some.inj ((hK1.2 3 (cA, .long) rfl).2.symm.trans (hK.2 1 (dA 1, .long) rfl).2)
  rw [hq, hcA] at hP1
  have hP2 : va_P D jt_cl (jc_ww ad dA (ws ++ [.inr (1, 1, [])])) H1 := by rw [jc_ww_app]; exact hP1
  rw [hq]
  exact kk H1 hP2 hS1 T2 hT2 X2
theorem jl_init {cc : ByteArray} {own : String} {ix pc mj b n nL : Nat} {ls : Array Slot} {rest : List Value} {ws ws1 : jc_W} (hB : jcB s0 ad h) (hrun : jc_run n 6 mj 0 (lv_args 0 [.ref b]) [] ws = some (none, ws1)) (hmj : mj < 13) (hna : jc_na mj = 0) (hmx : 1 ≤ jc_mx mj) (h1000 : ws1.length ≤ 1000) (w2 : Cond.methodLink own ix (jc_yy mj) ∈ lw_tbl)
    (hx : p.tables.exec = Jvm.exec) (hb : c.code = cc) (hml : c.maxLocals = nL) (hls : ls.size = nL) (hown : s.vm.findClass own = some m.cls) (hts : ∀ w ∈ jt_Ts, w.before args s = true) (hK : va_K D jt_cl (jx_tys dA) s) (hF : jFrom s0 s) (hs0 : s.heap.size = h + n0)
    (hc : cells + n0 = ws.length) (hcs : cells + (ws1.length - ws.length) ≤ R.cells ∧ slots + (jc_sl ws1 - jc_sl ws) ≤ R.slots) (hR : 13 ≤ R.frames ∧ 2000 ≤ R.locals) (h8 : (rest.map fun v => v.category).sum ≤ 8) (hdg : decode cc pc = .ok (.invokespecial ix, 3))
    (hP : va_P D jt_cl (jc_ww ad dA ws) H) (hS : va_S (fun q : Nat => h ≤ q) s.heap H locs)
    (kk : ∀ (H1 : Heap) (locs1 : List Loc), va_P D jt_cl (jc_ww ad dA ws1) H1 → va_S (fun q : Nat => h ≤ q) s.heap H1 locs1 → W p l e R s m args below meth c H1 locs1 (cells + (ws1.length - ws.length)) (slots + (jc_sl ws1 - jc_sl ws)) Q (F0 m (pc + 3) ls rest)) :
    W p l e R s m args below meth c H locs cells slots Q (F0 m pc ls (.ref (ad b) :: rest)) := by
  have hmo := jc_mono _ _ _ _ _ _ _ _ _ hrun
  intro T hT X
  have had := hB.1
  have hsz := jc_size X hT hs0 hc had (by omega) hP hS
  have hFH := jc_fh hF hS hB.2.2.2.1
  have hM := jc_met (D := D) (dA := dA) (l := l) hB (jc_walk hB 6) (by omega) hrun (by show 1 ≤ _; exact hmx) h1000
  obtain ⟨q1, q2, q3, q4, q5, q6⟩ := jc_mgD (mj := mj) (by omega)
  obtain ⟨m1, m2, m3, m4⟩ := jc_mwD (mj := mj) (by omega)
  have hGd : GoodIn jt_Ts (Cond.code (jc_yy mj) (jc_by mj) (jc_mx mj) (jc_rt mj) :: jt_Ts) := by
    intro w hw
    rcases List.mem_cons.mp hw with rfl | hw
    · exact jt_gg _ (jt_inT m1 rfl)
    · exact jt_gg _ hw
  have hrt : jc_rt mj = none := by unfold jc_rt; rw [if_neg (by omega)]
  unfold jc_Met at hM
  rw [hrt] at hGd hM
  rw [hna] at q4
  exact (jc_behind (v := none) (a := #[Value.ref (ad b)]) (va_runI (As := []) (b := ad b) (rest := rest) ⟨hx, hb, hml, hown, hts⟩ hM (cwI 0 hts hGd rfl rfl rfl (hts _ (jt_inT m2 rfl)) (hts _ (jt_inT w2 rfl)) (hts _ (jt_inT (m4 (by omega)) rfl)) (q6 hmj) ⟨q2, q3, q4⟩ ⟨by show 6 + 6 + 1 ≤ R.frames; omega, by show 8 + (jc_mx mj + 11) + 100 * (6 + 6) ≤ R.locals; omega⟩) ⟨jc_blind, fun U hU hW => ⟨rfl, by rw [hU]; exact hsz, by rw [hU]; exact hP, va_K.moved hW.alike hK, State.WarmedH.trans hF.1 hW, fun a ha => by rw [hU]; exact hFH a ha⟩⟩ rfl rfl hls rfl (by show 2 * 0 + _ ≤ 8; omega) hdg hcs) hS kk) T hT X
/-- the world that was made is the law's world -/
theorem jl_arr {cA : ClassId} {n : Nat} {f g : Nat → Int64} (hfg : ∀ j, j < n → f j = g j) : vp_cell cA (n, .inr (.inl f)) = vp_cell cA (n, .inr (.inl g)) := by
  rw [vp_cell_l, vp_cell_l]
  unfold arrV
  congr 1
  apply Array.ext
  · simp
  · intro i h1 h2
    simp only [Array.getElem_ofFn]
    rw [hfg i (by simpa using h1)]
theorem jl_106 : (match jt_O 106 with | .inl _ => true | .inr _ => false) = true := by decide +kernel
theorem jl_21 : (match jt_O 21 with | .inl _ => false | .inr q => q.1 == 1) = true := by decide +kernel
theorem jl_world (hP : va_P D jt_cl (jc_ww ad dA jc_w3) H) : va_P D jt_cl (jx_W (fun k => ad (jc_p k)) dA jt_O jt_N jS0) H := by
  intro k q hq
  obtain ⟨hk, rfl⟩ := jx_W_inv hq
  have hok := List.all_eq_true.mp jc_okA k (List.mem_range.mpr hk)
  unfold jc_ok at hok
  split at hok
  · rename_i ci kds c1 fs e1 e2
    simp only [Bool.and_eq_true, beq_iff_eq] at hok
    obtain ⟨⟨rfl, hlen⟩, hall⟩ := hok
    have h2 := hP _ _ (jc_ww_get (ad := ad) (dA := dA) e2)
    have e3 : jx_E (fun k => ad (jc_p k)) dA jS0 k (jt_O k) = jc_e ad dA (.inl (ci, fs)) := by
      rw [e1]
      show Sum.inr (ci, jx_fs (fun k => ad (jc_p k)) jS0 k kds) = Sum.inr (ci, fs.map (jx_cv ad))
      have e4 : jx_fs (fun k => ad (jc_p k)) jS0 k kds = fs.map (jx_cv ad) := by
        apply List.ext_getElem
        · simp [jx_fs, hlen]
        · intro j h3 h4
          have hj : j < kds.length := by simpa [jx_fs] using h3
          have hv := List.all_eq_true.mp hall j (List.mem_range.mpr hj)
          simp only [jx_fs, List.getElem_map, List.getElem_range]
          have e5 : fs.getD j .null = fs[j]'(by omega) := by
            rw [List.getD_eq_getElem?_getD, List.getElem?_eq_getElem (by omega)]; rfl
          rw [e5] at hv
          generalize fs[j]'(by omega) = v at hv ⊢
          generalize kds.getD j 0 = kd at hv ⊢
          unfold jc_vok at hv
          split at hv
          · simp only [beq_iff_eq] at hv; subst hv; rfl
          · simp only [beq_iff_eq] at hv; subst hv; rfl
          · simp only [beq_iff_eq] at hv; subst hv; rfl
          · simp only [beq_iff_eq] at hv; subst hv; rfl
          · cases hv
      rw [e4]
    rw [e3]
    exact h2
  · rename_i t n t1 n1 w e1 e2
    simp only [Bool.and_eq_true, beq_iff_eq] at hok
    obtain ⟨⟨rfl, rfl⟩, hall⟩ := hok
    have h2 := hP _ _ (jc_ww_get (ad := ad) (dA := dA) e2)
    have k106 : k ≠ 106 := by
      intro z
      have z1 := jl_106
      rw [← z, e1] at z1
      cases z1
    by_cases k21 : k = 21
    · have z1 := jl_21
      rw [← k21, e1] at z1
      have ht : t = 1 := by simpa using z1
      subst ht
      rw [if_pos k21] at hall
      simp only [Bool.and_eq_true, beq_iff_eq] at hall
      have h3 : ∀ j, j < n → (w.lookup j).getD 0 = jS0.2 k j := fun j hj => by
        have := List.all_eq_true.mp hall.2 j (List.mem_range.mpr hj)
        rw [k21]
        simpa using this
      have h4 : H[ad (jc_p k)]? = some (vp_cell (dA 1) (n, .inr (.inl (fun j => (w.lookup j).getD 0)))) := h2
      rw [e1]
      show H[ad (jc_p k)]? = some (vp_cell (dA 1) (n, .inr (.inl (jS0.2 k))))
      rw [h4, jl_arr h3]
    · rw [if_neg k21] at hall
      have hw : w = [] := by
        have : w.length = 0 := by simpa using hall
        exact List.length_eq_zero_iff.mp this
      subst hw
      have e3 : jx_E (fun k => ad (jc_p k)) dA jS0 k (jt_O k) = jc_e ad dA (.inr (t, n, [])) := by
        rw [e1]
        have f1 : jS0.1 k = fun _ => 0 := by
          funext j
          show (if k = 106 ∧ j = 5 then (-1 : Int32) else 0) = 0
          rw [if_neg (fun z => k106 z.1)]
        have f2 : jS0.2 k = fun _ => 0 := by
          funext j
          show (if k = 21 then lN (wd j) else (0 : Int64)) = 0
          rw [if_neg k21]
        unfold jx_E jc_e
        dsimp only
        rw [f1, f2]
        rfl
      rw [e3]
      exact h2
  · cases hok
theorem jl_p {k : Nat} (hk : k < 172) : jc_p k < 172 := by
  have := List.all_eq_true.mp jc_pA.1 k (List.mem_range.mpr hk)
  simpa using this
theorem jl_pl : jc_pl.length = 172 := by decide +kernel
theorem jl_dis (had : ∀ k, k < 1000 → ad k = h + k) : va_D (fun q : Nat => h ≤ q) (jx_W (fun k => ad (jc_p k)) dA jt_O jt_N jS0) := by
  refine ⟨fun i j x y hi hj exy => ?_, fun k q hq => ?_⟩
  · obtain ⟨hi1, rfl⟩ := jx_W_inv hi
    obtain ⟨hj1, rfl⟩ := jx_W_inv hj
    have hi2 : i < 172 := hi1
    have hj2 : j < 172 := hj1
    have e1 : ad (jc_p i) = ad (jc_p j) := exy
    have pi := jl_p hi2
    have pj := jl_p hj2
    rw [had _ (by omega), had _ (by omega)] at e1
    have e2 : jc_p i = jc_p j := by omega
    unfold jc_p at e2
    have li : i < jc_pl.length := by rw [jl_pl]; exact hi2
    have lj : j < jc_pl.length := by rw [jl_pl]; exact hj2
    rw [List.getD_eq_getElem?_getD, List.getD_eq_getElem?_getD, List.getElem?_eq_getElem li, List.getElem?_eq_getElem lj] at e2
    replace e2 : jc_pl[i] = jc_pl[j] := e2
    have hp := List.pairwise_iff_getElem.mp jc_pA.2
    rcases Nat.lt_trichotomy i j with q | q | q
    · exact absurd e2 (hp i j li lj q)
    · exact q
    · exact absurd e2.symm (hp j i lj li q)
  · obtain ⟨hk1, rfl⟩ := jx_W_inv hq
    have hk2 : k < 172 := hk1
    have pk := jl_p hk2
    show h ≤ ad (jc_p k)
    rw [had _ (by omega)]
    omega
end JL0
