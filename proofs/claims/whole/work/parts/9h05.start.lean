/-! THE LAW, 5: the state that the constructors make. -/
def jS0 : jx_S := (fun a b => if a = 106 ∧ b = 5 then -1 else 0, fun a b => if a = 21 then lN (wd b) else 0)
theorem IV2_0 : IV2 jS0 jS0 := by
  refine ⟨fun _ => 0, 0, 0, ⟨⟨by omega, fun j hj => absurd hj (by omega), fun j hj => absurd hj (by omega), rfl, rfl⟩, fun k _ _ => rfl, rfl, rfl⟩, ⟨by omega, rfl, rfl, fun j hj => absurd hj (by omega)⟩, ⟨0, 0, ⟨by omega, rfl, rfl, rfl⟩, ⟨rfl, rfl, rfl, rfl, rfl, rfl⟩, ⟨by omega, rfl, rfl, fun j hj => absurd hj (by omega)⟩, rfl, Or.inl rfl⟩, Or.inl ⟨rfl, rfl, rfl, rfl, rfl⟩⟩
/-- from where all is made: the law comes to its end -/
theorem law_made {p : Program} {l : Launch} {e : Env} {s : State} {m : MethodId} {below : List Frame} {meth : Method} {c : Code} {b L S : Nat} {xs : Nat → Int32} {D : va_G} {dA : Nat → ClassId} {ad : Nat → Nat} (hL : L ≤ 2048) (hS0 : S ≤ 7200000) (Z : lwZ p l s m meth c b L xs D dA ad) :
    lwG p l e s m below meth c b (lw_Z below #[Value.ref b] s) D dA ad 20 [(0, .ref b), (1, .ref (ad 0)), (2, .ref (ad 106)), (3, .ref (ad 171))] [] jS0 172 S := by
  obtain ⟨⟨hx, hb, hr, hml, hown, htsl, hX, hbl, hlocks, hgv⟩, hK, had, h1, htr⟩ := id Z
  intro H locs ls hl hP hD hS
  refine lv_iconst (v := 0) hx hb (show decode code 20 = .ok (.iconst 0, 1) by decide +kernel) (by decide) ?_
  refine lv_istore (lv' := [(4, .int 0), (0, .ref b), (1, .ref (ad 0)), (2, .ref (ad 106)), (3, .ref (ad 171))]) hx hb (show decode code 21 = .ok (.istore 4, 2) by decide +kernel) hl (by decide) rfl (fun ls hl => ?_)
  exact law_loop (S := S) hL hS0 Z (L + 1) 0 0 jS0 IV2_0 rfl (by omega) (by omega) H locs ls (lv_sub hl [1, 2, 3, 4, 0] rfl) hP hD hS
