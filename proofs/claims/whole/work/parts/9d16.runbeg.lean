/-! RUNS, 16: a working begins, in both; a working ends. -/
def maxN (a b : Nat) : Nat := if a < b then b else a
def cBeg (τ : jx_S) (dp k b st dd : Nat) : jx_S := jI_put 10 (jI_put 10 (jx_i (jI_put 250 (jI_put 250 (jI_put 250 τ 75 (nI dp) (nI (k + 1))) 77 (nI dp) (nI b)) 79 (nI dp) 0) 8 11 (nI (dp + 1))) 71 0 (nI (st + 1))) 71 4 (nI (maxN (dp + 1) dd))
def rBeg (ρ : jx_S) (dp k b st dd : Nat) (l : Int32) : jx_S := jx_i (jx_i (jx_i (jx_i (jx_i (jx_i (jx_i ρ 106 88 (nI (st + 1))) 161 dp (nI k)) 162 dp (nI b)) 163 dp 0) 164 dp l) 106 82 (nI (dp + 1))) 106 83 (nI (maxN (dp + 1) dd))
theorem c_begin {τ : jx_S} {dp k b st lm dd : Nat} (h11 : τ.1 8 11 = nI dp) (hd : dp ≤ 250) (h71 : τ.1 71 0 = nI st) (hs : st ≤ 50000) (h12 : τ.1 8 12 = nI lm) (hl : lm ≤ 50000) (h4 : τ.1 71 4 = nI dd) (hdd : dd ≤ 250) : p_cMac_begin (nI (k + 1)) (nI b) τ = some (if dp = 250 then jx_i τ 8 14 4 else if st = lm then jx_i τ 8 14 3 else cBeg τ dp k b st dd) := by
  unfold p_cMac_begin
  have e0 : jI_at 10 (τ.1 71) (0 : Int32) = nI st := (jI_at_in (j := 0) (by omega) (by omega)).trans h71
  rw [h11, e0, h12]
  by_cases z : dp = 250
  · rw [if_pos z, z, if_neg (fun q => q rfl)]
  · rw [if_neg z, if_pos (show ¬ nI dp = (250 : Int32) from fun q => z ((nI_eq (b := 250) (by omega) (by omega)).1 q))]
    by_cases y : st = lm
    · rw [if_pos y, y, if_neg (fun q => q rfl)]
    · rw [if_neg y, if_pos (fun q => y ((nI_eq (by omega) (by omega)).1 q))]
      have e4 : jI_at 10 (jI_up 10 (τ.1 71) (0 : Int32) (nI st + 1)) (4 : Int32) = nI dd := by
        rw [show jI_up 10 (τ.1 71) (0 : Int32) (nI st + 1) = upd (τ.1 71) 0 (nI st + 1) from jI_up_in (j := 0) (by omega) (by omega)]
        exact (jI_at_in (j := 4) (by omega) (by omega)).trans ((u_ne (by omega)).trans h4)
      rw [e4, show nI dp + (1 : Int32) = nI (dp + 1) from (nI_succ dp).symm, show nI st + (1 : Int32) = nI (st + 1) from (nI_succ st).symm]
      have em : (if nI (dp + 1) < nI dd then nI dd else nI (dp + 1)) = nI (maxN (dp + 1) dd) := by
        unfold maxN
        by_cases w : dp + 1 < dd
        · rw [if_pos (nI_lt w (by omega)), if_pos w]
        · rw [if_neg (nI_nlt (by omega) (by omega)), if_neg w]
      rw [em]
      rfl
theorem r_begin {ρ : jx_S} {dp k b st lm dd : Nat} {l : Int32} (h82 : ρ.1 106 82 = nI dp) (hd : dp ≤ 250) (h88 : ρ.1 106 88 = nI st) (hs : st ≤ 50000) (h89 : ρ.1 106 89 = nI lm) (hl : lm ≤ 50000) (h83 : ρ.1 106 83 = nI dd) (hdd : dd ≤ 250) : p_r_begin (nI k) (nI b) l ρ = some (if dp = 250 then jx_i ρ 106 87 4 else if st = lm then jx_i ρ 106 87 3 else rBeg ρ dp k b st dd l) := by
  unfold p_r_begin
  rw [h82, h88, h89, h83]
  by_cases z : dp = 250
  · rw [if_pos z, z, if_neg (fun q => q rfl)]
  · rw [if_neg z, if_pos (show ¬ nI dp = (250 : Int32) from fun q => z ((nI_eq (b := 250) (by omega) (by omega)).1 q))]
    by_cases y : st = lm
    · rw [if_pos y, y, if_neg (fun q => q rfl)]
    · have hni : ¬ (nI dp < 0 ∨ 251 ≤ dp) := fun z => by
        rcases z with z | z
        · exact nI_pos (by omega) z
        · omega
      rw [if_neg y, if_pos (fun q => y ((nI_eq (by omega) (by omega)).1 q)), nI_clamp (show dp < 2 ^ 31 by omega), if_neg hni, if_neg hni, if_neg hni, if_neg hni, show nI dp + (1 : Int32) = nI (dp + 1) from (nI_succ dp).symm, show nI st + (1 : Int32) = nI (st + 1) from (nI_succ st).symm]
      unfold rBeg maxN
      by_cases w : dp + 1 < dd
      · rw [if_pos (nI_le (by omega) (by omega)), if_pos w]
      · rw [if_neg w]
        by_cases v : dp + 1 ≤ dd
        · rw [if_pos (nI_le v (by omega)), show dd = dp + 1 by omega]
        · rw [if_neg (nI_ge (by omega) (by omega))]
def cFin (τ : jx_S) (dp : Nat) (v : aV) : jx_S := jx_i (jx_l τ 8 15 (cV v)) 8 11 (nI (dp - 1))
def rFin (ρ : jx_S) (dp l : Nat) (v : aV) : jx_S := if l = 0 then jx_l (jx_i ρ 106 82 (nI (dp - 1))) 106 90 (rV v) else jx_l (jx_i (jx_l (jx_i ρ 106 82 (nI (dp - 1))) 106 90 (rV v)) 153 (l - 1) 2) 154 (l - 1) (rV v)
theorem c_finish {τ : jx_S} {dp : Nat} {v : aV} (h11 : τ.1 8 11 = nI dp) (hd : 0 < dp) : p_cMac_finish (cV v) τ = some (cFin τ dp v) := by
  unfold p_cMac_finish
  rw [h11, show nI dp - (1 : Int32) = nI (dp - 1) from nI_sub (b := 1) (by omega)]
  rfl
theorem r_finish {ρ : jx_S} {dp l : Nat} {v : aV} (h82 : ρ.1 106 82 = nI dp) (hd : 0 < dp) (hd2 : dp ≤ 250) (h164 : ρ.1 164 (dp - 1) = (if l = 0 then -1 else nI (l - 1))) (hl : l ≤ 3000) : p_r_finish (rV v) ρ = some (rFin ρ dp l v) := by
  unfold p_r_finish rFin
  rw [h82, show nI dp - (1 : Int32) = nI (dp - 1) from nI_sub (b := 1) (by omega), if_neg (nI_in (show dp - 1 < 251 by omega) (by omega)), nI_clamp (show dp - 1 < 2 ^ 31 by omega), h164]
  by_cases z : l = 0
  · rw [if_pos z, if_pos (by decide), if_pos z]
  · rw [if_neg z, if_neg (nI_pos (by omega)), if_neg (nI_in (show l - 1 < 3000 by omega) (by omega)), if_neg (nI_in (show l - 1 < 3000 by omega) (by omega)), nI_clamp (show l - 1 < 2 ^ 31 by omega), if_neg z]
