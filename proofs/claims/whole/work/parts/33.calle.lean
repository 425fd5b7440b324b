/-! THE CLASS'S CALLS: weeks, wipe, tear -/
/-- a week of the shop; some weeks -/
def shW (kd : Nat → Nat) (n : Nat) (ii : Nat → Nat → Nat → Int32) : Nat → Nat → Nat → Int32 := up3 (pWs ii kd (ii 17 0 4) (ii 17 0 5) n) 17 0 4 (ii 17 0 4 + 1)
def shWs (kd : Nat → Nat) (n : Nat) (ii : Nat → Nat → Nat → Int32) : Nat → Nat → Nat → Nat → Int32
  | 0 => ii
  | k + 1 => shW kd n (shWs kd n ii k)
section MP
variable {l : Launch} {X : FX} {ii : Nat → Nat → Nat → Int32} {jj : Nat → Nat → Nat → Int64} {kd : Nat → Nat}
theorem shWs_pl {n c : Nat} (hc : c ≠ 4) : ∀ k, shWs kd n ii k 17 0 c = ii 17 0 c
  | 0 => rfl
  | k + 1 => by
    show up3 (pWs (shWs kd n ii k) kd _ _ n) 17 0 4 _ 17 0 c = _
    rw [up3_pl hc, pWs_tag (by decide), shWs_pl hc k]
theorem c_weeks0 (v : Int32) (h : v < 1 ∨ ¬ v ≤ 60) : SK l X 8 90 [vR 5 0, vI v] (ii, jj, mj_rk kd, 108) (some (vI (fA 0))) (fnd ii 0, jj, mj_rk kd, 108) := by
  refine SK.of (by decide) (by decide) rfl ?_
  have tail : GB l X 8 0 0 90 (11, [some (vR 5 0), some (vI v), none], [], (ii, jj, mj_rk kd, 108)) (some (vI (fA 0))) (fnd ii 0, jj, mj_rk kd, 108) := by
    refine GB.go 9999 rfl aB0 ?_
    refine GB.cal rfl rfl (by decide) (k_finding 0 (by decide)) ?_
    exact GB.ret rfl rfl aB0
  refine GB.go 9999 rfl aB0 ?_
  refine GB.br rfl rfl (fun c => ?_) (fun c => ?_)
  · exact tail
  · refine GB.go 9999 rfl aB0 ?_
    refine GB.br rfl rfl (fun c2 => ?_) (fun c2 => ?_)
    · exact absurd h (by rintro (h | h); exact c h; exact h c2)
    · exact tail
theorem c_weeks1 (v : Int32) (h : ¬ v < 1 ∧ v ≤ 60) (hw : ¬ ii 17 0 4 + v ≤ 9999) : SK l X 8 90 [vR 5 0, vI v] (ii, jj, mj_rk kd, 108) (some (vI (fA 4))) (fnd ii 4, jj, mj_rk kd, 108) := by
  refine SK.of (by decide) (by decide) rfl ?_
  refine GB.go 9999 rfl aB0 ?_
  refine GB.br rfl rfl (fun c => ?_) (fun c => ?_)
  · exact absurd c h.1
  · refine GB.go 9999 rfl aB0 ?_
    refine GB.br rfl rfl (fun c2 => ?_) (fun c2 => ?_)
    · refine GB.go 9999 rfl aB0 ?_
      refine GB.br rfl rfl (fun c3 => ?_) (fun c3 => ?_)
      · exact absurd c3 hw
      · refine GB.go 9999 rfl aB0 ?_
        refine GB.cal rfl rfl (by decide) (k_finding 4 (by decide)) ?_
        exact GB.ret rfl rfl aB0
    · exact absurd h.2 c2
theorem c_weeks (w n : Nat) (hw1 : 1 ≤ w) (hw2 : w ≤ 60) (hl : ii 17 0 4 + nI w ≤ 9999) (hn : n ≤ 8) (h0 : ii 17 0 2 = nI n) (hk6 : ∀ k, k < n → kd k < 6) : SK l X 8 90 [vR 5 0, vI (nI w)] (ii, jj, mj_rk kd, 108) (some (vI (aF (fun k => aF (shWs kd n ii w 21 k) 12) n))) (shWs kd n ii w, jj, mj_rk kd, 108) := by
  refine SK.of (by decide) (by decide) rfl ?_
  refine GB.go 9999 rfl aB0 ?_
  refine GB.br rfl rfl (fun c => ?_) (fun c => ?_)
  · exact absurd c (nI_nlt hw1 (by omega))
  · refine GB.go 9999 rfl aB0 ?_
    refine GB.br rfl rfl (fun c2 => ?_) (fun c2 => ?_)
    · refine GB.go 9999 rfl aB0 ?_
      refine GB.br rfl rfl (fun c3 => ?_) (fun c3 => ?_)
      · refine GB.go 40 rfl aB0 ?_
        refine GB.upto w (fun k => (40, [some (vR 5 0), some (vI (nI w)), some (vI (nI k))], [], (shWs kd n ii k, jj, mj_rk kd, 108))) (fun k hk ih => ?_) ?_ w 0 (by omega)
        · rw [nI_succ] at ih
          refine GB.go 9999 rfl aB0 ?_
          refine GB.br rfl rfl (fun c4 => ?_) (fun c4 => ?_)
          · exact absurd c4 (nI_ge hk (by omega))
          · refine GB.go 9999 rfl aB0 ?_
            refine GB.cal rfl rfl (by decide) (k_shopWeek hn ((shWs_pl (by decide) k).trans h0) hk6) ?_
            refine GB.go 40 rfl aB0 ?_
            exact ih
        · refine GB.go 9999 rfl aB0 ?_
          refine GB.br rfl rfl (fun c4 => ?_) (fun c4 => ?_)
          · refine GB.go 9999 rfl aB0 ?_
            refine GB.cal rfl rfl (by decide) (k_allFresh hn ((shWs_pl (by decide) w).trans h0)) ?_
            exact GB.ret rfl rfl aB0
          · exact absurd (Int32.le_refl _) c4
      · exact absurd hl c3
    · exact absurd (nI_le hw2 (by decide)) c2
theorem c_wipe : SK l X 2 103 [vR 5 0] (ii, jj, mj_rk kd, 108) (some (vI (ii 7 0 1))) (up3 ii 7 0 1 0, jj, mj_rk kd, 108) := by
  refine SK.of (by decide) (by decide) rfl ?_
  refine GB.go 9999 rfl aB0 ?_
  exact GB.ret rfl rfl aB0
theorem c_tear : SK l X 2 113 [vR 5 0] (ii, jj, mj_rk kd, 108) (some (vI (if ii 5 0 9 = 0 then 0 else 1))) (up3 ii 5 0 9 0, jj, mj_rk kd, 108) := by
  refine SK.of (by decide) (by decide) rfl ?_
  refine GB.go 9999 rfl aB0 ?_
  refine GB.br rfl rfl (fun c => ?_) (fun c => ?_)
  · rw [if_pos c]
    refine GB.go 9999 rfl (aB1 (by decide) aB0) ?_
    exact GB.ret rfl rfl aB0
  · rw [if_neg c]
    refine GB.go 9999 rfl (aB1 (by decide) aB0) ?_
    exact GB.ret rfl rfl aB0
end MP
