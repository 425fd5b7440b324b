/-! THE CLASS'S CALLS: now, count, status -/
section MP
variable {l : Launch} {X : FX} {ii : Nat → Nat → Nat → Int32} {jj : Nat → Nat → Nat → Int64} {kd : Nat → Nat}
theorem c_now0 (w : Int32) (hw : uT w 5 = false) : SK l X 5 91 [vR 5 0, vI w] (ii, jj, mj_rk kd, 108) (some (vI (fA 0))) (fnd ii 0, jj, mj_rk kd, 108) := by
  have q : ∀ b, b ≤ 5 → w ≠ nI b := fun b hb e => by
    rw [e, show (5 : Int32) = nI 5 from rfl, uT_ok hb (by decide)] at hw
    cases hw
  refine SK.of (by decide) (by decide) rfl ?_
  refine GB.go 9999 rfl aB0 ?_
  refine GB.sw rfl rfl ?_
  rw [show mj_swt [(0, 40), (1, 48), (2, 56), (3, 64), (4, 72), (5, 80)] 88 w = 88 by
    simp only [mj_swt]
    rw [if_neg (show w ≠ 0 from q 0 (by decide)), if_neg (show w ≠ 1 from q 1 (by decide)), if_neg (show w ≠ 2 from q 2 (by decide)), if_neg (show w ≠ 3 from q 3 (by decide)), if_neg (show w ≠ 4 from q 4 (by decide)), if_neg (show w ≠ 5 from q 5 (by decide))]]
  refine GB.go 9999 rfl aB0 ?_
  refine GB.cal rfl rfl (by decide) (k_finding 0 (by decide)) ?_
  exact GB.ret rfl rfl aB0
theorem c_now (w n m : Nat) (hw : w ≤ 5) (hn : n ≤ 8) (h0 : ii 17 0 2 = nI n) (hm : m ≤ 6) (h1 : ii 17 0 3 = nI m) : SK l X 5 91 [vR 5 0, vI (nI w)] (ii, jj, mj_rk kd, 108) (some (vI (match w with
    | 0 => ii 17 0 4
    | 1 => aF (fun k => aF (ii 21 k) 12) n
    | 2 => oF (fun k => hF (ii 21 k) 1 12) n
    | 3 => oF (fun k => ii 22 k 0) m
    | 4 => ii 17 0 5
    | _ => aF (fun k => ii 22 k 2) m))) (ii, jj, mj_rk kd, 108) := by
  refine SK.of (by decide) (by decide) rfl ?_
  refine GB.go 9999 rfl aB0 ?_
  refine GB.sw rfl rfl ?_
  match w, hw with
  | 0, _ =>
    refine GB.go 9999 rfl aB0 ?_
    exact GB.ret rfl rfl aB0
  | 1, _ =>
    refine GB.go 9999 rfl aB0 ?_
    refine GB.cal rfl rfl (by decide) (k_allFresh hn h0) ?_
    exact GB.ret rfl rfl aB0
  | 2, _ =>
    refine GB.go 9999 rfl aB0 ?_
    refine GB.cal rfl rfl (by decide) (k_heldByAny hn h0) ?_
    exact GB.ret rfl rfl aB0
  | 3, _ =>
    refine GB.go 9999 rfl aB0 ?_
    refine GB.cal rfl rfl (by decide) (k_hadByAny hm h1) ?_
    exact GB.ret rfl rfl aB0
  | 4, _ =>
    refine GB.go 9999 rfl aB0 ?_
    exact GB.ret rfl rfl aB0
  | 5, _ =>
    refine GB.go 9999 rfl aB0 ?_
    refine GB.cal rfl rfl (by decide) (k_allPennies hm h1) ?_
    exact GB.ret rfl rfl aB0
  | w + 6, hw => exact absurd hw (by omega)
theorem c_count0 (w : Int32) (hw : uT w 3 = false) : SK l X 5 114 [vR 5 0, vI w] (ii, jj, mj_rk kd, 108) (some (vI (fA 0))) (fnd ii 0, jj, mj_rk kd, 108) := by
  have q : ∀ b, b ≤ 3 → w ≠ nI b := fun b hb e => by
    rw [e, show (3 : Int32) = nI 3 from rfl, uT_ok hb (by decide)] at hw
    cases hw
  refine SK.of (by decide) (by decide) rfl ?_
  refine GB.go 9999 rfl aB0 ?_
  refine GB.sw rfl rfl ?_
  rw [show mj_swt [(0, 32), (1, 40), (2, 48), (3, 56)] 64 w = 64 by
    simp only [mj_swt]
    rw [if_neg (show w ≠ 0 from q 0 (by decide)), if_neg (show w ≠ 1 from q 1 (by decide)), if_neg (show w ≠ 2 from q 2 (by decide)), if_neg (show w ≠ 3 from q 3 (by decide))]]
  refine GB.go 9999 rfl aB0 ?_
  refine GB.cal rfl rfl (by decide) (k_finding 0 (by decide)) ?_
  exact GB.ret rfl rfl aB0
theorem c_count (w n : Nat) (hw : w ≤ 3) (hn : n ≤ 8) (h0 : ii 17 0 2 = nI n) : SK l X 5 114 [vR 5 0, vI (nI w)] (ii, jj, mj_rk kd, 108) (some (vI (match w with
    | 0 => ii 17 0 2
    | 1 => ii 7 0 1
    | 2 => ii 17 0 3
    | _ => aF (fun k => ii 20 k 2) n))) (ii, jj, mj_rk kd, 108) := by
  refine SK.of (by decide) (by decide) rfl ?_
  refine GB.go 9999 rfl aB0 ?_
  refine GB.sw rfl rfl ?_
  match w, hw with
  | 0, _ =>
    refine GB.go 9999 rfl aB0 ?_
    exact GB.ret rfl rfl aB0
  | 1, _ =>
    refine GB.go 9999 rfl aB0 ?_
    exact GB.ret rfl rfl aB0
  | 2, _ =>
    refine GB.go 9999 rfl aB0 ?_
    exact GB.ret rfl rfl aB0
  | 3, _ =>
    refine GB.go 9999 rfl aB0 ?_
    refine GB.cal rfl rfl (by decide) (k_allPledges hn h0) ?_
    exact GB.ret rfl rfl aB0
  | w + 4, hw => exact absurd hw (by omega)
theorem c_status0 (w : Int32) (hw : w < -1 ∨ ¬ w < 7) : SK l X 5 115 [vR 5 0, vI w] (ii, jj, mj_rk kd, 108) (some (vI (fA 0))) (fnd ii 0, jj, mj_rk kd, 108) := by
  refine SK.of (by decide) (by decide) rfl ?_
  have tail : GB l X 5 0 0 115 (11, [some (vR 5 0), some (vI w), none, none], [], (ii, jj, mj_rk kd, 108)) (some (vI (fA 0))) (fnd ii 0, jj, mj_rk kd, 108) := by
    refine GB.go 9999 rfl aB0 ?_
    refine GB.cal rfl rfl (by decide) (k_finding 0 (by decide)) ?_
    exact GB.ret rfl rfl aB0
  refine GB.go 9999 rfl aB0 ?_
  refine GB.br rfl rfl (fun c => ?_) (fun c => ?_)
  · exact tail
  · refine GB.go 9999 rfl aB0 ?_
    refine GB.br rfl rfl (fun c2 => ?_) (fun c2 => ?_)
    · exact absurd hw (by rintro (h | h); exact c h; exact h c2)
    · exact tail
theorem c_status (w : Nat) (hw : w < 7) : SK l X 5 115 [vR 5 0, vI (nI w)] (ii, jj, mj_rk kd, 108) (some (vI (ii 10 0 w))) (ii, jj, mj_rk kd, 108) := by
  refine SK.of (by decide) (by decide) rfl ?_
  refine GB.go 9999 rfl aB0 ?_
  refine GB.br rfl rfl (fun c => ?_) (fun c => ?_)
  · exact absurd (Int32.lt_trans c (by decide)) (nI_pos (show w < 2 ^ 31 by omega))
  · refine GB.go 9999 rfl aB0 ?_
    refine GB.br rfl rfl (fun c2 => ?_) (fun c2 => ?_)
    · refine GB.go 9999 rfl aB0 ?_
      refine GB.br rfl rfl (fun c3 => ?_) (fun c3 => ?_)
      · exact absurd c3 (nI_pos (by omega))
      · refine GB.go 9999 rfl (aB1 (mn_vin hw (by decide)) aB0) ?_
        rw [nI_clamp (show w < 2 ^ 31 by omega)]
        exact GB.ret rfl rfl aB0
    · exact absurd (nI_lt hw (by decide)) c2
theorem c_statusA : SK l X 5 115 [vR 5 0, vI (-1)] (ii, jj, mj_rk kd, 108) (some (vI (aF (ii 10 0) 7))) (ii, jj, mj_rk kd, 108) := by
  refine SK.of (by decide) (by decide) rfl ?_
  refine GB.go 9999 rfl aB0 ?_
  refine GB.br rfl rfl (fun c => ?_) (fun c => ?_)
  · exact absurd c (by decide)
  · refine GB.go 9999 rfl aB0 ?_
    refine GB.br rfl rfl (fun c2 => ?_) (fun c2 => ?_)
    · refine GB.go 9999 rfl aB0 ?_
      refine GB.br rfl rfl (fun c3 => ?_) (fun c3 => ?_)
      · refine GB.go 32 rfl aB0 ?_
        refine GB.upto 7 (fun k => (32, [some (vR 5 0), some (vI (-1)), some (vI (aF (ii 10 0) k)), some (vI (nI k))], [], (ii, jj, mj_rk kd, 108))) (fun k hk ih => ?_) ?_ 7 0 rfl
        · refine GB.go 9999 rfl aB0 ?_
          refine GB.br rfl rfl (fun c4 => ?_) (fun c4 => ?_)
          · exact absurd c4 (nI_ge hk (by decide))
          · refine GB.go 32 rfl (aB1 (mn_vin hk (by decide)) aB0) ?_
            rw [nI_clamp (show k < 2 ^ 31 by omega)]
            rw [show aF (ii 10 0) (k + 1) = aF (ii 10 0) k + ii 10 0 k from rfl, nI_succ] at ih
            exact ih
        · refine GB.go 9999 rfl aB0 ?_
          refine GB.br rfl rfl (fun c4 => ?_) (fun c4 => ?_)
          · refine GB.go 9999 rfl aB0 ?_
            exact GB.ret rfl rfl aB0
          · exact absurd (Int32.le_refl _) c4
      · exact absurd (by decide) c3
    · exact absurd (by decide) c2
end MP
