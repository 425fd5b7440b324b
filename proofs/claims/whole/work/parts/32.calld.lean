/-! THE CLASS'S CALLS: tries, redeem, blend, stack -/
def stO (x : Int32) : Int32 := x &&& ((x >>> (1 &&& 31) ||| (x &&& 1) <<< (11 &&& 31)) ^^^ -1) &&& 4095
theorem up3_pl {α : Type} {f : Nat → Nat → Nat → α} {t i k c : Nat} {v : α} (h : c ≠ k) : up3 f t i k v t i c = f t i c := by
  unfold up3
  rw [if_neg (fun h2 => h h2.2.2)]
section MP
variable {l : Launch} {X : FX} {ii : Nat → Nat → Nat → Int32} {jj : Nat → Nat → Nat → Int64} {kd : Nat → Nat}
theorem c_tries0 (v w : Int32) (h : ¬ ((¬ v < 0 ∧ ¬ ii 17 0 2 ≤ v) ∧ ¬ w < 0 ∧ ¬ ii 17 0 3 ≤ w)) : SK l X 8 86 [vR 5 0, vI v, vI w] (ii, jj, mj_rk kd, 108) (some (vI (fA 0))) (fnd ii 0, jj, mj_rk kd, 108) := by
  refine SK.of (by decide) (by decide) rfl ?_
  have tail : GB l X 8 0 0 86 (16, [some (vR 5 0), some (vI v), some (vI w), none, none, none], [], (ii, jj, mj_rk kd, 108)) (some (vI (fA 0))) (fnd ii 0, jj, mj_rk kd, 108) := by
    refine GB.go 9999 rfl aB0 ?_
    refine GB.cal rfl rfl (by decide) (k_finding 0 (by decide)) ?_
    exact GB.ret rfl rfl aB0
  refine GB.go 9999 rfl aB0 ?_
  refine GB.cal rfl rfl (by decide) (k_isHat v) ?_
  refine GB.br rfl rfl (fun c => ?_) (fun c => ?_)
  · exact tail
  · refine GB.go 9999 rfl aB0 ?_
    refine GB.cal rfl rfl (by decide) (k_isHead w) ?_
    refine GB.br rfl rfl (fun c2 => ?_) (fun c2 => ?_)
    · exact tail
    · exact absurd ⟨bd_t c, bd_t c2⟩ h
theorem c_redeem0 (v w : Int32) (h : ¬ ((¬ v < 0 ∧ ¬ ii 17 0 2 ≤ v) ∧ ¬ w < 0 ∧ ¬ ii 17 0 3 ≤ w)) : SK l X 8 87 [vR 5 0, vI v, vI w] (ii, jj, mj_rk kd, 108) (some (vI (fA 0))) (fnd ii 0, jj, mj_rk kd, 108) := by
  refine SK.of (by decide) (by decide) rfl ?_
  have tail : GB l X 8 0 0 87 (16, [some (vR 5 0), some (vI v), some (vI w), none, none], [], (ii, jj, mj_rk kd, 108)) (some (vI (fA 0))) (fnd ii 0, jj, mj_rk kd, 108) := by
    refine GB.go 9999 rfl aB0 ?_
    refine GB.cal rfl rfl (by decide) (k_finding 0 (by decide)) ?_
    exact GB.ret rfl rfl aB0
  refine GB.go 9999 rfl aB0 ?_
  refine GB.cal rfl rfl (by decide) (k_isHat v) ?_
  refine GB.br rfl rfl (fun c => ?_) (fun c => ?_)
  · exact tail
  · refine GB.go 9999 rfl aB0 ?_
    refine GB.cal rfl rfl (by decide) (k_isHead w) ?_
    refine GB.br rfl rfl (fun c2 => ?_) (fun c2 => ?_)
    · exact tail
    · exact absurd ⟨bd_t c, bd_t c2⟩ h
theorem c_blend0 (v w : Int32) (h : ¬ ((¬ v < 0 ∧ ¬ ii 17 0 2 ≤ v) ∧ (¬ w < 0 ∧ ¬ ii 17 0 2 ≤ w) ∧ v ≠ w)) : SK l X 8 88 [vR 5 0, vI v, vI w] (ii, jj, mj_rk kd, 108) (some (vI (fA 0))) (fnd ii 0, jj, mj_rk kd, 108) := by
  refine SK.of (by decide) (by decide) rfl ?_
  refine GB.go 9999 rfl aB0 ?_
  refine GB.cal rfl rfl (by decide) (k_areTwo v w) ?_
  refine GB.br rfl rfl (fun c => ?_) (fun c => ?_)
  · refine GB.go 9999 rfl aB0 ?_
    refine GB.cal rfl rfl (by decide) (k_finding 0 (by decide)) ?_
    exact GB.ret rfl rfl aB0
  · exact absurd (bd_t c) h
theorem c_stack0 (v w : Int32) (h : ¬ ((¬ v < 0 ∧ ¬ ii 17 0 2 ≤ v) ∧ (¬ w < 0 ∧ ¬ ii 17 0 2 ≤ w) ∧ v ≠ w)) : SK l X 8 89 [vR 5 0, vI v, vI w] (ii, jj, mj_rk kd, 108) (some (vI (fA 0))) (fnd ii 0, jj, mj_rk kd, 108) := by
  refine SK.of (by decide) (by decide) rfl ?_
  refine GB.go 9999 rfl aB0 ?_
  refine GB.cal rfl rfl (by decide) (k_areTwo v w) ?_
  refine GB.br rfl rfl (fun c => ?_) (fun c => ?_)
  · refine GB.go 9999 rfl aB0 ?_
    refine GB.cal rfl rfl (by decide) (k_finding 0 (by decide)) ?_
    exact GB.ret rfl rfl aB0
  · exact absurd (bd_t c) h
theorem c_redeem1 (i n d m : Nat) (hi : i < n) (hn : n ≤ 8) (h0 : ii 17 0 2 = nI n) (hd : d < m) (hm : m ≤ 6) (h1 : ii 17 0 3 = nI m) (hp : ¬ ii 20 i 2 ≤ ii 22 d 2) : SK l X 8 87 [vR 5 0, vI (nI i), vI (nI d)] (ii, jj, mj_rk kd, 108) (some (vI (fA 4))) (fnd ii 4, jj, mj_rk kd, 108) := by
  refine SK.of (by decide) (by decide) rfl ?_
  refine GB.go 9999 rfl aB0 ?_
  refine GB.cal rfl rfl (by decide) (k_isHat _) ?_
  refine GB.br rfl rfl (fun c => ?_) (fun c => ?_)
  · exact absurd (in_ok hi (by omega) h0) (bd_f c)
  · refine GB.go 9999 rfl aB0 ?_
    refine GB.cal rfl rfl (by decide) (k_isHead _) ?_
    refine GB.br rfl rfl (fun c2 => ?_) (fun c2 => ?_)
    · exact absurd (in_ok hd (by omega) h1) (bd_f c2)
    · refine GB.go 31 rfl (aB1 (mn_vin (show i < 8 by omega) (by decide)) aB0) ?_
      rw [nI_clamp (show i < 2 ^ 31 by omega)]
      refine GB.go 41 rfl (aB1 (mn_vin (show d < 6 by omega) (by decide)) aB0) ?_
      rw [nI_clamp (show d < 2 ^ 31 by omega)]
      refine GB.go 9999 rfl aB0 ?_
      refine GB.br rfl rfl (fun c3 => ?_) (fun c3 => ?_)
      · exact absurd c3 hp
      · refine GB.go 9999 rfl aB0 ?_
        refine GB.cal rfl rfl (by decide) (k_finding 4 (by decide)) ?_
        exact GB.ret rfl rfl aB0
theorem c_redeem (i n d m : Nat) (hi : i < n) (hn : n ≤ 8) (h0 : ii 17 0 2 = nI n) (hd : d < m) (hm : m ≤ 6) (h1 : ii 17 0 3 = nI m) (hp : ii 20 i 2 ≤ ii 22 d 2) : SK l X 8 87 [vR 5 0, vI (nI i), vI (nI d)] (ii, jj, mj_rk kd, 108) (some (vI (ii 22 d 2 - ii 20 i 2))) (up3 (up3 ii 22 d 2 (ii 22 d 2 - ii 20 i 2)) 20 i 2 0, jj, mj_rk kd, 108) := by
  refine SK.of (by decide) (by decide) rfl ?_
  refine GB.go 9999 rfl aB0 ?_
  refine GB.cal rfl rfl (by decide) (k_isHat _) ?_
  refine GB.br rfl rfl (fun c => ?_) (fun c => ?_)
  · exact absurd (in_ok hi (by omega) h0) (bd_f c)
  · refine GB.go 9999 rfl aB0 ?_
    refine GB.cal rfl rfl (by decide) (k_isHead _) ?_
    refine GB.br rfl rfl (fun c2 => ?_) (fun c2 => ?_)
    · exact absurd (in_ok hd (by omega) h1) (bd_f c2)
    · refine GB.go 31 rfl (aB1 (mn_vin (show i < 8 by omega) (by decide)) aB0) ?_
      rw [nI_clamp (show i < 2 ^ 31 by omega)]
      refine GB.go 41 rfl (aB1 (mn_vin (show d < 6 by omega) (by decide)) aB0) ?_
      rw [nI_clamp (show d < 2 ^ 31 by omega)]
      refine GB.go 9999 rfl aB0 ?_
      refine GB.br rfl rfl (fun c3 => ?_) (fun c3 => ?_)
      · refine GB.go 9999 rfl aB0 ?_
        rw [up3_tag (by decide), up3_rd]
        exact GB.ret rfl rfl aB0
      · exact absurd hp c3
theorem c_tries (i n d m : Nat) (hi : i < n) (hn : n ≤ 8) (h0 : ii 17 0 2 = nI n) (hd : d < m) (hm : m ≤ 6) (h1 : ii 17 0 3 = nI m) (hk : kd i < 6) : SK l X 8 86 [vR 5 0, vI (nI i), vI (nI d)] (ii, jj, mj_rk kd, 108) (some (vI (ii 22 d 0 ||| tkO (kd i) (hF (ii 21 i) 1 12) (hF (ii 21 i) 3 12) (ii 22 d 0))))
    (up3 (up3 (wA ii 21 i 12 (rmF (ii 21 i) (kpO (kd i) (ii 22 d 0)) (ii 22 d 0))) 22 d 0 (ii 22 d 0 ||| tkO (kd i) (hF (ii 21 i) 1 12) (hF (ii 21 i) 3 12) (ii 22 d 0))) 22 d 2 (eN (ii 22 d 1) (ii 22 d 2)), jj, mj_rk kd, 108) := by
  refine SK.of (by decide) (by decide) rfl ?_
  refine GB.go 9999 rfl aB0 ?_
  refine GB.cal rfl rfl (by decide) (k_isHat _) ?_
  refine GB.br rfl rfl (fun c => ?_) (fun c => ?_)
  · exact absurd (in_ok hi (by omega) h0) (bd_f c)
  · refine GB.go 9999 rfl aB0 ?_
    refine GB.cal rfl rfl (by decide) (k_isHead _) ?_
    refine GB.br rfl rfl (fun c2 => ?_) (fun c2 => ?_)
    · exact absurd (in_ok hd (by omega) h1) (bd_f c2)
    · refine GB.go 31 rfl (aB1 (mn_vin (show i < 8 by omega) (by decide)) aB0) ?_
      rw [nI_clamp (show i < 2 ^ 31 by omega)]
      refine GB.go 41 rfl (aB1 (mn_vin (show d < 6 by omega) (by decide)) aB0) ?_
      rw [nI_clamp (show d < 2 ^ 31 by omega)]
      refine GB.go 9999 rfl aB0 ?_
      refine GB.cal rfl rfl (by decide) (k_takenBy i hk _) ?_
      refine GB.go 9999 rfl aB0 ?_
      refine GB.cal rfl rfl (by decide) (k_remember i hk _) ?_
      refine GB.go 9999 rfl aB0 ?_
      rw [wA_tag (by decide)]
      refine GB.cal rfl rfl (by decide) (k_earn d) ?_
      rw [up3_pl (show 1 ≠ 0 by decide), up3_pl (show 2 ≠ 0 by decide), wA_tag (by decide)]
      refine GB.go 9999 rfl aB0 ?_
      rw [up3_pl (show 0 ≠ 2 by decide), up3_rd]
      exact GB.ret rfl rfl aB0
theorem c_blend (i j n : Nat) (hi : i < n) (hj : j < n) (hij : i ≠ j) (hn : n ≤ 8) (h0 : ii 17 0 2 = nI n) : SK l X 8 88 [vR 5 0, vI (nI i), vI (nI j)] (ii, jj, mj_rk kd, 108) (some (vI (hF (wA ii 21 i 12 (fun t => (ii 21 i t + ii 21 j t) / 2) 21 i) 1 12))) (wA ii 21 i 12 (fun t => (ii 21 i t + ii 21 j t) / 2), jj, mj_rk kd, 108) := by
  refine SK.of (by decide) (by decide) rfl ?_
  refine GB.go 9999 rfl aB0 ?_
  refine GB.cal rfl rfl (by decide) (k_areTwo _ _) ?_
  refine GB.br rfl rfl (fun c => ?_) (fun c => ?_)
  · exact absurd ⟨in_ok hi (by omega) h0, in_ok hj (by omega) h0, fun e => hij ((nI_eq (by omega) (by omega)).mp e)⟩ (bd_f c)
  · refine GB.go 24 rfl (aB1 (mn_vin (show i < 8 by omega) (by decide)) aB0) ?_
    rw [nI_clamp (show i < 2 ^ 31 by omega)]
    refine GB.go 33 rfl (aB1 (mn_vin (show j < 8 by omega) (by decide)) aB0) ?_
    rw [nI_clamp (show j < 2 ^ 31 by omega)]
    refine GB.cal rfl rfl (by decide) (k_mix i j hij) ?_
    refine GB.go 45 rfl (aB1 (mn_vin (show i < 8 by omega) (by decide)) aB0) ?_
    rw [nI_clamp (show i < 2 ^ 31 by omega)]
    refine GB.cal rfl rfl (by decide) (k_held i) ?_
    exact GB.ret rfl rfl aB0
theorem c_stack (i j n : Nat) (hi : i < n) (hj : j < n) (hij : i ≠ j) (hn : n ≤ 8) (h0 : ii 17 0 2 = nI n) : SK l X 8 89 [vR 5 0, vI (nI i), vI (nI j)] (ii, jj, mj_rk kd, 108) (some (vI (stO (hF (ii 21 i) 1 12 ^^^ hF (ii 21 j) 1 12)))) (ii, jj, mj_rk kd, 108) := by
  refine SK.of (by decide) (by decide) rfl ?_
  refine GB.go 9999 rfl aB0 ?_
  refine GB.cal rfl rfl (by decide) (k_areTwo _ _) ?_
  refine GB.br rfl rfl (fun c => ?_) (fun c => ?_)
  · exact absurd ⟨in_ok hi (by omega) h0, in_ok hj (by omega) h0, fun e => hij ((nI_eq (by omega) (by omega)).mp e)⟩ (bd_f c)
  · refine GB.go 24 rfl (aB1 (mn_vin (show i < 8 by omega) (by decide)) aB0) ?_
    rw [nI_clamp (show i < 2 ^ 31 by omega)]
    refine GB.cal rfl rfl (by decide) (k_held i) ?_
    refine GB.go 37 rfl (aB1 (mn_vin (show j < 8 by omega) (by decide)) aB0) ?_
    rw [nI_clamp (show j < 2 ^ 31 by omega)]
    refine GB.cal rfl rfl (by decide) (k_held j) ?_
    generalize hF (ii 21 i) 1 12 = a
    generalize hF (ii 21 j) 1 12 = b
    refine GB.go 9999 rfl aB0 ?_
    exact GB.ret rfl rfl aB0
end MP
