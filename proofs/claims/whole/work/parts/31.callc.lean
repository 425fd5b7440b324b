/-! THE CLASS'S CALLS: mind, takes, keeps, tries, redeem, blend, stack -/
section MP
variable {l : Launch} {X : FX} {ii : Nat → Nat → Nat → Int32} {jj : Nat → Nat → Nat → Int64} {kd : Nat → Nat}
/-- what may be minded -/
def mdO (w v : Int32) : Prop := (w = 0 ∧ uT v 4095 = true) ∨ (w = 1 ∧ uT v 1 = true) ∨ (w = 2 ∧ uT v 9999 = true)
theorem c_mind0 (v w x : Int32) (h : ¬ ((¬ v < 0 ∧ ¬ ii 17 0 3 ≤ v) ∧ mdO w x)) : SK l X 6 82 [vR 5 0, vI v, vI w, vI x] (ii, jj, mj_rk kd, 108) (some (vI (fA 0))) (fnd ii 0, jj, mj_rk kd, 108) := by
  refine SK.of (by decide) (by decide) rfl ?_
  have tail : GB l X 6 0 0 82 (16, [some (vR 5 0), some (vI v), some (vI w), some (vI x), none, none], [], (ii, jj, mj_rk kd, 108)) (some (vI (fA 0))) (fnd ii 0, jj, mj_rk kd, 108) := by
    refine GB.go 9999 rfl aB0 ?_
    refine GB.cal rfl rfl (by decide) (k_finding 0 (by decide)) ?_
    exact GB.ret rfl rfl aB0
  refine GB.go 9999 rfl aB0 ?_
  refine GB.cal rfl rfl (by decide) (k_isHead v) ?_
  refine GB.br rfl rfl (fun c => ?_) (fun c => ?_)
  · exact tail
  · refine GB.go 9999 rfl aB0 ?_
    refine GB.cal rfl rfl (by decide) (k_mindful _ w x) ?_
    refine GB.br rfl rfl (fun c2 => ?_) (fun c2 => ?_)
    · exact tail
    · exact absurd ⟨bd_t c, bd_t c2⟩ h
theorem c_mind (i n w : Nat) (x : Int32) (hi : i < n) (hn : n ≤ 6) (h0 : ii 17 0 3 = nI n) (hw : w ≤ 2) (hm : mdO (nI w) x) : SK l X 6 82 [vR 5 0, vI (nI i), vI (nI w), vI x] (ii, jj, mj_rk kd, 108) (some (vI (ii 22 i w))) (up3 ii 22 i w x, jj, mj_rk kd, 108) := by
  refine SK.of (by decide) (by decide) rfl ?_
  refine GB.go 9999 rfl aB0 ?_
  refine GB.cal rfl rfl (by decide) (k_isHead _) ?_
  refine GB.br rfl rfl (fun c => ?_) (fun c => ?_)
  · exact absurd (in_ok hi (by omega) h0) (bd_f c)
  · refine GB.go 9999 rfl aB0 ?_
    refine GB.cal rfl rfl (by decide) (k_mindful _ _ x) ?_
    refine GB.br rfl rfl (fun c2 => ?_) (fun c2 => ?_)
    · exact absurd hm (bd_f c2)
    · refine GB.go 31 rfl (aB1 (mn_vin (show i < 6 by omega) (by decide)) aB0) ?_
      rw [nI_clamp (show i < 2 ^ 31 by omega)]
      match w, hw with
      | 0, _ =>
        refine GB.go 9999 rfl aB0 ?_
        refine GB.br rfl rfl (fun c3 => ?_) (fun c3 => ?_)
        · refine GB.go 9999 rfl aB0 ?_
          exact GB.ret rfl rfl aB0
        · exact absurd rfl c3
      | 1, _ =>
        refine GB.go 9999 rfl aB0 ?_
        refine GB.br rfl rfl (fun c3 => ?_) (fun c3 => ?_)
        · exact absurd c3 (by decide)
        · refine GB.go 9999 rfl aB0 ?_
          refine GB.br rfl rfl (fun c4 => ?_) (fun c4 => ?_)
          · refine GB.go 9999 rfl aB0 ?_
            exact GB.ret rfl rfl aB0
          · exact absurd rfl c4
      | 2, _ =>
        refine GB.go 9999 rfl aB0 ?_
        refine GB.br rfl rfl (fun c3 => ?_) (fun c3 => ?_)
        · exact absurd c3 (by decide)
        · refine GB.go 9999 rfl aB0 ?_
          refine GB.br rfl rfl (fun c4 => ?_) (fun c4 => ?_)
          · exact absurd c4 (by decide)
          · refine GB.go 9999 rfl aB0 ?_
            exact GB.ret rfl rfl aB0
      | w + 3, hw => exact absurd hw (by omega)
/-- a hat and a head -/
theorem c_takes0 (v w : Int32) (h : ¬ ((¬ v < 0 ∧ ¬ ii 17 0 2 ≤ v) ∧ ¬ w < 0 ∧ ¬ ii 17 0 3 ≤ w)) : SK l X 8 84 [vR 5 0, vI v, vI w] (ii, jj, mj_rk kd, 108) (some (vI (fA 0))) (fnd ii 0, jj, mj_rk kd, 108) := by
  refine SK.of (by decide) (by decide) rfl ?_
  have tail : GB l X 8 0 0 84 (16, [some (vR 5 0), some (vI v), some (vI w)], [], (ii, jj, mj_rk kd, 108)) (some (vI (fA 0))) (fnd ii 0, jj, mj_rk kd, 108) := by
    refine GB.go 9999 rfl aB0 ?_
    refine GB.cal rfl rfl (by decide) (k_finding 0 (by decide)) ?_
    exact GB.ret rfl rfl aB0
  refine GB.go 9999 rfl aB0 ?_
  refine GB.cal rfl rfl (by decide) (k_isHat v) ?_
  refine GB.br rfl rfl (fun c => ?_) (fun c => ?_)
  · exact tail
  · refine GB.go 9999 rfl aB0 ?_
    refine GB.cal rfl rfl (by decide) (k_isHead w) ?_
    refine GB.br rfl rfl (fun c2 => ?_) (fun c2 => ?_)
    · exact tail
    · exact absurd ⟨bd_t c, bd_t c2⟩ h
theorem c_keeps0 (v w : Int32) (h : ¬ ((¬ v < 0 ∧ ¬ ii 17 0 2 ≤ v) ∧ ¬ w < 0 ∧ ¬ ii 17 0 3 ≤ w)) : SK l X 8 85 [vR 5 0, vI v, vI w] (ii, jj, mj_rk kd, 108) (some (vI (fA 0))) (fnd ii 0, jj, mj_rk kd, 108) := by
  refine SK.of (by decide) (by decide) rfl ?_
  have tail : GB l X 8 0 0 85 (16, [some (vR 5 0), some (vI v), some (vI w)], [], (ii, jj, mj_rk kd, 108)) (some (vI (fA 0))) (fnd ii 0, jj, mj_rk kd, 108) := by
    refine GB.go 9999 rfl aB0 ?_
    refine GB.cal rfl rfl (by decide) (k_finding 0 (by decide)) ?_
    exact GB.ret rfl rfl aB0
  refine GB.go 9999 rfl aB0 ?_
  refine GB.cal rfl rfl (by decide) (k_isHat v) ?_
  refine GB.br rfl rfl (fun c => ?_) (fun c => ?_)
  · exact tail
  · refine GB.go 9999 rfl aB0 ?_
    refine GB.cal rfl rfl (by decide) (k_isHead w) ?_
    refine GB.br rfl rfl (fun c2 => ?_) (fun c2 => ?_)
    · exact tail
    · exact absurd ⟨bd_t c, bd_t c2⟩ h
theorem c_takes (i n d m : Nat) (hi : i < n) (hn : n ≤ 8) (h0 : ii 17 0 2 = nI n) (hd : d < m) (hm : m ≤ 6) (h1 : ii 17 0 3 = nI m) (hk : kd i < 6) : SK l X 8 84 [vR 5 0, vI (nI i), vI (nI d)] (ii, jj, mj_rk kd, 108) (some (vI (tkO (kd i) (hF (ii 21 i) 1 12) (hF (ii 21 i) 3 12) (ii 22 d 0)))) (ii, jj, mj_rk kd, 108) := by
  refine SK.of (by decide) (by decide) rfl ?_
  refine GB.go 9999 rfl aB0 ?_
  refine GB.cal rfl rfl (by decide) (k_isHat _) ?_
  refine GB.br rfl rfl (fun c => ?_) (fun c => ?_)
  · exact absurd (in_ok hi (by omega) h0) (bd_f c)
  · refine GB.go 9999 rfl aB0 ?_
    refine GB.cal rfl rfl (by decide) (k_isHead _) ?_
    refine GB.br rfl rfl (fun c2 => ?_) (fun c2 => ?_)
    · exact absurd (in_ok hd (by omega) h1) (bd_f c2)
    · refine GB.go 31 rfl (aB1 (mn_vin (show i < 8 by omega) (by decide)) aB0) ?_
      rw [nI_clamp (show i < 2 ^ 31 by omega)]
      refine GB.go 40 rfl (aB1 (mn_vin (show d < 6 by omega) (by decide)) aB0) ?_
      rw [nI_clamp (show d < 2 ^ 31 by omega)]
      refine GB.go 9999 rfl aB0 ?_
      refine GB.cal rfl rfl (by decide) (k_takenBy i hk _) ?_
      exact GB.ret rfl rfl aB0
theorem c_keeps (i n d m : Nat) (hi : i < n) (hn : n ≤ 8) (h0 : ii 17 0 2 = nI n) (hd : d < m) (hm : m ≤ 6) (h1 : ii 17 0 3 = nI m) (hk : kd i < 6) : SK l X 8 85 [vR 5 0, vI (nI i), vI (nI d)] (ii, jj, mj_rk kd, 108) (some (vI (kpO (kd i) (ii 22 d 0)))) (ii, jj, mj_rk kd, 108) := by
  refine SK.of (by decide) (by decide) rfl ?_
  refine GB.go 9999 rfl aB0 ?_
  refine GB.cal rfl rfl (by decide) (k_isHat _) ?_
  refine GB.br rfl rfl (fun c => ?_) (fun c => ?_)
  · exact absurd (in_ok hi (by omega) h0) (bd_f c)
  · refine GB.go 9999 rfl aB0 ?_
    refine GB.cal rfl rfl (by decide) (k_isHead _) ?_
    refine GB.br rfl rfl (fun c2 => ?_) (fun c2 => ?_)
    · exact absurd (in_ok hd (by omega) h1) (bd_f c2)
    · refine GB.go 31 rfl (aB1 (mn_vin (show i < 8 by omega) (by decide)) aB0) ?_
      rw [nI_clamp (show i < 2 ^ 31 by omega)]
      refine GB.go 43 rfl (aB1 (mn_vin (show d < 6 by omega) (by decide)) aB0) ?_
      rw [nI_clamp (show d < 2 ^ 31 by omega)]
      refine GB.go 9999 rfl aB0 ?_
      refine GB.kep hk rfl (by decide) rfl ?_
      exact GB.ret rfl rfl aB0
end MP
