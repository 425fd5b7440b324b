/-! THE CLASS'S CALLS: kind, lasting -/
theorem kU_kU (kd : Nat → Nat) (i c e : Nat) : kU (kU kd i c) i e = kU kd i e := by
  funext x
  unfold kU
  by_cases h : x = i
  · rw [if_pos h, if_pos h]
  · rw [if_neg h, if_neg h, if_neg h]
/-- the trial's kind ahead of turn k -/
def kK (c0 k : Nat) : Nat := match k with
  | 0 => c0
  | k + 1 => k
section MP
variable {l : Launch} {X : FX} {ii : Nat → Nat → Nat → Int32} {jj : Nat → Nat → Nat → Int64} {kd : Nat → Nat}
theorem c_kind0 (v w : Int32) (h : ¬ ((¬ v < 0 ∧ ¬ ii 17 0 2 ≤ v) ∧ ¬ w < 0 ∧ ¬ ii 17 0 3 ≤ w)) : SK l X 8 98 [vR 5 0, vI v, vI w] (ii, jj, mj_rk kd, 108) (some (vI (fA 0))) (fnd ii 0, jj, mj_rk kd, 108) := by
  refine SK.of (by decide) (by decide) rfl ?_
  have tail : GB l X 8 0 0 98 (16, [some (vR 5 0), some (vI v), some (vI w), none, none, none, none, none], [], (ii, jj, mj_rk kd, 108)) (some (vI (fA 0))) (fnd ii 0, jj, mj_rk kd, 108) := by
    refine GB.go 9999 rfl aB0 ?_
    refine GB.cal rfl rfl (by decide) (k_finding 0 (by decide)) ?_
    exact GB.ret rfl rfl aB0
  refine GB.go 9999 rfl aB0 ?_
  refine GB.cal rfl rfl (by decide) (k_isHat v) ?_
  refine GB.br rfl rfl (fun c => ?_) (fun c => ?_)
  · exact tail
  · refine GB.go 9999 rfl aB0 ?_
    refine GB.cal rfl rfl (by decide) (k_isHead w) ?_
    refine GB.br rfl rfl (fun c2 => ?_) (fun c2 => ?_)
    · exact tail
    · exact absurd ⟨bd_t c, bd_t c2⟩ h
theorem c_kindL (v w has : Int32) (c0 : Nat) : ∀ n k, k + n = 6 → GB l X 8 0 0 98 (60, [some (vR 5 0), some (vI v), some (vI w), some (vI has), some (vI (bsI (fun k => hvN ii k 24 has) k)), some (vI (bsM (fun k => hvN ii k 24 has) k)), some (vI (nI k)), lsV (fun k => hvN ii k 24 has) k], [], (ii, jj, mj_rk (kU kd 24 (kK c0 k)), 108)) (some (vI (bsI (fun k => hvN ii k 24 has) 6))) (ii, jj, mj_rk (kU kd 24 5), 108)
  | 0, k, h => by
    cases (show k = 6 by omega)
    refine GB.go 9999 rfl aB0 ?_
    refine GB.br rfl rfl (fun c => ?_) (fun c => ?_)
    · refine GB.go 9999 rfl aB0 ?_
      exact GB.ret rfl rfl aB0
    · exact absurd (Int32.le_refl _) c
  | n + 1, k, h => by
    have hk : k < 6 := by omega
    have ih := c_kindL v w has c0 n (k + 1) (by omega)
    rw [nI_succ] at ih
    refine GB.go 9999 rfl aB0 ?_
    refine GB.br rfl rfl (fun c => ?_) (fun c => ?_)
    · exact absurd c (nI_ge hk (by decide))
    · refine GB.go 78 rfl (aB1 (mn_vin hk (by decide)) aB0) ?_
      rw [nI_clamp (show k < 2 ^ 31 by omega)]
      refine GB.go 81 rfl aB0 ?_
      rw [rk_up, kU_kU]
      refine GB.go 9999 rfl aB0 ?_
      have hs := k_takenBy (l := l) (X := X) (ii := ii) (jj := jj) (kd := kU kd 24 k) 24 (by rw [kU_at]; exact hk) has
      rw [kU_at] at hs
      refine GB.cal rfl rfl (by decide) (hs) ?_
      refine GB.go 9999 rfl aB0 ?_
      refine GB.cal rfl rfl (by decide) (k_bitc _ _) ?_
      refine GB.go 9999 rfl aB0 ?_
      refine GB.br rfl rfl (fun c4 => ?_) (fun c4 => ?_)
      · rw [show bsI (fun k => hvN ii k 24 has) (k + 1) = bsI (fun k => hvN ii k 24 has) k from if_pos c4, show bsM (fun k => hvN ii k 24 has) (k + 1) = bsM (fun k => hvN ii k 24 has) k from if_pos c4] at ih
        refine GB.go 60 rfl aB0 ?_
        exact ih
      · rw [show bsI (fun k => hvN ii k 24 has) (k + 1) = nI k from if_neg c4, show bsM (fun k => hvN ii k 24 has) (k + 1) = hvN ii k 24 has from if_neg c4] at ih
        refine GB.go 60 rfl aB0 ?_
        exact ih
theorem c_kind (i n d m : Nat) (hi : i < n) (hn : n ≤ 8) (h0 : ii 17 0 2 = nI n) (hd : d < m) (hm : m ≤ 6) (h1 : ii 17 0 3 = nI m) (hk : kd i < 6) : SK l X 8 98 [vR 5 0, vI (nI i), vI (nI d)] (ii, jj, mj_rk kd, 108) (some (vI (bsI (fun k => hvN (tI ii 24 i) k 24 (ii 22 d 0)) 6))) (tI ii 24 i, jj, mj_rk (kU kd 24 5), 108) := by
  refine SK.of (by decide) (by decide) rfl ?_
  refine GB.go 9999 rfl aB0 ?_
  refine GB.cal rfl rfl (by decide) (k_isHat _) ?_
  refine GB.br rfl rfl (fun c => ?_) (fun c => ?_)
  · exact absurd (in_ok hi (by omega) h0) (bd_f c)
  · refine GB.go 9999 rfl aB0 ?_
    refine GB.cal rfl rfl (by decide) (k_isHead _) ?_
    refine GB.br rfl rfl (fun c2 => ?_) (fun c2 => ?_)
    · exact absurd (in_ok hd (by omega) h1) (bd_f c2)
    · refine GB.go 31 rfl (aB1 (mn_vin (show d < 6 by omega) (by decide)) aB0) ?_
      rw [nI_clamp (show d < 2 ^ 31 by omega)]
      refine GB.go 54 rfl (aB1 (mn_vin (show i < 8 by omega) (by decide)) aB0) ?_
      rw [nI_clamp (show i < 2 ^ 31 by omega)]
      refine GB.cal rfl rfl (by decide) (k_become 24 i hk) ?_
      refine GB.go 60 rfl aB0 ?_
      exact c_kindL (ii := tI ii 24 i) _ _ (ii 22 d 0) (kd i) 6 0 rfl
end MP
