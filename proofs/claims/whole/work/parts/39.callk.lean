/-! THE CLASS'S CALLS: kind, lasting -/
theorem kU_kU (kd : Nat → Nat) (i c e : Nat) : kU (kU kd i c) i e = kU kd i e := by
  funext x
  unfold kU
  by_cases h : x = i
  · rw [if_pos h, if_pos h]
  · rw [if_neg h, if_neg h, if_neg h]
/-- the trial's kind ahead of turn k -/
def kK (c0 k : Nat) : Nat := match k with
  | 0 => c0
  | k + 1 => k
section MP
variable {l : Launch} {X : FX} {ii : Nat → Nat → Nat → Int32} {jj : Nat → Nat → Nat → Int64} {kd : Nat → Nat}
theorem c_kind0 (v w : Int32) (h : ¬ ((¬ v < 0 ∧ ¬ ii 17 0 2 ≤ v) ∧ ¬ w < 0 ∧ ¬ ii 17 0 3 ≤ w)) : SK l X 8 98 [vR 5 0, vI v, vI w] (ii, jj, mj_rk kd, 108) (some (vI (fA 0))) (fnd ii 0, jj, mj_rk kd, 108) := by
  refine SK.of (by decide) (by decide) rfl ?_
  have tail : GB l X 8 0 0 98 (16, [some (vR 5 0), some (vI v), some (vI w), none, none, none, none, none], [], (ii, jj, mj_rk kd, 108)) (some (vI (fA 0))) (fnd ii 0, jj, mj_rk kd, 108) := by
    refine GB.go 9999 rfl aB0 ?_
    refine GB.cal rfl rfl (by decide) (k_finding 0 (by decide)) ?_
    exact GB.ret rfl rfl aB0
  refine GB.go 9999 rfl aB0 ?_
  refine GB.cal rfl rfl (by decide) (k_isHat v) ?_
  refine GB.br rfl rfl (fun c => ?_) (fun c => ?_)
  · exact tail
  · refine GB.go 9999 rfl aB0 ?_
    refine GB.cal rfl rfl (by decide) (k_isHead w) ?_
    refine GB.br rfl rfl (fun c2 => ?_) (fun c2 => ?_)
    · exact tail
    · exact absurd ⟨bd_t c, bd_t c2⟩ h
theorem c_kindL (v w has : Int32) (c0 : Nat) : ∀ n k, k + n = 6 → GB l X 8 0 0 98 (60, [some (vR 5 0), some (vI v), some (vI w), some (vI has), some (vI (bsI (fun k => hvN ii k 24 has) k)), some (vI (bsM (fun k => hvN ii k 24 has) k)), some (vI (nI k)), lsV (fun k => hvN ii k 24 has) k], [], (ii, jj, mj_rk (kU kd 24 (kK c0 k)), 108)) (some (vI (bsI (fun k => hvN ii k 24 has) 6))) (ii, jj, mj_rk (kU kd 24 5), 108)
  | 0, k, h => by
    cases (show k = 6 by omega)
    refine GB.go 9999 rfl aB0 ?_
    refine GB.br rfl rfl (fun c => ?_) (fun c => ?_)
    · refine GB.go 9999 rfl aB0 ?_
      exact GB.ret rfl rfl aB0
    · exact absurd (Int32.le_refl _) c
  | n + 1, k, h => by
    have hk : k < 6 := by omega
    have ih := c_kindL v w has c0 n (k + 1) (by omega)
    rw [nI_succ] at ih
    refine GB.go 9999 rfl aB0 ?_
    refine GB.br rfl rfl (fun c => ?_) (fun c => ?_)
    · exact absurd c (nI_ge hk (by decide))
    · refine GB.go 78 rfl (aB1 (mn_vin hk (by decide)) aB0) ?_
      rw [nI_clamp (show k < 2 ^ 31 by omega)]
      refine GB.go 81 rfl aB0 ?_
      rw [rk_up, kU_kU]
      refine GB.go 9999 rfl aB0 ?_
      have hs := k_takenBy (l := l) (X := X) (ii := ii) (jj := jj) (kd := kU kd 24 k) 24 (by rw [kU_at]; exact hk) has
      rw [kU_at] at hs
      refine GB.cal rfl rfl (by decide) (hs) ?_
      refine GB.go 9999 rfl aB0 ?_
      refine GB.cal rfl rfl (by decide) (k_bitc _ _) ?_
      refine GB.go 9999 rfl aB0 ?_
      refine GB.br rfl rfl (fun c4 => ?_) (fun c4 => ?_)
      · rw [show bsI (fun k => hvN ii k 24 has) (k + 1) = bsI (fun k => hvN ii k 24 has) k from if_pos c4, show bsM (fun k => hvN ii k 24 has) (k + 1) = bsM (fun k => hvN ii k 24 has) k from if_pos c4] at ih
        refine GB.go 60 rfl aB0 ?_
        exact ih
      · rw [show bsI (fun k => hvN ii k 24 has) (k + 1) = nI k from if_neg c4, show bsM (fun k => hvN ii k 24 has) (k + 1) = hvN ii k 24 has from if_neg c4] at ih
        refine GB.go 60 rfl aB0 ?_
        exact ih
theorem c_kind (i n d m : Nat) (hi : i < n) (hn : n ≤ 8) (h0 : ii 17 0 2 = nI n) (hd : d < m) (hm : m ≤ 6) (h1 : ii 17 0 3 = nI m) (hk : kd i < 6) : SK l X 8 98 [vR 5 0, vI (nI i), vI (nI d)] (ii, jj, mj_rk kd, 108) (some (vI (bsI (fun k => hvN (tI ii 24 i) k 24 (ii 22 d 0)) 6))) (tI ii 24 i, jj, mj_rk (kU kd 24 5), 108) := by
  refine SK.of (by decide) (by decide) rfl ?_
  refine GB.go 9999 rfl aB0 ?_
  refine GB.cal rfl rfl (by decide) (k_isHat _) ?_
  refine GB.br rfl rfl (fun c => ?_) (fun c => ?_)
  · exact absurd (in_ok hi (by omega) h0) (bd_f c)
  · refine GB.go 9999 rfl aB0 ?_
    refine GB.cal rfl rfl (by decide) (k_isHead _) ?_
    refine GB.br rfl rfl (fun c2 => ?_) (fun c2 => ?_)
    · exact absurd (in_ok hd (by omega) h1) (bd_f c2)
    · refine GB.go 31 rfl (aB1 (mn_vin (show d < 6 by omega) (by decide)) aB0) ?_
      rw [nI_clamp (show d < 2 ^ 31 by omega)]
      refine GB.go 54 rfl (aB1 (mn_vin (show i < 8 by omega) (by decide)) aB0) ?_
      rw [nI_clamp (show i < 2 ^ 31 by omega)]
      refine GB.cal rfl rfl (by decide) (k_become 24 i hk) ?_
      refine GB.go 60 rfl aB0 ?_
      exact c_kindL (ii := tI ii 24 i) _ _ (ii 22 d 0) (kd i) 6 0 rfl
/-- the picture ahead of turn k, of w weeks each -/
def lsP (ii : Nat → Nat → Nat → Int32) (i w : Nat) : Nat → Nat → Nat → Nat → Int32
  | 0 => ii
  | k + 1 => trW 24 k (tI (lsP ii i w k) 24 i) w
def lsF (ii : Nat → Nat → Nat → Int32) (i w k : Nat) : Int32 := aF (lsP ii i w (k + 1) 21 24) 12
theorem kU_id {i : Nat} : kU kd i (kd i) = kd := by
  funext x
  unfold kU
  split
  · next h => rw [h]
  · rfl
theorem c_lasting0 (v w : Int32) (h : ¬ ((¬ v < 0 ∧ ¬ ii 17 0 2 ≤ v) ∧ uT w 60 = true)) : SK l X 8 99 [vR 5 0, vI v, vI w] (ii, jj, mj_rk kd, 108) (some (vI (fA 0))) (fnd ii 0, jj, mj_rk kd, 108) := by
  refine SK.of (by decide) (by decide) rfl ?_
  have tail : GB l X 8 0 0 99 (17, [some (vR 5 0), some (vI v), some (vI w), none, none, none, none], [], (ii, jj, mj_rk kd, 108)) (some (vI (fA 0))) (fnd ii 0, jj, mj_rk kd, 108) := by
    refine GB.go 9999 rfl aB0 ?_
    refine GB.cal rfl rfl (by decide) (k_finding 0 (by decide)) ?_
    exact GB.ret rfl rfl aB0
  refine GB.go 9999 rfl aB0 ?_
  refine GB.cal rfl rfl (by decide) (k_isHat v) ?_
  refine GB.br rfl rfl (fun c => ?_) (fun c => ?_)
  · exact tail
  · refine GB.go 9999 rfl aB0 ?_
    refine GB.cal rfl rfl (by decide) (k_upto _ w 60) ?_
    refine GB.br rfl rfl (fun c2 => ?_) (fun c2 => ?_)
    · exact tail
    · exact absurd ⟨bd_t c, bI_t c2⟩ h
theorem c_lastingL (i w : Nat) (hi : i < 8) (hw : w ≤ 60) (hki : kd i < 6) : ∀ n k, k + n = 6 → GB l X 8 0 0 99 (31, [some (vR 5 0), some (vI (nI i)), some (vI (nI w)), some (vI (bsI (lsF ii i w) k)), some (vI (bsM (lsF ii i w) k)), some (vI (nI k)), lsV (lsF ii i w) k], [], (lsP ii i w k, jj, mj_rk (kU kd 24 (kK (kd 24) k)), 108)) (some (vI (bsI (lsF ii i w) 6))) (lsP ii i w 6, jj, mj_rk (kU kd 24 5), 108)
  | 0, k, h => by
    cases (show k = 6 by omega)
    refine GB.go 9999 rfl aB0 ?_
    refine GB.br rfl rfl (fun c => ?_) (fun c => ?_)
    · refine GB.go 9999 rfl aB0 ?_
      exact GB.ret rfl rfl aB0
    · exact absurd (Int32.le_refl _) c
  | n + 1, k, h => by
    have hk : k < 6 := by omega
    have ih := c_lastingL i w hi hw hki n (k + 1) (by omega)
    rw [nI_succ] at ih
    refine GB.go 9999 rfl aB0 ?_
    refine GB.br rfl rfl (fun c => ?_) (fun c => ?_)
    · exact absurd c (nI_ge hk (by decide))
    · refine GB.go 51 rfl (aB1 (mn_vin hi (by decide)) aB0) ?_
      rw [nI_clamp (show i < 2 ^ 31 by omega)]
      have hb := k_become (l := l) (X := X) (ii := lsP ii i w k) (jj := jj) (kd := kU kd 24 (kK (kd 24) k)) 24 i (by rw [kU_ne (by omega)]; exact hki)
      rw [kU_ne (show i ≠ 24 by omega), kU_kU] at hb
      refine GB.cal rfl rfl (by decide) (hb) ?_
      refine GB.go 65 rfl (aB1 (mn_vin hk (by decide)) aB0) ?_
      rw [nI_clamp (show k < 2 ^ 31 by omega)]
      refine GB.go 68 rfl aB0 ?_
      rw [rk_up, kU_kU]
      refine GB.go 9999 rfl aB0 ?_
      have hs := k_trialWeeks (l := l) (X := X) (ii := tI (lsP ii i w k) 24 i) (jj := jj) (kd := kU kd 24 k) w (by omega) (by rw [kU_at]; exact hk)
      rw [kU_at] at hs
      refine GB.cal rfl rfl (by decide) (hs) ?_
      refine GB.go 9999 rfl aB0 ?_
      refine GB.cal rfl rfl (by decide) (k_hatFresh 24) ?_
      refine GB.go 9999 rfl aB0 ?_
      refine GB.br rfl rfl (fun c4 => ?_) (fun c4 => ?_)
      · rw [show bsI (lsF ii i w) (k + 1) = bsI (lsF ii i w) k from if_pos c4, show bsM (lsF ii i w) (k + 1) = bsM (lsF ii i w) k from if_pos c4] at ih
        refine GB.go 31 rfl aB0 ?_
        exact ih
      · rw [show bsI (lsF ii i w) (k + 1) = nI k from if_neg c4, show bsM (lsF ii i w) (k + 1) = lsF ii i w k from if_neg c4] at ih
        refine GB.go 31 rfl aB0 ?_
        exact ih
theorem c_lasting (i n w : Nat) (hi : i < n) (hn : n ≤ 8) (h0 : ii 17 0 2 = nI n) (hw : w ≤ 60) (hk : kd i < 6) : SK l X 8 99 [vR 5 0, vI (nI i), vI (nI w)] (ii, jj, mj_rk kd, 108) (some (vI (bsI (lsF ii i w) 6))) (lsP ii i w 6, jj, mj_rk (kU kd 24 5), 108) := by
  refine SK.of (by decide) (by decide) rfl ?_
  refine GB.go 9999 rfl aB0 ?_
  refine GB.cal rfl rfl (by decide) (k_isHat _) ?_
  refine GB.br rfl rfl (fun c => ?_) (fun c => ?_)
  · exact absurd (in_ok hi (by omega) h0) (bd_f c)
  · refine GB.go 9999 rfl aB0 ?_
    refine GB.cal rfl rfl (by decide) (k_upto _ _ 60) ?_
    refine GB.br rfl rfl (fun c2 => ?_) (fun c2 => ?_)
    · exact absurd (uT_ok hw (by decide)) (by rw [show uT (nI w) (nI 60) = false from bI_f c2]; decide)
    · refine GB.go 31 rfl aB0 ?_
      have hL := c_lastingL (l := l) (X := X) (ii := ii) (jj := jj) (kd := kd) i w (by omega) hw hk 6 0 rfl
      rw [show kU kd 24 (kK (kd 24) 0) = kd from kU_id] at hL
      exact hL
end MP
