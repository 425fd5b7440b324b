/-! THE CLASS'S CALLS: alike -/
section MP
variable {l : Launch} {X : FX} {ii : Nat → Nat → Nat → Int32} {jj : Nat → Nat → Nat → Int64} {kd : Nat → Nat}
/-- weeks of both trial hats -/
def trB (c e : Nat) (ii : Nat → Nat → Nat → Int32) : Nat → Nat → Nat → Nat → Int32
  | 0 => ii
  | k + 1 => pW (pW (trB c e ii k) 24 c (ii 17 0 4 + nI k) (ii 17 0 5)) 25 e (ii 17 0 4 + nI k) (ii 17 0 5)
theorem trB_tag {c e a : Nat} (h : a ≠ 21) : ∀ k, trB c e ii k a = ii a
  | 0 => rfl
  | k + 1 => (pW_tag h).trans ((pW_tag h).trans (trB_tag h k))
def alP (c e : Nat) (ii : Nat → Nat → Nat → Int32) (j : Nat) : Bool := decide (hF (trB c e ii j 21 24) 1 12 = hF (trB c e ii j 21 25) 1 12)
theorem c_alike0 (v w : Int32) (h : ¬ ((¬ v < 0 ∧ ¬ ii 17 0 2 ≤ v) ∧ (¬ w < 0 ∧ ¬ ii 17 0 2 ≤ w) ∧ v ≠ w)) : SK l X 8 94 [vR 5 0, vI v, vI w] (ii, jj, mj_rk kd, 108) (some (vI (fA 0))) (fnd ii 0, jj, mj_rk kd, 108) := by
  refine SK.of (by decide) (by decide) rfl ?_
  refine GB.go 9999 rfl aB0 ?_
  refine GB.cal rfl rfl (by decide) (k_areTwo v w) ?_
  refine GB.br rfl rfl (fun c => ?_) (fun c => ?_)
  · refine GB.go 9999 rfl aB0 ?_
    refine GB.cal rfl rfl (by decide) (k_finding 0 (by decide)) ?_
    exact GB.ret rfl rfl aB0
  · exact absurd (bd_t c) h
theorem c_alikeL (v w : Int32) (c0 e0 : Nat) (hc : c0 < 6) (he : e0 < 6) (hk1 : kd 24 = c0) (hk2 : kd 25 = e0) : ∀ n k, k + n = 61 → GB l X 8 0 0 94 (49, [some (vR 5 0), some (vI v), some (vI w), some (vI (nI k))], [], (trB c0 e0 ii k, jj, mj_rk kd, 108)) (some (vI (anK (fstK (alP c0 e0 ii) n k)))) (piK (trB c0 e0 ii) (fstK (alP c0 e0 ii) n k), jj, mj_rk kd, 108)
  | 0, k, h => by
    cases (show k = 61 by omega)
    refine GB.go 9999 rfl aB0 ?_
    refine GB.br rfl rfl (fun c => ?_) (fun c => ?_)
    · refine GB.go 9999 rfl aB0 ?_
      refine GB.cal rfl rfl (by decide) (k_finding 3 (by decide)) ?_
      exact GB.ret rfl rfl aB0
    · exact absurd (by decide) c
  | n + 1, k, h => by
    refine GB.go 9999 rfl aB0 ?_
    refine GB.br rfl rfl (fun c => ?_) (fun c => ?_)
    · exact absurd c (nI_nlt (show k ≤ 60 by omega) (by decide))
    · refine GB.go 9999 rfl aB0 ?_
      refine GB.cal rfl rfl (by decide) (k_held 24) ?_
      refine GB.go 9999 rfl aB0 ?_
      refine GB.cal rfl rfl (by decide) (k_held 25) ?_
      refine GB.br rfl rfl (fun c2 => ?_) (fun c2 => ?_)
      · rw [show fstK (alP c0 e0 ii) (n + 1) k = some k by rw [fstK, show alP c0 e0 ii k = true from decide_eq_true c2]; rfl]
        refine GB.go 9999 rfl aB0 ?_
        exact GB.ret rfl rfl aB0
      · rw [show fstK (alP c0 e0 ii) (n + 1) k = fstK (alP c0 e0 ii) n (k + 1) by rw [fstK, show alP c0 e0 ii k = false from decide_eq_false c2]; rfl]
        have ih := c_alikeL v w c0 e0 hc he hk1 hk2 n (k + 1) (by omega)
        rw [nI_succ] at ih
        refine GB.go 9999 rfl aB0 ?_
        rw [trB_tag (by decide)]
        have hs := k_passWeek (l := l) (X := X) (ii := trB c0 e0 ii k) (jj := jj) (kd := kd) 24 (by rw [hk1]; exact hc) (ii 17 0 4 + nI k) (ii 17 0 5)
        rw [hk1] at hs
        refine GB.cal rfl rfl (by decide) (hs) ?_
        refine GB.go 9999 rfl aB0 ?_
        rw [pW_tag (by decide), trB_tag (by decide)]
        have ht := k_passWeek (l := l) (X := X) (ii := pW (trB c0 e0 ii k) 24 c0 (ii 17 0 4 + nI k) (ii 17 0 5)) (jj := jj) (kd := kd) 25 (by rw [hk2]; exact he) (ii 17 0 4 + nI k) (ii 17 0 5)
        rw [hk2] at ht
        refine GB.cal rfl rfl (by decide) (ht) ?_
        refine GB.go 49 rfl aB0 ?_
        exact ih
theorem kU_ne {i c x : Nat} (h : x ≠ i) : kU kd i c x = kd x := if_neg h
theorem c_alike (i j n : Nat) (hi : i < n) (hj : j < n) (hij : i ≠ j) (hn : n ≤ 8) (h0 : ii 17 0 2 = nI n) (hki : kd i < 6) (hkj : kd j < 6) : SK l X 8 94 [vR 5 0, vI (nI i), vI (nI j)] (ii, jj, mj_rk kd, 108) (some (vI (anK (fstK (alP (kd i) (kd j) (tI (tI ii 24 i) 25 j)) 61 0)))) (piK (trB (kd i) (kd j) (tI (tI ii 24 i) 25 j)) (fstK (alP (kd i) (kd j) (tI (tI ii 24 i) 25 j)) 61 0), jj, mj_rk (kU (kU kd 24 (kd i)) 25 (kd j)), 108) := by
  refine SK.of (by decide) (by decide) rfl ?_
  refine GB.go 9999 rfl aB0 ?_
  refine GB.cal rfl rfl (by decide) (k_areTwo _ _) ?_
  refine GB.br rfl rfl (fun c => ?_) (fun c => ?_)
  · exact absurd ⟨in_ok hi (by omega) h0, in_ok hj (by omega) h0, fun e => hij ((nI_eq (by omega) (by omega)).mp e)⟩ (bd_f c)
  · refine GB.go 28 rfl (aB1 (mn_vin (show i < 8 by omega) (by decide)) aB0) ?_
    rw [nI_clamp (show i < 2 ^ 31 by omega)]
    refine GB.cal rfl rfl (by decide) (k_become 24 i hki) ?_
    refine GB.go 44 rfl (aB1 (mn_vin (show j < 8 by omega) (by decide)) aB0) ?_
    rw [nI_clamp (show j < 2 ^ 31 by omega)]
    have hs := k_become (l := l) (X := X) (ii := tI ii 24 i) (jj := jj) (kd := kU kd 24 (kd i)) 25 j (by rw [kU_ne (by omega)]; exact hkj)
    rw [kU_ne (show j ≠ 24 by omega)] at hs
    refine GB.cal rfl rfl (by decide) (hs) ?_
    refine GB.go 49 rfl aB0 ?_
    exact c_alikeL (ii := tI (tI ii 24 i) 25 j) _ _ (kd i) (kd j) hki hkj (by rw [kU_ne (by decide), kU_at]) kU_at 61 0 rfl
end MP
