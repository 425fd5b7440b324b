/-! THE LAW'S LOOP -/
theorem lb_exit {L i : Nat} (hL : L ≤ 3072) (hi6 : i < L + 6) (hi : ¬ i + 6 ≤ L) : nI L - 6 < nI i := by
  rw [Int32.lt_iff_toInt_lt, show (6 : Int32) = nI 6 from rfl, pk_sub_toInt (by omega) (by decide), nI_toInt (by omega)]
  omega
theorem lb_stay {L i : Nat} (hL : L < 2 ^ 31) (hi : i + 6 ≤ L) : ¬ nI L - 6 < nI i := by
  rw [show nI L - 6 = nI (L - 6) from pk_sub (b := 6) (by omega)]
  exact nI_nlt (by omega) (by omega)
section LB
variable {l : Launch} {X : FX} {ii : Nat → Nat → Nat → Int32} {jj : Nat → Nat → Nat → Int64} {kd : Nat → Nat} {L i : Nat}
theorem vS (k : Nat) (h1 : ii 1 1 0 = nI L) (hL : L < 2 ^ 31) (hk : i + k < L) : mj_vin (nI i + nI k) (ii 1 1 0).toNatClampNeg = true := by
  rw [h1, nI_clamp hL, nI_add]
  exact mn_vin hk hL
theorem lb_0 (hL : L < 2 ^ 31) (hi : i + 6 ≤ L) (h1 : ii 1 1 0 = nI L) (R : Rep ii jj kd) (ih : ∀ i2 j2 k2, Rep i2 j2 k2 → i2 1 = ii 1 → ∃ h', GB l X 1300 0 0 0 (1560, [some (vR 1 0), some (vR 5 0), some (vR 25 0), some (vI (nI i))], [], (i2, j2, mj_rk k2, 108)) (some (vI 1)) h') : ∃ h', GB l X 1300 0 0 0 (220, [some (vR 1 0), some (vR 5 0), some (vR 25 0), some (vI (nI i))], [], (ii, jj, mj_rk kd, 108)) (some (vI 1)) h' := by
  obtain ⟨r, i1, j1, k1, i2, j2, k2, hc, hm, R2, e2, e1⟩ := tw_hat (l := l) (X := X) R (ii 1 0 (nI i + 1).toNatClampNeg)
  obtain ⟨h', G⟩ := ih i2 j2 k2 R2 e2
  have g1 : i1 1 1 0 = nI L := by rw [e1, h1]
  rw [← e1] at hm
  refine ⟨h', ?_⟩
  refine GB.go 226 rfl (aB1 (vS 1 h1 hL (by omega)) aB0) ?_
  refine GB.cal rfl rfl (by decide) hc ?_
  refine GB.go 235 rfl (aB1 (vS 1 g1 hL (by omega)) aB0) ?_
  refine GB.cal rfl rfl (by decide) hm ?_
  exact GB.br rfl rfl (fun _ => G) (fun q => absurd rfl q)
theorem lb_1 (hL : L < 2 ^ 31) (hi : i + 6 ≤ L) (h1 : ii 1 1 0 = nI L) (R : Rep ii jj kd) (ih : ∀ i2 j2 k2, Rep i2 j2 k2 → i2 1 = ii 1 → ∃ h', GB l X 1300 0 0 0 (1560, [some (vR 1 0), some (vR 5 0), some (vR 25 0), some (vI (nI i))], [], (i2, j2, mj_rk k2, 108)) (some (vI 1)) h') : ∃ h', GB l X 1300 0 0 0 (243, [some (vR 1 0), some (vR 5 0), some (vR 25 0), some (vI (nI i))], [], (ii, jj, mj_rk kd, 108)) (some (vI 1)) h' := by
  obtain ⟨r, i1, j1, k1, i2, j2, k2, hc, hm, R2, e2, e1⟩ := tw_fresh (l := l) (X := X) R (ii 1 0 (nI i + 1).toNatClampNeg) (ii 1 0 (nI i + 2).toNatClampNeg) (ii 1 0 (nI i + 3).toNatClampNeg)
  obtain ⟨h', G⟩ := ih i2 j2 k2 R2 e2
  have g1 : i1 1 1 0 = nI L := by rw [e1, h1]
  rw [← e1] at hm
  refine ⟨h', ?_⟩
  refine GB.go 249 rfl (aB1 (vS 1 h1 hL (by omega)) aB0) ?_
  refine GB.go 254 rfl (aB1 (vS 2 h1 hL (by omega)) aB0) ?_
  refine GB.go 259 rfl (aB1 (vS 3 h1 hL (by omega)) aB0) ?_
  refine GB.cal rfl rfl (by decide) hc ?_
  refine GB.go 268 rfl (aB1 (vS 1 g1 hL (by omega)) aB0) ?_
  refine GB.go 273 rfl (aB1 (vS 2 g1 hL (by omega)) aB0) ?_
  refine GB.go 278 rfl (aB1 (vS 3 g1 hL (by omega)) aB0) ?_
  refine GB.cal rfl rfl (by decide) hm ?_
  exact GB.br rfl rfl (fun _ => G) (fun q => absurd rfl q)
theorem lb_2 (hL : L < 2 ^ 31) (hi : i + 6 ≤ L) (h1 : ii 1 1 0 = nI L) (R : Rep ii jj kd) (ih : ∀ i2 j2 k2, Rep i2 j2 k2 → i2 1 = ii 1 → ∃ h', GB l X 1300 0 0 0 (1560, [some (vR 1 0), some (vR 5 0), some (vR 25 0), some (vI (nI i))], [], (i2, j2, mj_rk k2, 108)) (some (vI 1)) h') : ∃ h', GB l X 1300 0 0 0 (286, [some (vR 1 0), some (vR 5 0), some (vR 25 0), some (vI (nI i))], [], (ii, jj, mj_rk kd, 108)) (some (vI 1)) h' := by
  obtain ⟨r, i1, j1, k1, i2, j2, k2, hc, hm, R2, e2, e1⟩ := tw_of (l := l) (X := X) R (ii 1 0 (nI i + 1).toNatClampNeg) (ii 1 0 (nI i + 2).toNatClampNeg)
  obtain ⟨h', G⟩ := ih i2 j2 k2 R2 e2
  have g1 : i1 1 1 0 = nI L := by rw [e1, h1]
  rw [← e1] at hm
  refine ⟨h', ?_⟩
  refine GB.go 292 rfl (aB1 (vS 1 h1 hL (by omega)) aB0) ?_
  refine GB.go 297 rfl (aB1 (vS 2 h1 hL (by omega)) aB0) ?_
  refine GB.cal rfl rfl (by decide) hc ?_
  refine GB.go 306 rfl (aB1 (vS 1 g1 hL (by omega)) aB0) ?_
  refine GB.go 311 rfl (aB1 (vS 2 g1 hL (by omega)) aB0) ?_
  refine GB.cal rfl rfl (by decide) hm ?_
  exact GB.br rfl rfl (fun _ => G) (fun q => absurd rfl q)
theorem lb_3 (hL : L < 2 ^ 31) (hi : i + 6 ≤ L) (h1 : ii 1 1 0 = nI L) (R : Rep ii jj kd) (ih : ∀ i2 j2 k2, Rep i2 j2 k2 → i2 1 = ii 1 → ∃ h', GB l X 1300 0 0 0 (1560, [some (vR 1 0), some (vR 5 0), some (vR 25 0), some (vI (nI i))], [], (i2, j2, mj_rk k2, 108)) (some (vI 1)) h') : ∃ h', GB l X 1300 0 0 0 (319, [some (vR 1 0), some (vR 5 0), some (vR 25 0), some (vI (nI i))], [], (ii, jj, mj_rk kd, 108)) (some (vI 1)) h' := by
  obtain ⟨r, i1, j1, k1, i2, j2, k2, hc, hm, R2, e2, e1⟩ := tw_told (l := l) (X := X) R (ii 1 0 (nI i + 1).toNatClampNeg) (ii 1 0 (nI i + 2).toNatClampNeg)
  obtain ⟨h', G⟩ := ih i2 j2 k2 R2 e2
  have g1 : i1 1 1 0 = nI L := by rw [e1, h1]
  rw [← e1] at hm
  refine ⟨h', ?_⟩
  refine GB.go 325 rfl (aB1 (vS 1 h1 hL (by omega)) aB0) ?_
  refine GB.go 330 rfl (aB1 (vS 2 h1 hL (by omega)) aB0) ?_
  refine GB.cal rfl rfl (by decide) hc ?_
  refine GB.go 339 rfl (aB1 (vS 1 g1 hL (by omega)) aB0) ?_
  refine GB.go 344 rfl (aB1 (vS 2 g1 hL (by omega)) aB0) ?_
  refine GB.cal rfl rfl (by decide) hm ?_
  exact GB.br rfl rfl (fun _ => G) (fun q => absurd rfl q)
theorem lb_4 (hL : L < 2 ^ 31) (hi : i + 6 ≤ L) (h1 : ii 1 1 0 = nI L) (R : Rep ii jj kd) (ih : ∀ i2 j2 k2, Rep i2 j2 k2 → i2 1 = ii 1 → ∃ h', GB l X 1300 0 0 0 (1560, [some (vR 1 0), some (vR 5 0), some (vR 25 0), some (vI (nI i))], [], (i2, j2, mj_rk k2, 108)) (some (vI 1)) h') : ∃ h', GB l X 1300 0 0 0 (352, [some (vR 1 0), some (vR 5 0), some (vR 25 0), some (vI (nI i))], [], (ii, jj, mj_rk kd, 108)) (some (vI 1)) h' := by
  obtain ⟨r, i1, j1, k1, i2, j2, k2, hc, hm, R2, e2, e1⟩ := tw_pledge (l := l) (X := X) R (ii 1 0 (nI i + 1).toNatClampNeg) (ii 1 0 (nI i + 2).toNatClampNeg)
  obtain ⟨h', G⟩ := ih i2 j2 k2 R2 e2
  have g1 : i1 1 1 0 = nI L := by rw [e1, h1]
  rw [← e1] at hm
  refine ⟨h', ?_⟩
  refine GB.go 358 rfl (aB1 (vS 1 h1 hL (by omega)) aB0) ?_
  refine GB.go 363 rfl (aB1 (vS 2 h1 hL (by omega)) aB0) ?_
  refine GB.cal rfl rfl (by decide) hc ?_
  refine GB.go 372 rfl (aB1 (vS 1 g1 hL (by omega)) aB0) ?_
  refine GB.go 377 rfl (aB1 (vS 2 g1 hL (by omega)) aB0) ?_
  refine GB.cal rfl rfl (by decide) hm ?_
  exact GB.br rfl rfl (fun _ => G) (fun q => absurd rfl q)
theorem lb_5 (hL : L < 2 ^ 31) (hi : i + 6 ≤ L) (h1 : ii 1 1 0 = nI L) (R : Rep ii jj kd) (ih : ∀ i2 j2 k2, Rep i2 j2 k2 → i2 1 = ii 1 → ∃ h', GB l X 1300 0 0 0 (1560, [some (vR 1 0), some (vR 5 0), some (vR 25 0), some (vI (nI i))], [], (i2, j2, mj_rk k2, 108)) (some (vI 1)) h') : ∃ h', GB l X 1300 0 0 0 (385, [some (vR 1 0), some (vR 5 0), some (vR 25 0), some (vI (nI i))], [], (ii, jj, mj_rk kd, 108)) (some (vI 1)) h' := by
  obtain ⟨r, i1, j1, k1, i2, j2, k2, hc, hm, R2, e2, e1⟩ := tw_turn (l := l) (X := X) R (ii 1 0 (nI i + 1).toNatClampNeg) (ii 1 0 (nI i + 2).toNatClampNeg)
  obtain ⟨h', G⟩ := ih i2 j2 k2 R2 e2
  have g1 : i1 1 1 0 = nI L := by rw [e1, h1]
  rw [← e1] at hm
  refine ⟨h', ?_⟩
  refine GB.go 391 rfl (aB1 (vS 1 h1 hL (by omega)) aB0) ?_
  refine GB.go 396 rfl (aB1 (vS 2 h1 hL (by omega)) aB0) ?_
  refine GB.cal rfl rfl (by decide) hc ?_
  refine GB.go 405 rfl (aB1 (vS 1 g1 hL (by omega)) aB0) ?_
  refine GB.go 410 rfl (aB1 (vS 2 g1 hL (by omega)) aB0) ?_
  refine GB.cal rfl rfl (by decide) hm ?_
  exact GB.br rfl rfl (fun _ => G) (fun q => absurd rfl q)
theorem lb_6 (hL : L < 2 ^ 31) (hi : i + 6 ≤ L) (h1 : ii 1 1 0 = nI L) (R : Rep ii jj kd) (ih : ∀ i2 j2 k2, Rep i2 j2 k2 → i2 1 = ii 1 → ∃ h', GB l X 1300 0 0 0 (1560, [some (vR 1 0), some (vR 5 0), some (vR 25 0), some (vI (nI i))], [], (i2, j2, mj_rk k2, 108)) (some (vI 1)) h') : ∃ h', GB l X 1300 0 0 0 (418, [some (vR 1 0), some (vR 5 0), some (vR 25 0), some (vI (nI i))], [], (ii, jj, mj_rk kd, 108)) (some (vI 1)) h' := by
  obtain ⟨r, i1, j1, k1, i2, j2, k2, hc, hm, R2, e2, e1⟩ := tw_as (l := l) (X := X) R (ii 1 0 (nI i + 1).toNatClampNeg) (ii 1 0 (nI i + 2).toNatClampNeg)
  obtain ⟨h', G⟩ := ih i2 j2 k2 R2 e2
  have g1 : i1 1 1 0 = nI L := by rw [e1, h1]
  rw [← e1] at hm
  refine ⟨h', ?_⟩
  refine GB.go 424 rfl (aB1 (vS 1 h1 hL (by omega)) aB0) ?_
  refine GB.go 429 rfl (aB1 (vS 2 h1 hL (by omega)) aB0) ?_
  refine GB.cal rfl rfl (by decide) hc ?_
  refine GB.go 438 rfl (aB1 (vS 1 g1 hL (by omega)) aB0) ?_
  refine GB.go 443 rfl (aB1 (vS 2 g1 hL (by omega)) aB0) ?_
  refine GB.cal rfl rfl (by decide) hm ?_
  exact GB.br rfl rfl (fun _ => G) (fun q => absurd rfl q)
theorem lb_7 (hL : L < 2 ^ 31) (hi : i + 6 ≤ L) (h1 : ii 1 1 0 = nI L) (R : Rep ii jj kd) (ih : ∀ i2 j2 k2, Rep i2 j2 k2 → i2 1 = ii 1 → ∃ h', GB l X 1300 0 0 0 (1560, [some (vR 1 0), some (vR 5 0), some (vR 25 0), some (vI (nI i))], [], (i2, j2, mj_rk k2, 108)) (some (vI 1)) h') : ∃ h', GB l X 1300 0 0 0 (451, [some (vR 1 0), some (vR 5 0), some (vR 25 0), some (vI (nI i))], [], (ii, jj, mj_rk kd, 108)) (some (vI 1)) h' := by
  obtain ⟨r, i1, j1, k1, i2, j2, k2, hc, hm, R2, e2, e1⟩ := tw_head (l := l) (X := X) R (ii 1 0 (nI i + 1).toNatClampNeg)
  obtain ⟨h', G⟩ := ih i2 j2 k2 R2 e2
  have g1 : i1 1 1 0 = nI L := by rw [e1, h1]
  rw [← e1] at hm
  refine ⟨h', ?_⟩
  refine GB.go 457 rfl (aB1 (vS 1 h1 hL (by omega)) aB0) ?_
  refine GB.cal rfl rfl (by decide) hc ?_
  refine GB.go 466 rfl (aB1 (vS 1 g1 hL (by omega)) aB0) ?_
  refine GB.cal rfl rfl (by decide) hm ?_
  exact GB.br rfl rfl (fun _ => G) (fun q => absurd rfl q)
theorem lb_8 (hL : L < 2 ^ 31) (hi : i + 6 ≤ L) (h1 : ii 1 1 0 = nI L) (R : Rep ii jj kd) (ih : ∀ i2 j2 k2, Rep i2 j2 k2 → i2 1 = ii 1 → ∃ h', GB l X 1300 0 0 0 (1560, [some (vR 1 0), some (vR 5 0), some (vR 25 0), some (vI (nI i))], [], (i2, j2, mj_rk k2, 108)) (some (vI 1)) h') : ∃ h', GB l X 1300 0 0 0 (474, [some (vR 1 0), some (vR 5 0), some (vR 25 0), some (vI (nI i))], [], (ii, jj, mj_rk kd, 108)) (some (vI 1)) h' := by
  obtain ⟨r, i1, j1, k1, i2, j2, k2, hc, hm, R2, e2, e1⟩ := tw_about (l := l) (X := X) R (ii 1 0 (nI i + 1).toNatClampNeg) (ii 1 0 (nI i + 2).toNatClampNeg)
  obtain ⟨h', G⟩ := ih i2 j2 k2 R2 e2
  have g1 : i1 1 1 0 = nI L := by rw [e1, h1]
  rw [← e1] at hm
  refine ⟨h', ?_⟩
  refine GB.go 480 rfl (aB1 (vS 1 h1 hL (by omega)) aB0) ?_
  refine GB.go 485 rfl (aB1 (vS 2 h1 hL (by omega)) aB0) ?_
  refine GB.cal rfl rfl (by decide) hc ?_
  refine GB.go 494 rfl (aB1 (vS 1 g1 hL (by omega)) aB0) ?_
  refine GB.go 499 rfl (aB1 (vS 2 g1 hL (by omega)) aB0) ?_
  refine GB.cal rfl rfl (by decide) hm ?_
  exact GB.br rfl rfl (fun _ => G) (fun q => absurd rfl q)
theorem lb_9 (hL : L < 2 ^ 31) (hi : i + 6 ≤ L) (h1 : ii 1 1 0 = nI L) (R : Rep ii jj kd) (ih : ∀ i2 j2 k2, Rep i2 j2 k2 → i2 1 = ii 1 → ∃ h', GB l X 1300 0 0 0 (1560, [some (vR 1 0), some (vR 5 0), some (vR 25 0), some (vI (nI i))], [], (i2, j2, mj_rk k2, 108)) (some (vI 1)) h') : ∃ h', GB l X 1300 0 0 0 (507, [some (vR 1 0), some (vR 5 0), some (vR 25 0), some (vI (nI i))], [], (ii, jj, mj_rk kd, 108)) (some (vI 1)) h' := by
  obtain ⟨r, i1, j1, k1, i2, j2, k2, hc, hm, R2, e2, e1⟩ := tw_mind (l := l) (X := X) R (ii 1 0 (nI i + 1).toNatClampNeg) (ii 1 0 (nI i + 2).toNatClampNeg) (ii 1 0 (nI i + 3).toNatClampNeg)
  obtain ⟨h', G⟩ := ih i2 j2 k2 R2 e2
  have g1 : i1 1 1 0 = nI L := by rw [e1, h1]
  rw [← e1] at hm
  refine ⟨h', ?_⟩
  refine GB.go 513 rfl (aB1 (vS 1 h1 hL (by omega)) aB0) ?_
  refine GB.go 518 rfl (aB1 (vS 2 h1 hL (by omega)) aB0) ?_
  refine GB.go 523 rfl (aB1 (vS 3 h1 hL (by omega)) aB0) ?_
  refine GB.cal rfl rfl (by decide) hc ?_
  refine GB.go 532 rfl (aB1 (vS 1 g1 hL (by omega)) aB0) ?_
  refine GB.go 537 rfl (aB1 (vS 2 g1 hL (by omega)) aB0) ?_
  refine GB.go 542 rfl (aB1 (vS 3 g1 hL (by omega)) aB0) ?_
  refine GB.cal rfl rfl (by decide) hm ?_
  exact GB.br rfl rfl (fun _ => G) (fun q => absurd rfl q)
theorem lb_10 (hL : L < 2 ^ 31) (hi : i + 6 ≤ L) (h1 : ii 1 1 0 = nI L) (R : Rep ii jj kd) (ih : ∀ i2 j2 k2, Rep i2 j2 k2 → i2 1 = ii 1 → ∃ h', GB l X 1300 0 0 0 (1560, [some (vR 1 0), some (vR 5 0), some (vR 25 0), some (vI (nI i))], [], (i2, j2, mj_rk k2, 108)) (some (vI 1)) h') : ∃ h', GB l X 1300 0 0 0 (550, [some (vR 1 0), some (vR 5 0), some (vR 25 0), some (vI (nI i))], [], (ii, jj, mj_rk kd, 108)) (some (vI 1)) h' := by
  obtain ⟨r, i1, j1, k1, i2, j2, k2, hc, hm, R2, e2, e1⟩ := tw_moths (l := l) (X := X) R (ii 1 0 (nI i + 1).toNatClampNeg)
  obtain ⟨h', G⟩ := ih i2 j2 k2 R2 e2
  have g1 : i1 1 1 0 = nI L := by rw [e1, h1]
  rw [← e1] at hm
  refine ⟨h', ?_⟩
  refine GB.go 556 rfl (aB1 (vS 1 h1 hL (by omega)) aB0) ?_
  refine GB.cal rfl rfl (by decide) hc ?_
  refine GB.go 565 rfl (aB1 (vS 1 g1 hL (by omega)) aB0) ?_
  refine GB.cal rfl rfl (by decide) hm ?_
  exact GB.br rfl rfl (fun _ => G) (fun q => absurd rfl q)
theorem lb_11 (hL : L < 2 ^ 31) (hi : i + 6 ≤ L) (h1 : ii 1 1 0 = nI L) (R : Rep ii jj kd) (ih : ∀ i2 j2 k2, Rep i2 j2 k2 → i2 1 = ii 1 → ∃ h', GB l X 1300 0 0 0 (1560, [some (vR 1 0), some (vR 5 0), some (vR 25 0), some (vI (nI i))], [], (i2, j2, mj_rk k2, 108)) (some (vI 1)) h') : ∃ h', GB l X 1300 0 0 0 (573, [some (vR 1 0), some (vR 5 0), some (vR 25 0), some (vI (nI i))], [], (ii, jj, mj_rk kd, 108)) (some (vI 1)) h' := by
  obtain ⟨r, i1, j1, k1, i2, j2, k2, hc, hm, R2, e2, e1⟩ := tw_takes (l := l) (X := X) R (ii 1 0 (nI i + 1).toNatClampNeg) (ii 1 0 (nI i + 2).toNatClampNeg)
  obtain ⟨h', G⟩ := ih i2 j2 k2 R2 e2
  have g1 : i1 1 1 0 = nI L := by rw [e1, h1]
  rw [← e1] at hm
  refine ⟨h', ?_⟩
  refine GB.go 579 rfl (aB1 (vS 1 h1 hL (by omega)) aB0) ?_
  refine GB.go 584 rfl (aB1 (vS 2 h1 hL (by omega)) aB0) ?_
  refine GB.cal rfl rfl (by decide) hc ?_
  refine GB.go 593 rfl (aB1 (vS 1 g1 hL (by omega)) aB0) ?_
  refine GB.go 598 rfl (aB1 (vS 2 g1 hL (by omega)) aB0) ?_
  refine GB.cal rfl rfl (by decide) hm ?_
  exact GB.br rfl rfl (fun _ => G) (fun q => absurd rfl q)
theorem lb_12 (hL : L < 2 ^ 31) (hi : i + 6 ≤ L) (h1 : ii 1 1 0 = nI L) (R : Rep ii jj kd) (ih : ∀ i2 j2 k2, Rep i2 j2 k2 → i2 1 = ii 1 → ∃ h', GB l X 1300 0 0 0 (1560, [some (vR 1 0), some (vR 5 0), some (vR 25 0), some (vI (nI i))], [], (i2, j2, mj_rk k2, 108)) (some (vI 1)) h') : ∃ h', GB l X 1300 0 0 0 (606, [some (vR 1 0), some (vR 5 0), some (vR 25 0), some (vI (nI i))], [], (ii, jj, mj_rk kd, 108)) (some (vI 1)) h' := by
  obtain ⟨r, i1, j1, k1, i2, j2, k2, hc, hm, R2, e2, e1⟩ := tw_keeps (l := l) (X := X) R (ii 1 0 (nI i + 1).toNatClampNeg) (ii 1 0 (nI i + 2).toNatClampNeg)
  obtain ⟨h', G⟩ := ih i2 j2 k2 R2 e2
  have g1 : i1 1 1 0 = nI L := by rw [e1, h1]
  rw [← e1] at hm
  refine ⟨h', ?_⟩
  refine GB.go 612 rfl (aB1 (vS 1 h1 hL (by omega)) aB0) ?_
  refine GB.go 617 rfl (aB1 (vS 2 h1 hL (by omega)) aB0) ?_
  refine GB.cal rfl rfl (by decide) hc ?_
  refine GB.go 626 rfl (aB1 (vS 1 g1 hL (by omega)) aB0) ?_
  refine GB.go 631 rfl (aB1 (vS 2 g1 hL (by omega)) aB0) ?_
  refine GB.cal rfl rfl (by decide) hm ?_
  exact GB.br rfl rfl (fun _ => G) (fun q => absurd rfl q)
theorem lb_13 (hL : L < 2 ^ 31) (hi : i + 6 ≤ L) (h1 : ii 1 1 0 = nI L) (R : Rep ii jj kd) (ih : ∀ i2 j2 k2, Rep i2 j2 k2 → i2 1 = ii 1 → ∃ h', GB l X 1300 0 0 0 (1560, [some (vR 1 0), some (vR 5 0), some (vR 25 0), some (vI (nI i))], [], (i2, j2, mj_rk k2, 108)) (some (vI 1)) h') : ∃ h', GB l X 1300 0 0 0 (639, [some (vR 1 0), some (vR 5 0), some (vR 25 0), some (vI (nI i))], [], (ii, jj, mj_rk kd, 108)) (some (vI 1)) h' := by
  obtain ⟨r, i1, j1, k1, i2, j2, k2, hc, hm, R2, e2, e1⟩ := tw_tries (l := l) (X := X) R (ii 1 0 (nI i + 1).toNatClampNeg) (ii 1 0 (nI i + 2).toNatClampNeg)
  obtain ⟨h', G⟩ := ih i2 j2 k2 R2 e2
  have g1 : i1 1 1 0 = nI L := by rw [e1, h1]
  rw [← e1] at hm
  refine ⟨h', ?_⟩
  refine GB.go 645 rfl (aB1 (vS 1 h1 hL (by omega)) aB0) ?_
  refine GB.go 650 rfl (aB1 (vS 2 h1 hL (by omega)) aB0) ?_
  refine GB.cal rfl rfl (by decide) hc ?_
  refine GB.go 659 rfl (aB1 (vS 1 g1 hL (by omega)) aB0) ?_
  refine GB.go 664 rfl (aB1 (vS 2 g1 hL (by omega)) aB0) ?_
  refine GB.cal rfl rfl (by decide) hm ?_
  exact GB.br rfl rfl (fun _ => G) (fun q => absurd rfl q)
theorem lb_14 (hL : L < 2 ^ 31) (hi : i + 6 ≤ L) (h1 : ii 1 1 0 = nI L) (R : Rep ii jj kd) (ih : ∀ i2 j2 k2, Rep i2 j2 k2 → i2 1 = ii 1 → ∃ h', GB l X 1300 0 0 0 (1560, [some (vR 1 0), some (vR 5 0), some (vR 25 0), some (vI (nI i))], [], (i2, j2, mj_rk k2, 108)) (some (vI 1)) h') : ∃ h', GB l X 1300 0 0 0 (672, [some (vR 1 0), some (vR 5 0), some (vR 25 0), some (vI (nI i))], [], (ii, jj, mj_rk kd, 108)) (some (vI 1)) h' := by
  obtain ⟨r, i1, j1, k1, i2, j2, k2, hc, hm, R2, e2, e1⟩ := tw_redeem (l := l) (X := X) R (ii 1 0 (nI i + 1).toNatClampNeg) (ii 1 0 (nI i + 2).toNatClampNeg)
  obtain ⟨h', G⟩ := ih i2 j2 k2 R2 e2
  have g1 : i1 1 1 0 = nI L := by rw [e1, h1]
  rw [← e1] at hm
  refine ⟨h', ?_⟩
  refine GB.go 678 rfl (aB1 (vS 1 h1 hL (by omega)) aB0) ?_
  refine GB.go 683 rfl (aB1 (vS 2 h1 hL (by omega)) aB0) ?_
  refine GB.cal rfl rfl (by decide) hc ?_
  refine GB.go 692 rfl (aB1 (vS 1 g1 hL (by omega)) aB0) ?_
  refine GB.go 697 rfl (aB1 (vS 2 g1 hL (by omega)) aB0) ?_
  refine GB.cal rfl rfl (by decide) hm ?_
  exact GB.br rfl rfl (fun _ => G) (fun q => absurd rfl q)
theorem lb_15 (hL : L < 2 ^ 31) (hi : i + 6 ≤ L) (h1 : ii 1 1 0 = nI L) (R : Rep ii jj kd) (ih : ∀ i2 j2 k2, Rep i2 j2 k2 → i2 1 = ii 1 → ∃ h', GB l X 1300 0 0 0 (1560, [some (vR 1 0), some (vR 5 0), some (vR 25 0), some (vI (nI i))], [], (i2, j2, mj_rk k2, 108)) (some (vI 1)) h') : ∃ h', GB l X 1300 0 0 0 (705, [some (vR 1 0), some (vR 5 0), some (vR 25 0), some (vI (nI i))], [], (ii, jj, mj_rk kd, 108)) (some (vI 1)) h' := by
  obtain ⟨r, i1, j1, k1, i2, j2, k2, hc, hm, R2, e2, e1⟩ := tw_blend (l := l) (X := X) R (ii 1 0 (nI i + 1).toNatClampNeg) (ii 1 0 (nI i + 2).toNatClampNeg)
  obtain ⟨h', G⟩ := ih i2 j2 k2 R2 e2
  have g1 : i1 1 1 0 = nI L := by rw [e1, h1]
  rw [← e1] at hm
  refine ⟨h', ?_⟩
  refine GB.go 711 rfl (aB1 (vS 1 h1 hL (by omega)) aB0) ?_
  refine GB.go 716 rfl (aB1 (vS 2 h1 hL (by omega)) aB0) ?_
  refine GB.cal rfl rfl (by decide) hc ?_
  refine GB.go 725 rfl (aB1 (vS 1 g1 hL (by omega)) aB0) ?_
  refine GB.go 730 rfl (aB1 (vS 2 g1 hL (by omega)) aB0) ?_
  refine GB.cal rfl rfl (by decide) hm ?_
  exact GB.br rfl rfl (fun _ => G) (fun q => absurd rfl q)
theorem lb_16 (hL : L < 2 ^ 31) (hi : i + 6 ≤ L) (h1 : ii 1 1 0 = nI L) (R : Rep ii jj kd) (ih : ∀ i2 j2 k2, Rep i2 j2 k2 → i2 1 = ii 1 → ∃ h', GB l X 1300 0 0 0 (1560, [some (vR 1 0), some (vR 5 0), some (vR 25 0), some (vI (nI i))], [], (i2, j2, mj_rk k2, 108)) (some (vI 1)) h') : ∃ h', GB l X 1300 0 0 0 (738, [some (vR 1 0), some (vR 5 0), some (vR 25 0), some (vI (nI i))], [], (ii, jj, mj_rk kd, 108)) (some (vI 1)) h' := by
  obtain ⟨r, i1, j1, k1, i2, j2, k2, hc, hm, R2, e2, e1⟩ := tw_stack (l := l) (X := X) R (ii 1 0 (nI i + 1).toNatClampNeg) (ii 1 0 (nI i + 2).toNatClampNeg)
  obtain ⟨h', G⟩ := ih i2 j2 k2 R2 e2
  have g1 : i1 1 1 0 = nI L := by rw [e1, h1]
  rw [← e1] at hm
  refine ⟨h', ?_⟩
  refine GB.go 744 rfl (aB1 (vS 1 h1 hL (by omega)) aB0) ?_
  refine GB.go 749 rfl (aB1 (vS 2 h1 hL (by omega)) aB0) ?_
  refine GB.cal rfl rfl (by decide) hc ?_
  refine GB.go 758 rfl (aB1 (vS 1 g1 hL (by omega)) aB0) ?_
  refine GB.go 763 rfl (aB1 (vS 2 g1 hL (by omega)) aB0) ?_
  refine GB.cal rfl rfl (by decide) hm ?_
  exact GB.br rfl rfl (fun _ => G) (fun q => absurd rfl q)
theorem lb_17 (hL : L < 2 ^ 31) (hi : i + 6 ≤ L) (h1 : ii 1 1 0 = nI L) (R : Rep ii jj kd) (ih : ∀ i2 j2 k2, Rep i2 j2 k2 → i2 1 = ii 1 → ∃ h', GB l X 1300 0 0 0 (1560, [some (vR 1 0), some (vR 5 0), some (vR 25 0), some (vI (nI i))], [], (i2, j2, mj_rk k2, 108)) (some (vI 1)) h') : ∃ h', GB l X 1300 0 0 0 (771, [some (vR 1 0), some (vR 5 0), some (vR 25 0), some (vI (nI i))], [], (ii, jj, mj_rk kd, 108)) (some (vI 1)) h' := by
  obtain ⟨r, i1, j1, k1, i2, j2, k2, hc, hm, R2, e2, e1⟩ := tw_weeks (l := l) (X := X) R (ii 1 0 (nI i + 1).toNatClampNeg)
  obtain ⟨h', G⟩ := ih i2 j2 k2 R2 e2
  have g1 : i1 1 1 0 = nI L := by rw [e1, h1]
  rw [← e1] at hm
  refine ⟨h', ?_⟩
  refine GB.go 777 rfl (aB1 (vS 1 h1 hL (by omega)) aB0) ?_
  refine GB.cal rfl rfl (by decide) hc ?_
  refine GB.go 786 rfl (aB1 (vS 1 g1 hL (by omega)) aB0) ?_
  refine GB.cal rfl rfl (by decide) hm ?_
  exact GB.br rfl rfl (fun _ => G) (fun q => absurd rfl q)
theorem lb_18 (hL : L < 2 ^ 31) (hi : i + 6 ≤ L) (h1 : ii 1 1 0 = nI L) (R : Rep ii jj kd) (ih : ∀ i2 j2 k2, Rep i2 j2 k2 → i2 1 = ii 1 → ∃ h', GB l X 1300 0 0 0 (1560, [some (vR 1 0), some (vR 5 0), some (vR 25 0), some (vI (nI i))], [], (i2, j2, mj_rk k2, 108)) (some (vI 1)) h') : ∃ h', GB l X 1300 0 0 0 (794, [some (vR 1 0), some (vR 5 0), some (vR 25 0), some (vI (nI i))], [], (ii, jj, mj_rk kd, 108)) (some (vI 1)) h' := by
  obtain ⟨r, i1, j1, k1, i2, j2, k2, hc, hm, R2, e2, e1⟩ := tw_now (l := l) (X := X) R (ii 1 0 (nI i + 1).toNatClampNeg)
  obtain ⟨h', G⟩ := ih i2 j2 k2 R2 e2
  have g1 : i1 1 1 0 = nI L := by rw [e1, h1]
  rw [← e1] at hm
  refine ⟨h', ?_⟩
  refine GB.go 800 rfl (aB1 (vS 1 h1 hL (by omega)) aB0) ?_
  refine GB.cal rfl rfl (by decide) hc ?_
  refine GB.go 809 rfl (aB1 (vS 1 g1 hL (by omega)) aB0) ?_
  refine GB.cal rfl rfl (by decide) hm ?_
  exact GB.br rfl rfl (fun _ => G) (fun q => absurd rfl q)
theorem lb_19 (hL : L < 2 ^ 31) (hi : i + 6 ≤ L) (h1 : ii 1 1 0 = nI L) (R : Rep ii jj kd) (ih : ∀ i2 j2 k2, Rep i2 j2 k2 → i2 1 = ii 1 → ∃ h', GB l X 1300 0 0 0 (1560, [some (vR 1 0), some (vR 5 0), some (vR 25 0), some (vI (nI i))], [], (i2, j2, mj_rk k2, 108)) (some (vI 1)) h') : ∃ h', GB l X 1300 0 0 0 (817, [some (vR 1 0), some (vR 5 0), some (vR 25 0), some (vI (nI i))], [], (ii, jj, mj_rk kd, 108)) (some (vI 1)) h' := by
  obtain ⟨r, i1, j1, k1, i2, j2, k2, hc, hm, R2, e2, e1⟩ := tw_on (l := l) (X := X) R (ii 1 0 (nI i + 1).toNatClampNeg) (ii 1 0 (nI i + 2).toNatClampNeg) (ii 1 0 (nI i + 3).toNatClampNeg)
  obtain ⟨h', G⟩ := ih i2 j2 k2 R2 e2
  have g1 : i1 1 1 0 = nI L := by rw [e1, h1]
  rw [← e1] at hm
  refine ⟨h', ?_⟩
  refine GB.go 823 rfl (aB1 (vS 1 h1 hL (by omega)) aB0) ?_
  refine GB.go 828 rfl (aB1 (vS 2 h1 hL (by omega)) aB0) ?_
  refine GB.go 833 rfl (aB1 (vS 3 h1 hL (by omega)) aB0) ?_
  refine GB.cal rfl rfl (by decide) hc ?_
  refine GB.go 842 rfl (aB1 (vS 1 g1 hL (by omega)) aB0) ?_
  refine GB.go 847 rfl (aB1 (vS 2 g1 hL (by omega)) aB0) ?_
  refine GB.go 852 rfl (aB1 (vS 3 g1 hL (by omega)) aB0) ?_
  refine GB.cal rfl rfl (by decide) hm ?_
  exact GB.br rfl rfl (fun _ => G) (fun q => absurd rfl q)
theorem lb_20 (hL : L < 2 ^ 31) (hi : i + 6 ≤ L) (h1 : ii 1 1 0 = nI L) (R : Rep ii jj kd) (ih : ∀ i2 j2 k2, Rep i2 j2 k2 → i2 1 = ii 1 → ∃ h', GB l X 1300 0 0 0 (1560, [some (vR 1 0), some (vR 5 0), some (vR 25 0), some (vI (nI i))], [], (i2, j2, mj_rk k2, 108)) (some (vI 1)) h') : ∃ h', GB l X 1300 0 0 0 (860, [some (vR 1 0), some (vR 5 0), some (vR 25 0), some (vI (nI i))], [], (ii, jj, mj_rk kd, 108)) (some (vI 1)) h' := by
  obtain ⟨r, i1, j1, k1, i2, j2, k2, hc, hm, R2, e2, e1⟩ := tw_gone (l := l) (X := X) R (ii 1 0 (nI i + 1).toNatClampNeg) (ii 1 0 (nI i + 2).toNatClampNeg)
  obtain ⟨h', G⟩ := ih i2 j2 k2 R2 e2
  have g1 : i1 1 1 0 = nI L := by rw [e1, h1]
  rw [← e1] at hm
  refine ⟨h', ?_⟩
  refine GB.go 866 rfl (aB1 (vS 1 h1 hL (by omega)) aB0) ?_
  refine GB.go 871 rfl (aB1 (vS 2 h1 hL (by omega)) aB0) ?_
  refine GB.cal rfl rfl (by decide) hc ?_
  refine GB.go 880 rfl (aB1 (vS 1 g1 hL (by omega)) aB0) ?_
  refine GB.go 885 rfl (aB1 (vS 2 g1 hL (by omega)) aB0) ?_
  refine GB.cal rfl rfl (by decide) hm ?_
  exact GB.br rfl rfl (fun _ => G) (fun q => absurd rfl q)
theorem lb_21 (hL : L < 2 ^ 31) (hi : i + 6 ≤ L) (h1 : ii 1 1 0 = nI L) (R : Rep ii jj kd) (ih : ∀ i2 j2 k2, Rep i2 j2 k2 → i2 1 = ii 1 → ∃ h', GB l X 1300 0 0 0 (1560, [some (vR 1 0), some (vR 5 0), some (vR 25 0), some (vI (nI i))], [], (i2, j2, mj_rk k2, 108)) (some (vI 1)) h') : ∃ h', GB l X 1300 0 0 0 (893, [some (vR 1 0), some (vR 5 0), some (vR 25 0), some (vI (nI i))], [], (ii, jj, mj_rk kd, 108)) (some (vI 1)) h' := by
  obtain ⟨r, i1, j1, k1, i2, j2, k2, hc, hm, R2, e2, e1⟩ := tw_alike (l := l) (X := X) R (ii 1 0 (nI i + 1).toNatClampNeg) (ii 1 0 (nI i + 2).toNatClampNeg)
  obtain ⟨h', G⟩ := ih i2 j2 k2 R2 e2
  have g1 : i1 1 1 0 = nI L := by rw [e1, h1]
  rw [← e1] at hm
  refine ⟨h', ?_⟩
  refine GB.go 899 rfl (aB1 (vS 1 h1 hL (by omega)) aB0) ?_
  refine GB.go 904 rfl (aB1 (vS 2 h1 hL (by omega)) aB0) ?_
  refine GB.cal rfl rfl (by decide) hc ?_
  refine GB.go 913 rfl (aB1 (vS 1 g1 hL (by omega)) aB0) ?_
  refine GB.go 918 rfl (aB1 (vS 2 g1 hL (by omega)) aB0) ?_
  refine GB.cal rfl rfl (by decide) hm ?_
  exact GB.br rfl rfl (fun _ => G) (fun q => absurd rfl q)
theorem lb_22 (hL : L < 2 ^ 31) (hi : i + 6 ≤ L) (h1 : ii 1 1 0 = nI L) (R : Rep ii jj kd) (ih : ∀ i2 j2 k2, Rep i2 j2 k2 → i2 1 = ii 1 → ∃ h', GB l X 1300 0 0 0 (1560, [some (vR 1 0), some (vR 5 0), some (vR 25 0), some (vI (nI i))], [], (i2, j2, mj_rk k2, 108)) (some (vI 1)) h') : ∃ h', GB l X 1300 0 0 0 (926, [some (vR 1 0), some (vR 5 0), some (vR 25 0), some (vI (nI i))], [], (ii, jj, mj_rk kd, 108)) (some (vI 1)) h' := by
  obtain ⟨r, i1, j1, k1, i2, j2, k2, hc, hm, R2, e2, e1⟩ := tw_best (l := l) (X := X) R (ii 1 0 (nI i + 1).toNatClampNeg)
  obtain ⟨h', G⟩ := ih i2 j2 k2 R2 e2
  have g1 : i1 1 1 0 = nI L := by rw [e1, h1]
  rw [← e1] at hm
  refine ⟨h', ?_⟩
  refine GB.go 932 rfl (aB1 (vS 1 h1 hL (by omega)) aB0) ?_
  refine GB.cal rfl rfl (by decide) hc ?_
  refine GB.go 941 rfl (aB1 (vS 1 g1 hL (by omega)) aB0) ?_
  refine GB.cal rfl rfl (by decide) hm ?_
  exact GB.br rfl rfl (fun _ => G) (fun q => absurd rfl q)
theorem lb_23 (hL : L < 2 ^ 31) (hi : i + 6 ≤ L) (h1 : ii 1 1 0 = nI L) (R : Rep ii jj kd) (ih : ∀ i2 j2 k2, Rep i2 j2 k2 → i2 1 = ii 1 → ∃ h', GB l X 1300 0 0 0 (1560, [some (vR 1 0), some (vR 5 0), some (vR 25 0), some (vI (nI i))], [], (i2, j2, mj_rk k2, 108)) (some (vI 1)) h') : ∃ h', GB l X 1300 0 0 0 (949, [some (vR 1 0), some (vR 5 0), some (vR 25 0), some (vI (nI i))], [], (ii, jj, mj_rk kd, 108)) (some (vI 1)) h' := by
  obtain ⟨r, i1, j1, k1, i2, j2, k2, hc, hm, R2, e2, e1⟩ := tw_row (l := l) (X := X) R (ii 1 0 (nI i + 1).toNatClampNeg) (ii 1 0 (nI i + 2).toNatClampNeg)
  obtain ⟨h', G⟩ := ih i2 j2 k2 R2 e2
  have g1 : i1 1 1 0 = nI L := by rw [e1, h1]
  rw [← e1] at hm
  refine ⟨h', ?_⟩
  refine GB.go 955 rfl (aB1 (vS 1 h1 hL (by omega)) aB0) ?_
  refine GB.go 960 rfl (aB1 (vS 2 h1 hL (by omega)) aB0) ?_
  refine GB.cal rfl rfl (by decide) hc ?_
  refine GB.go 969 rfl (aB1 (vS 1 g1 hL (by omega)) aB0) ?_
  refine GB.go 974 rfl (aB1 (vS 2 g1 hL (by omega)) aB0) ?_
  refine GB.cal rfl rfl (by decide) hm ?_
  exact GB.br rfl rfl (fun _ => G) (fun q => absurd rfl q)
theorem lb_24 (hL : L < 2 ^ 31) (hi : i + 6 ≤ L) (h1 : ii 1 1 0 = nI L) (R : Rep ii jj kd) (ih : ∀ i2 j2 k2, Rep i2 j2 k2 → i2 1 = ii 1 → ∃ h', GB l X 1300 0 0 0 (1560, [some (vR 1 0), some (vR 5 0), some (vR 25 0), some (vI (nI i))], [], (i2, j2, mj_rk k2, 108)) (some (vI 1)) h') : ∃ h', GB l X 1300 0 0 0 (982, [some (vR 1 0), some (vR 5 0), some (vR 25 0), some (vI (nI i))], [], (ii, jj, mj_rk kd, 108)) (some (vI 1)) h' := by
  obtain ⟨r, i1, j1, k1, i2, j2, k2, hc, hm, R2, e2, e1⟩ := tw_rows (l := l) (X := X) R (ii 1 0 (nI i + 1).toNatClampNeg) (ii 1 0 (nI i + 2).toNatClampNeg) (ii 1 0 (nI i + 3).toNatClampNeg)
  obtain ⟨h', G⟩ := ih i2 j2 k2 R2 e2
  have g1 : i1 1 1 0 = nI L := by rw [e1, h1]
  rw [← e1] at hm
  refine ⟨h', ?_⟩
  refine GB.go 988 rfl (aB1 (vS 1 h1 hL (by omega)) aB0) ?_
  refine GB.go 993 rfl (aB1 (vS 2 h1 hL (by omega)) aB0) ?_
  refine GB.go 998 rfl (aB1 (vS 3 h1 hL (by omega)) aB0) ?_
  refine GB.cal rfl rfl (by decide) hc ?_
  refine GB.go 1007 rfl (aB1 (vS 1 g1 hL (by omega)) aB0) ?_
  refine GB.go 1012 rfl (aB1 (vS 2 g1 hL (by omega)) aB0) ?_
  refine GB.go 1017 rfl (aB1 (vS 3 g1 hL (by omega)) aB0) ?_
  refine GB.cal rfl rfl (by decide) hm ?_
  exact GB.br rfl rfl (fun _ => G) (fun q => absurd rfl q)
theorem lb_25 (hL : L < 2 ^ 31) (hi : i + 6 ≤ L) (h1 : ii 1 1 0 = nI L) (R : Rep ii jj kd) (ih : ∀ i2 j2 k2, Rep i2 j2 k2 → i2 1 = ii 1 → ∃ h', GB l X 1300 0 0 0 (1560, [some (vR 1 0), some (vR 5 0), some (vR 25 0), some (vI (nI i))], [], (i2, j2, mj_rk k2, 108)) (some (vI 1)) h') : ∃ h', GB l X 1300 0 0 0 (1025, [some (vR 1 0), some (vR 5 0), some (vR 25 0), some (vI (nI i))], [], (ii, jj, mj_rk kd, 108)) (some (vI 1)) h' := by
  obtain ⟨r, i1, j1, k1, i2, j2, k2, hc, hm, R2, e2, e1⟩ := tw_kind (l := l) (X := X) R (ii 1 0 (nI i + 1).toNatClampNeg) (ii 1 0 (nI i + 2).toNatClampNeg)
  obtain ⟨h', G⟩ := ih i2 j2 k2 R2 e2
  have g1 : i1 1 1 0 = nI L := by rw [e1, h1]
  rw [← e1] at hm
  refine ⟨h', ?_⟩
  refine GB.go 1031 rfl (aB1 (vS 1 h1 hL (by omega)) aB0) ?_
  refine GB.go 1036 rfl (aB1 (vS 2 h1 hL (by omega)) aB0) ?_
  refine GB.cal rfl rfl (by decide) hc ?_
  refine GB.go 1045 rfl (aB1 (vS 1 g1 hL (by omega)) aB0) ?_
  refine GB.go 1050 rfl (aB1 (vS 2 g1 hL (by omega)) aB0) ?_
  refine GB.cal rfl rfl (by decide) hm ?_
  exact GB.br rfl rfl (fun _ => G) (fun q => absurd rfl q)
theorem lb_26 (hL : L < 2 ^ 31) (hi : i + 6 ≤ L) (h1 : ii 1 1 0 = nI L) (R : Rep ii jj kd) (ih : ∀ i2 j2 k2, Rep i2 j2 k2 → i2 1 = ii 1 → ∃ h', GB l X 1300 0 0 0 (1560, [some (vR 1 0), some (vR 5 0), some (vR 25 0), some (vI (nI i))], [], (i2, j2, mj_rk k2, 108)) (some (vI 1)) h') : ∃ h', GB l X 1300 0 0 0 (1058, [some (vR 1 0), some (vR 5 0), some (vR 25 0), some (vI (nI i))], [], (ii, jj, mj_rk kd, 108)) (some (vI 1)) h' := by
  obtain ⟨r, i1, j1, k1, i2, j2, k2, hc, hm, R2, e2, e1⟩ := tw_lasting (l := l) (X := X) R (ii 1 0 (nI i + 1).toNatClampNeg) (ii 1 0 (nI i + 2).toNatClampNeg)
  obtain ⟨h', G⟩ := ih i2 j2 k2 R2 e2
  have g1 : i1 1 1 0 = nI L := by rw [e1, h1]
  rw [← e1] at hm
  refine ⟨h', ?_⟩
  refine GB.go 1064 rfl (aB1 (vS 1 h1 hL (by omega)) aB0) ?_
  refine GB.go 1069 rfl (aB1 (vS 2 h1 hL (by omega)) aB0) ?_
  refine GB.cal rfl rfl (by decide) hc ?_
  refine GB.go 1078 rfl (aB1 (vS 1 g1 hL (by omega)) aB0) ?_
  refine GB.go 1083 rfl (aB1 (vS 2 g1 hL (by omega)) aB0) ?_
  refine GB.cal rfl rfl (by decide) hm ?_
  exact GB.br rfl rfl (fun _ => G) (fun q => absurd rfl q)
theorem lb_27 (hL : L < 2 ^ 31) (hi : i + 6 ≤ L) (h1 : ii 1 1 0 = nI L) (R : Rep ii jj kd) (ih : ∀ i2 j2 k2, Rep i2 j2 k2 → i2 1 = ii 1 → ∃ h', GB l X 1300 0 0 0 (1560, [some (vR 1 0), some (vR 5 0), some (vR 25 0), some (vI (nI i))], [], (i2, j2, mj_rk k2, 108)) (some (vI 1)) h') : ∃ h', GB l X 1300 0 0 0 (1091, [some (vR 1 0), some (vR 5 0), some (vR 25 0), some (vI (nI i))], [], (ii, jj, mj_rk kd, 108)) (some (vI 1)) h' := by
  obtain ⟨r, i1, j1, k1, i2, j2, k2, hc, hm, R2, e2, e1⟩ := tw_worn (l := l) (X := X) R (ii 1 0 (nI i + 1).toNatClampNeg)
  obtain ⟨h', G⟩ := ih i2 j2 k2 R2 e2
  have g1 : i1 1 1 0 = nI L := by rw [e1, h1]
  rw [← e1] at hm
  refine ⟨h', ?_⟩
  refine GB.go 1097 rfl (aB1 (vS 1 h1 hL (by omega)) aB0) ?_
  refine GB.cal rfl rfl (by decide) hc ?_
  refine GB.go 1106 rfl (aB1 (vS 1 g1 hL (by omega)) aB0) ?_
  refine GB.cal rfl rfl (by decide) hm ?_
  exact GB.br rfl rfl (fun _ => G) (fun q => absurd rfl q)
theorem lb_28 (hL : L < 2 ^ 31) (hi : i + 6 ≤ L) (h1 : ii 1 1 0 = nI L) (R : Rep ii jj kd) (ih : ∀ i2 j2 k2, Rep i2 j2 k2 → i2 1 = ii 1 → ∃ h', GB l X 1300 0 0 0 (1560, [some (vR 1 0), some (vR 5 0), some (vR 25 0), some (vI (nI i))], [], (i2, j2, mj_rk k2, 108)) (some (vI 1)) h') : ∃ h', GB l X 1300 0 0 0 (1114, [some (vR 1 0), some (vR 5 0), some (vR 25 0), some (vI (nI i))], [], (ii, jj, mj_rk kd, 108)) (some (vI 1)) h' := by
  obtain ⟨r, i1, j1, k1, i2, j2, k2, hc, hm, R2, e2, e1⟩ := tw_before (l := l) (X := X) R (ii 1 0 (nI i + 1).toNatClampNeg) (ii 1 0 (nI i + 2).toNatClampNeg)
  obtain ⟨h', G⟩ := ih i2 j2 k2 R2 e2
  have g1 : i1 1 1 0 = nI L := by rw [e1, h1]
  rw [← e1] at hm
  refine ⟨h', ?_⟩
  refine GB.go 1120 rfl (aB1 (vS 1 h1 hL (by omega)) aB0) ?_
  refine GB.go 1125 rfl (aB1 (vS 2 h1 hL (by omega)) aB0) ?_
  refine GB.cal rfl rfl (by decide) hc ?_
  refine GB.go 1134 rfl (aB1 (vS 1 g1 hL (by omega)) aB0) ?_
  refine GB.go 1139 rfl (aB1 (vS 2 g1 hL (by omega)) aB0) ?_
  refine GB.cal rfl rfl (by decide) hm ?_
  exact GB.br rfl rfl (fun _ => G) (fun q => absurd rfl q)
theorem lb_29 (hL : L < 2 ^ 31) (hi : i + 6 ≤ L) (h1 : ii 1 1 0 = nI L) (R : Rep ii jj kd) (ih : ∀ i2 j2 k2, Rep i2 j2 k2 → i2 1 = ii 1 → ∃ h', GB l X 1300 0 0 0 (1560, [some (vR 1 0), some (vR 5 0), some (vR 25 0), some (vI (nI i))], [], (i2, j2, mj_rk k2, 108)) (some (vI 1)) h') : ∃ h', GB l X 1300 0 0 0 (1147, [some (vR 1 0), some (vR 5 0), some (vR 25 0), some (vI (nI i))], [], (ii, jj, mj_rk kd, 108)) (some (vI 1)) h' := by
  obtain ⟨r, i1, j1, k1, i2, j2, k2, hc, hm, R2, e2, e1⟩ := tw_feed (l := l) (X := X) R (ii 1 0 (nI i + 1).toNatClampNeg) (ii 1 0 (nI i + 2).toNatClampNeg)
  obtain ⟨h', G⟩ := ih i2 j2 k2 R2 e2
  have g1 : i1 1 1 0 = nI L := by rw [e1, h1]
  rw [← e1] at hm
  refine ⟨h', ?_⟩
  refine GB.go 1153 rfl (aB1 (vS 1 h1 hL (by omega)) aB0) ?_
  refine GB.go 1158 rfl (aB1 (vS 2 h1 hL (by omega)) aB0) ?_
  refine GB.cal rfl rfl (by decide) hc ?_
  refine GB.go 1167 rfl (aB1 (vS 1 g1 hL (by omega)) aB0) ?_
  refine GB.go 1172 rfl (aB1 (vS 2 g1 hL (by omega)) aB0) ?_
  refine GB.cal rfl rfl (by decide) hm ?_
  exact GB.br rfl rfl (fun _ => G) (fun q => absurd rfl q)
theorem lb_30 (hL : L < 2 ^ 31) (hi : i + 6 ≤ L) (h1 : ii 1 1 0 = nI L) (R : Rep ii jj kd) (ih : ∀ i2 j2 k2, Rep i2 j2 k2 → i2 1 = ii 1 → ∃ h', GB l X 1300 0 0 0 (1560, [some (vR 1 0), some (vR 5 0), some (vR 25 0), some (vI (nI i))], [], (i2, j2, mj_rk k2, 108)) (some (vI 1)) h') : ∃ h', GB l X 1300 0 0 0 (1180, [some (vR 1 0), some (vR 5 0), some (vR 25 0), some (vI (nI i))], [], (ii, jj, mj_rk kd, 108)) (some (vI 1)) h' := by
  obtain ⟨r, i1, j1, k1, i2, j2, k2, hc, hm, R2, e2, e1⟩ := tw_wipe (l := l) (X := X) R 
  obtain ⟨h', G⟩ := ih i2 j2 k2 R2 e2
  have g1 : i1 1 1 0 = nI L := by rw [e1, h1]
  refine ⟨h', ?_⟩
  refine GB.go 9999 rfl aB0 ?_
  refine GB.cal rfl rfl (by decide) hc ?_
  refine GB.go 9999 rfl aB0 ?_
  refine GB.cal rfl rfl (by decide) hm ?_
  exact GB.br rfl rfl (fun _ => G) (fun q => absurd rfl q)
theorem lb_31 (hL : L < 2 ^ 31) (hi : i + 6 ≤ L) (h1 : ii 1 1 0 = nI L) (R : Rep ii jj kd) (ih : ∀ i2 j2 k2, Rep i2 j2 k2 → i2 1 = ii 1 → ∃ h', GB l X 1300 0 0 0 (1560, [some (vR 1 0), some (vR 5 0), some (vR 25 0), some (vI (nI i))], [], (i2, j2, mj_rk k2, 108)) (some (vI 1)) h') : ∃ h', GB l X 1300 0 0 0 (1193, [some (vR 1 0), some (vR 5 0), some (vR 25 0), some (vI (nI i))], [], (ii, jj, mj_rk kd, 108)) (some (vI 1)) h' := by
  obtain ⟨r, i1, j1, k1, i2, j2, k2, hc, hm, R2, e2, e1⟩ := tw_shop (l := l) (X := X) R 
  obtain ⟨h', G⟩ := ih i2 j2 k2 R2 e2
  have g1 : i1 1 1 0 = nI L := by rw [e1, h1]
  refine ⟨h', ?_⟩
  refine GB.go 9999 rfl aB0 ?_
  refine GB.cal rfl rfl (by decide) hc ?_
  refine GB.go 9999 rfl aB0 ?_
  refine GB.cal rfl rfl (by decide) hm ?_
  exact GB.br rfl rfl (fun _ => G) (fun q => absurd rfl q)
theorem lb_32 (hL : L < 2 ^ 31) (hi : i + 6 ≤ L) (h1 : ii 1 1 0 = nI L) (R : Rep ii jj kd) (ih : ∀ i2 j2 k2, Rep i2 j2 k2 → i2 1 = ii 1 → ∃ h', GB l X 1300 0 0 0 (1560, [some (vR 1 0), some (vR 5 0), some (vR 25 0), some (vI (nI i))], [], (i2, j2, mj_rk k2, 108)) (some (vI 1)) h') : ∃ h', GB l X 1300 0 0 0 (1206, [some (vR 1 0), some (vR 5 0), some (vR 25 0), some (vI (nI i))], [], (ii, jj, mj_rk kd, 108)) (some (vI 1)) h' := by
  obtain ⟨r, i1, j1, k1, i2, j2, k2, hc, hm, R2, e2, e1⟩ := tw_sheet (l := l) (X := X) R (ii 1 0 (nI i + 1).toNatClampNeg) (ii 1 0 (nI i + 2).toNatClampNeg) (ii 1 0 (nI i + 3).toNatClampNeg)
  obtain ⟨h', G⟩ := ih i2 j2 k2 R2 e2
  have g1 : i1 1 1 0 = nI L := by rw [e1, h1]
  rw [← e1] at hm
  refine ⟨h', ?_⟩
  refine GB.go 1212 rfl (aB1 (vS 1 h1 hL (by omega)) aB0) ?_
  refine GB.go 1217 rfl (aB1 (vS 2 h1 hL (by omega)) aB0) ?_
  refine GB.go 1222 rfl (aB1 (vS 3 h1 hL (by omega)) aB0) ?_
  refine GB.cal rfl rfl (by decide) hc ?_
  refine GB.go 1231 rfl (aB1 (vS 1 g1 hL (by omega)) aB0) ?_
  refine GB.go 1236 rfl (aB1 (vS 2 g1 hL (by omega)) aB0) ?_
  refine GB.go 1241 rfl (aB1 (vS 3 g1 hL (by omega)) aB0) ?_
  refine GB.cal rfl rfl (by decide) hm ?_
  exact GB.br rfl rfl (fun _ => G) (fun q => absurd rfl q)
theorem lb_33 (hL : L < 2 ^ 31) (hi : i + 6 ≤ L) (h1 : ii 1 1 0 = nI L) (R : Rep ii jj kd) (ih : ∀ i2 j2 k2, Rep i2 j2 k2 → i2 1 = ii 1 → ∃ h', GB l X 1300 0 0 0 (1560, [some (vR 1 0), some (vR 5 0), some (vR 25 0), some (vI (nI i))], [], (i2, j2, mj_rk k2, 108)) (some (vI 1)) h') : ∃ h', GB l X 1300 0 0 0 (1249, [some (vR 1 0), some (vR 5 0), some (vR 25 0), some (vI (nI i))], [], (ii, jj, mj_rk kd, 108)) (some (vI 1)) h' := by
  obtain ⟨r, i1, j1, k1, i2, j2, k2, hc, hm, R2, e2, e1⟩ := tw_write (l := l) (X := X) R (ii 1 0 (nI i + 1).toNatClampNeg) (ii 1 0 (nI i + 2).toNatClampNeg) ((ii 1 0 (nI i + 3).toNatClampNeg).toInt64 <<< (Int32.toInt64 32 &&& 63) ||| (ii 1 0 (nI i + 4).toNatClampNeg).toInt64 &&& lN 4294967295)
  obtain ⟨h', G⟩ := ih i2 j2 k2 R2 e2
  have g1 : i1 1 1 0 = nI L := by rw [e1, h1]
  rw [← e1] at hm
  refine ⟨h', ?_⟩
  refine GB.go 1255 rfl (aB1 (vS 1 h1 hL (by omega)) aB0) ?_
  refine GB.go 1260 rfl (aB1 (vS 2 h1 hL (by omega)) aB0) ?_
  refine GB.go 1265 rfl (aB1 (vS 3 h1 hL (by omega)) aB0) ?_
  refine GB.go 1274 rfl (aB1 (vS 4 h1 hL (by omega)) aB0) ?_
  refine GB.go 9999 rfl aB0 ?_
  refine GB.cal rfl rfl (by decide) hc ?_
  refine GB.go 1289 rfl (aB1 (vS 1 g1 hL (by omega)) aB0) ?_
  refine GB.go 1294 rfl (aB1 (vS 2 g1 hL (by omega)) aB0) ?_
  refine GB.go 1299 rfl (aB1 (vS 3 g1 hL (by omega)) aB0) ?_
  refine GB.go 1308 rfl (aB1 (vS 4 g1 hL (by omega)) aB0) ?_
  refine GB.go 9999 rfl aB0 ?_
  refine GB.cal rfl rfl (by decide) hm ?_
  refine GB.go 9999 rfl aB0 ?_
  refine GB.br rfl rfl (fun _ => G) (fun q => absurd (lc_eq.mpr rfl) q)
theorem lb_34 (hL : L < 2 ^ 31) (hi : i + 6 ≤ L) (h1 : ii 1 1 0 = nI L) (R : Rep ii jj kd) (ih : ∀ i2 j2 k2, Rep i2 j2 k2 → i2 1 = ii 1 → ∃ h', GB l X 1300 0 0 0 (1560, [some (vR 1 0), some (vR 5 0), some (vR 25 0), some (vI (nI i))], [], (i2, j2, mj_rk k2, 108)) (some (vI 1)) h') : ∃ h', GB l X 1300 0 0 0 (1323, [some (vR 1 0), some (vR 5 0), some (vR 25 0), some (vI (nI i))], [], (ii, jj, mj_rk kd, 108)) (some (vI 1)) h' := by
  obtain ⟨r, i1, j1, k1, i2, j2, k2, hc, hm, R2, e2, e1⟩ := tw_copy (l := l) (X := X) R (ii 1 0 (nI i + 1).toNatClampNeg) (ii 1 0 (nI i + 2).toNatClampNeg) (ii 1 0 (nI i + 3).toNatClampNeg) (ii 1 0 (nI i + 4).toNatClampNeg) (ii 1 0 (nI i + 5).toNatClampNeg)
  obtain ⟨h', G⟩ := ih i2 j2 k2 R2 e2
  have g1 : i1 1 1 0 = nI L := by rw [e1, h1]
  rw [← e1] at hm
  refine ⟨h', ?_⟩
  refine GB.go 1329 rfl (aB1 (vS 1 h1 hL (by omega)) aB0) ?_
  refine GB.go 1334 rfl (aB1 (vS 2 h1 hL (by omega)) aB0) ?_
  refine GB.go 1339 rfl (aB1 (vS 3 h1 hL (by omega)) aB0) ?_
  refine GB.go 1344 rfl (aB1 (vS 4 h1 hL (by omega)) aB0) ?_
  refine GB.go 1349 rfl (aB1 (vS 5 h1 hL (by omega)) aB0) ?_
  refine GB.cal rfl rfl (by decide) hc ?_
  refine GB.go 1358 rfl (aB1 (vS 1 g1 hL (by omega)) aB0) ?_
  refine GB.go 1363 rfl (aB1 (vS 2 g1 hL (by omega)) aB0) ?_
  refine GB.go 1368 rfl (aB1 (vS 3 g1 hL (by omega)) aB0) ?_
  refine GB.go 1373 rfl (aB1 (vS 4 g1 hL (by omega)) aB0) ?_
  refine GB.go 1378 rfl (aB1 (vS 5 g1 hL (by omega)) aB0) ?_
  refine GB.cal rfl rfl (by decide) hm ?_
  exact GB.br rfl rfl (fun _ => G) (fun q => absurd rfl q)
theorem lb_35 (hL : L < 2 ^ 31) (hi : i + 6 ≤ L) (h1 : ii 1 1 0 = nI L) (R : Rep ii jj kd) (ih : ∀ i2 j2 k2, Rep i2 j2 k2 → i2 1 = ii 1 → ∃ h', GB l X 1300 0 0 0 (1560, [some (vR 1 0), some (vR 5 0), some (vR 25 0), some (vI (nI i))], [], (i2, j2, mj_rk k2, 108)) (some (vI 1)) h') : ∃ h', GB l X 1300 0 0 0 (1386, [some (vR 1 0), some (vR 5 0), some (vR 25 0), some (vI (nI i))], [], (ii, jj, mj_rk kd, 108)) (some (vI 1)) h' := by
  obtain ⟨r, i1, j1, k1, i2, j2, k2, hc, hm, R2, e2, e1⟩ := tw_lays (l := l) (X := X) R (ii 1 0 (nI i + 1).toNatClampNeg)
  obtain ⟨h', G⟩ := ih i2 j2 k2 R2 e2
  have g1 : i1 1 1 0 = nI L := by rw [e1, h1]
  rw [← e1] at hm
  refine ⟨h', ?_⟩
  refine GB.go 1392 rfl (aB1 (vS 1 h1 hL (by omega)) aB0) ?_
  refine GB.cal rfl rfl (by decide) hc ?_
  refine GB.go 1401 rfl (aB1 (vS 1 g1 hL (by omega)) aB0) ?_
  refine GB.cal rfl rfl (by decide) hm ?_
  exact GB.br rfl rfl (fun _ => G) (fun q => absurd rfl q)
theorem lb_36 (hL : L < 2 ^ 31) (hi : i + 6 ≤ L) (h1 : ii 1 1 0 = nI L) (R : Rep ii jj kd) (ih : ∀ i2 j2 k2, Rep i2 j2 k2 → i2 1 = ii 1 → ∃ h', GB l X 1300 0 0 0 (1560, [some (vR 1 0), some (vR 5 0), some (vR 25 0), some (vI (nI i))], [], (i2, j2, mj_rk k2, 108)) (some (vI 1)) h') : ∃ h', GB l X 1300 0 0 0 (1409, [some (vR 1 0), some (vR 5 0), some (vR 25 0), some (vI (nI i))], [], (ii, jj, mj_rk kd, 108)) (some (vI 1)) h' := by
  obtain ⟨r, i1, j1, k1, i2, j2, k2, hc, hm, R2, e2, e1⟩ := tw_book (l := l) (X := X) R (ii 1 0 (nI i + 1).toNatClampNeg) (ii 1 0 (nI i + 2).toNatClampNeg)
  obtain ⟨h', G⟩ := ih i2 j2 k2 R2 e2
  have g1 : i1 1 1 0 = nI L := by rw [e1, h1]
  rw [← e1] at hm
  refine ⟨h', ?_⟩
  refine GB.go 1415 rfl (aB1 (vS 1 h1 hL (by omega)) aB0) ?_
  refine GB.go 1420 rfl (aB1 (vS 2 h1 hL (by omega)) aB0) ?_
  refine GB.cal rfl rfl (by decide) hc ?_
  refine GB.go 1429 rfl (aB1 (vS 1 g1 hL (by omega)) aB0) ?_
  refine GB.go 1434 rfl (aB1 (vS 2 g1 hL (by omega)) aB0) ?_
  refine GB.cal rfl rfl (by decide) hm ?_
  exact GB.br rfl rfl (fun _ => G) (fun q => absurd rfl q)
theorem lb_37 (hL : L < 2 ^ 31) (hi : i + 6 ≤ L) (h1 : ii 1 1 0 = nI L) (R : Rep ii jj kd) (ih : ∀ i2 j2 k2, Rep i2 j2 k2 → i2 1 = ii 1 → ∃ h', GB l X 1300 0 0 0 (1560, [some (vR 1 0), some (vR 5 0), some (vR 25 0), some (vI (nI i))], [], (i2, j2, mj_rk k2, 108)) (some (vI 1)) h') : ∃ h', GB l X 1300 0 0 0 (1442, [some (vR 1 0), some (vR 5 0), some (vR 25 0), some (vI (nI i))], [], (ii, jj, mj_rk kd, 108)) (some (vI 1)) h' := by
  obtain ⟨r, i1, j1, k1, i2, j2, k2, hc, hm, R2, e2, e1⟩ := tw_read (l := l) (X := X) R (ii 1 0 (nI i + 1).toNatClampNeg) (ii 1 0 (nI i + 2).toNatClampNeg)
  obtain ⟨h', G⟩ := ih i2 j2 k2 R2 e2
  have g1 : i1 1 1 0 = nI L := by rw [e1, h1]
  rw [← e1] at hm
  refine ⟨h', ?_⟩
  refine GB.go 1448 rfl (aB1 (vS 1 h1 hL (by omega)) aB0) ?_
  refine GB.go 1453 rfl (aB1 (vS 2 h1 hL (by omega)) aB0) ?_
  refine GB.cal rfl rfl (by decide) hc ?_
  refine GB.go 1462 rfl (aB1 (vS 1 g1 hL (by omega)) aB0) ?_
  refine GB.go 1467 rfl (aB1 (vS 2 g1 hL (by omega)) aB0) ?_
  refine GB.cal rfl rfl (by decide) hm ?_
  exact GB.br rfl rfl (fun _ => G) (fun q => absurd rfl q)
theorem lb_38 (hL : L < 2 ^ 31) (hi : i + 6 ≤ L) (h1 : ii 1 1 0 = nI L) (R : Rep ii jj kd) (ih : ∀ i2 j2 k2, Rep i2 j2 k2 → i2 1 = ii 1 → ∃ h', GB l X 1300 0 0 0 (1560, [some (vR 1 0), some (vR 5 0), some (vR 25 0), some (vI (nI i))], [], (i2, j2, mj_rk k2, 108)) (some (vI 1)) h') : ∃ h', GB l X 1300 0 0 0 (1475, [some (vR 1 0), some (vR 5 0), some (vR 25 0), some (vI (nI i))], [], (ii, jj, mj_rk kd, 108)) (some (vI 1)) h' := by
  obtain ⟨r, i1, j1, k1, i2, j2, k2, hc, hm, R2, e2, e1⟩ := tw_image (l := l) (X := X) R 
  obtain ⟨h', G⟩ := ih i2 j2 k2 R2 e2
  have g1 : i1 1 1 0 = nI L := by rw [e1, h1]
  refine ⟨h', ?_⟩
  refine GB.go 9999 rfl aB0 ?_
  refine GB.cal rfl rfl (by decide) hc ?_
  refine GB.go 9999 rfl aB0 ?_
  refine GB.cal rfl rfl (by decide) hm ?_
  exact GB.br rfl rfl (fun _ => G) (fun q => absurd rfl q)
theorem lb_39 (hL : L < 2 ^ 31) (hi : i + 6 ≤ L) (h1 : ii 1 1 0 = nI L) (R : Rep ii jj kd) (ih : ∀ i2 j2 k2, Rep i2 j2 k2 → i2 1 = ii 1 → ∃ h', GB l X 1300 0 0 0 (1560, [some (vR 1 0), some (vR 5 0), some (vR 25 0), some (vI (nI i))], [], (i2, j2, mj_rk k2, 108)) (some (vI 1)) h') : ∃ h', GB l X 1300 0 0 0 (1488, [some (vR 1 0), some (vR 5 0), some (vR 25 0), some (vI (nI i))], [], (ii, jj, mj_rk kd, 108)) (some (vI 1)) h' := by
  obtain ⟨r, i1, j1, k1, i2, j2, k2, hc, hm, R2, e2, e1⟩ := tw_undo (l := l) (X := X) R 
  obtain ⟨h', G⟩ := ih i2 j2 k2 R2 e2
  have g1 : i1 1 1 0 = nI L := by rw [e1, h1]
  refine ⟨h', ?_⟩
  refine GB.go 9999 rfl aB0 ?_
  refine GB.cal rfl rfl (by decide) hc ?_
  refine GB.go 9999 rfl aB0 ?_
  refine GB.cal rfl rfl (by decide) hm ?_
  exact GB.br rfl rfl (fun _ => G) (fun q => absurd rfl q)
theorem lb_40 (hL : L < 2 ^ 31) (hi : i + 6 ≤ L) (h1 : ii 1 1 0 = nI L) (R : Rep ii jj kd) (ih : ∀ i2 j2 k2, Rep i2 j2 k2 → i2 1 = ii 1 → ∃ h', GB l X 1300 0 0 0 (1560, [some (vR 1 0), some (vR 5 0), some (vR 25 0), some (vI (nI i))], [], (i2, j2, mj_rk k2, 108)) (some (vI 1)) h') : ∃ h', GB l X 1300 0 0 0 (1501, [some (vR 1 0), some (vR 5 0), some (vR 25 0), some (vI (nI i))], [], (ii, jj, mj_rk kd, 108)) (some (vI 1)) h' := by
  obtain ⟨r, i1, j1, k1, i2, j2, k2, hc, hm, R2, e2, e1⟩ := tw_tear (l := l) (X := X) R 
  obtain ⟨h', G⟩ := ih i2 j2 k2 R2 e2
  have g1 : i1 1 1 0 = nI L := by rw [e1, h1]
  refine ⟨h', ?_⟩
  refine GB.go 9999 rfl aB0 ?_
  refine GB.cal rfl rfl (by decide) hc ?_
  refine GB.go 9999 rfl aB0 ?_
  refine GB.cal rfl rfl (by decide) hm ?_
  exact GB.br rfl rfl (fun _ => G) (fun q => absurd rfl q)
theorem lb_41 (hL : L < 2 ^ 31) (hi : i + 6 ≤ L) (h1 : ii 1 1 0 = nI L) (R : Rep ii jj kd) (ih : ∀ i2 j2 k2, Rep i2 j2 k2 → i2 1 = ii 1 → ∃ h', GB l X 1300 0 0 0 (1560, [some (vR 1 0), some (vR 5 0), some (vR 25 0), some (vI (nI i))], [], (i2, j2, mj_rk k2, 108)) (some (vI 1)) h') : ∃ h', GB l X 1300 0 0 0 (1514, [some (vR 1 0), some (vR 5 0), some (vR 25 0), some (vI (nI i))], [], (ii, jj, mj_rk kd, 108)) (some (vI 1)) h' := by
  obtain ⟨r, i1, j1, k1, i2, j2, k2, hc, hm, R2, e2, e1⟩ := tw_count (l := l) (X := X) R (ii 1 0 (nI i + 1).toNatClampNeg)
  obtain ⟨h', G⟩ := ih i2 j2 k2 R2 e2
  have g1 : i1 1 1 0 = nI L := by rw [e1, h1]
  rw [← e1] at hm
  refine ⟨h', ?_⟩
  refine GB.go 1520 rfl (aB1 (vS 1 h1 hL (by omega)) aB0) ?_
  refine GB.cal rfl rfl (by decide) hc ?_
  refine GB.go 1529 rfl (aB1 (vS 1 g1 hL (by omega)) aB0) ?_
  refine GB.cal rfl rfl (by decide) hm ?_
  exact GB.br rfl rfl (fun _ => G) (fun q => absurd rfl q)
theorem lb_42 (hL : L < 2 ^ 31) (hi : i + 6 ≤ L) (h1 : ii 1 1 0 = nI L) (R : Rep ii jj kd) (ih : ∀ i2 j2 k2, Rep i2 j2 k2 → i2 1 = ii 1 → ∃ h', GB l X 1300 0 0 0 (1560, [some (vR 1 0), some (vR 5 0), some (vR 25 0), some (vI (nI i))], [], (i2, j2, mj_rk k2, 108)) (some (vI 1)) h') : ∃ h', GB l X 1300 0 0 0 (1537, [some (vR 1 0), some (vR 5 0), some (vR 25 0), some (vI (nI i))], [], (ii, jj, mj_rk kd, 108)) (some (vI 1)) h' := by
  obtain ⟨r, i1, j1, k1, i2, j2, k2, hc, hm, R2, e2, e1⟩ := tw_status (l := l) (X := X) R (ii 1 0 (nI i + 1).toNatClampNeg)
  obtain ⟨h', G⟩ := ih i2 j2 k2 R2 e2
  have g1 : i1 1 1 0 = nI L := by rw [e1, h1]
  rw [← e1] at hm
  refine ⟨h', ?_⟩
  refine GB.go 1543 rfl (aB1 (vS 1 h1 hL (by omega)) aB0) ?_
  refine GB.cal rfl rfl (by decide) hc ?_
  refine GB.go 1552 rfl (aB1 (vS 1 g1 hL (by omega)) aB0) ?_
  refine GB.cal rfl rfl (by decide) hm ?_
  exact GB.br rfl rfl (fun _ => G) (fun q => absurd rfl q)
theorem lb_all (hL : L < 2 ^ 31) (hi : i + 6 ≤ L) (h1 : ii 1 1 0 = nI L) (R : Rep ii jj kd) (ih : ∀ i2 j2 k2, Rep i2 j2 k2 → i2 1 = ii 1 → ∃ h', GB l X 1300 0 0 0 (1560, [some (vR 1 0), some (vR 5 0), some (vR 25 0), some (vI (nI i))], [], (i2, j2, mj_rk k2, 108)) (some (vI 1)) h') (c : Nat) (hc : c < 64) : ∃ h', GB l X 1300 0 0 0 (mj_swt [(0, 220), (1, 243), (2, 286), (3, 319), (4, 352), (5, 385), (6, 418), (7, 451), (8, 474), (9, 507), (10, 550), (11, 573), (12, 606), (13, 639), (14, 672), (15, 705), (16, 738), (17, 771), (18, 794), (19, 817), (20, 860), (21, 893), (22, 926), (23, 949), (24, 982), (25, 1025), (26, 1058), (27, 1091), (28, 1114), (29, 1147), (30, 1180), (31, 1193), (32, 1206), (33, 1249), (34, 1323), (35, 1386), (36, 1409), (37, 1442), (38, 1475), (39, 1488), (40, 1501), (41, 1514), (42, 1537)] 1560 (nI c), [some (vR 1 0), some (vR 5 0), some (vR 25 0), some (vI (nI i))], [], (ii, jj, mj_rk kd, 108)) (some (vI 1)) h' := by
  rcases Nat.lt_or_ge c 43 with h | h
  · have key : ∀ c, c < 43 → mj_swt [(0, 220), (1, 243), (2, 286), (3, 319), (4, 352), (5, 385), (6, 418), (7, 451), (8, 474), (9, 507), (10, 550), (11, 573), (12, 606), (13, 639), (14, 672), (15, 705), (16, 738), (17, 771), (18, 794), (19, 817), (20, 860), (21, 893), (22, 926), (23, 949), (24, 982), (25, 1025), (26, 1058), (27, 1091), (28, 1114), (29, 1147), (30, 1180), (31, 1193), (32, 1206), (33, 1249), (34, 1323), (35, 1386), (36, 1409), (37, 1442), (38, 1475), (39, 1488), (40, 1501), (41, 1514), (42, 1537)] 1560 (nI c) = [220, 243, 286, 319, 352, 385, 418, 451, 474, 507, 550, 573, 606, 639, 672, 705, 738, 771, 794, 817, 860, 893, 926, 949, 982, 1025, 1058, 1091, 1114, 1147, 1180, 1193, 1206, 1249, 1323, 1386, 1409, 1442, 1475, 1488, 1501, 1514, 1537].getD c 0 := by decide +kernel
    rw [key c h]
    match c, h with
    | 0, _ => exact lb_0 hL hi h1 R ih
    | 1, _ => exact lb_1 hL hi h1 R ih
    | 2, _ => exact lb_2 hL hi h1 R ih
    | 3, _ => exact lb_3 hL hi h1 R ih
    | 4, _ => exact lb_4 hL hi h1 R ih
    | 5, _ => exact lb_5 hL hi h1 R ih
    | 6, _ => exact lb_6 hL hi h1 R ih
    | 7, _ => exact lb_7 hL hi h1 R ih
    | 8, _ => exact lb_8 hL hi h1 R ih
    | 9, _ => exact lb_9 hL hi h1 R ih
    | 10, _ => exact lb_10 hL hi h1 R ih
    | 11, _ => exact lb_11 hL hi h1 R ih
    | 12, _ => exact lb_12 hL hi h1 R ih
    | 13, _ => exact lb_13 hL hi h1 R ih
    | 14, _ => exact lb_14 hL hi h1 R ih
    | 15, _ => exact lb_15 hL hi h1 R ih
    | 16, _ => exact lb_16 hL hi h1 R ih
    | 17, _ => exact lb_17 hL hi h1 R ih
    | 18, _ => exact lb_18 hL hi h1 R ih
    | 19, _ => exact lb_19 hL hi h1 R ih
    | 20, _ => exact lb_20 hL hi h1 R ih
    | 21, _ => exact lb_21 hL hi h1 R ih
    | 22, _ => exact lb_22 hL hi h1 R ih
    | 23, _ => exact lb_23 hL hi h1 R ih
    | 24, _ => exact lb_24 hL hi h1 R ih
    | 25, _ => exact lb_25 hL hi h1 R ih
    | 26, _ => exact lb_26 hL hi h1 R ih
    | 27, _ => exact lb_27 hL hi h1 R ih
    | 28, _ => exact lb_28 hL hi h1 R ih
    | 29, _ => exact lb_29 hL hi h1 R ih
    | 30, _ => exact lb_30 hL hi h1 R ih
    | 31, _ => exact lb_31 hL hi h1 R ih
    | 32, _ => exact lb_32 hL hi h1 R ih
    | 33, _ => exact lb_33 hL hi h1 R ih
    | 34, _ => exact lb_34 hL hi h1 R ih
    | 35, _ => exact lb_35 hL hi h1 R ih
    | 36, _ => exact lb_36 hL hi h1 R ih
    | 37, _ => exact lb_37 hL hi h1 R ih
    | 38, _ => exact lb_38 hL hi h1 R ih
    | 39, _ => exact lb_39 hL hi h1 R ih
    | 40, _ => exact lb_40 hL hi h1 R ih
    | 41, _ => exact lb_41 hL hi h1 R ih
    | 42, _ => exact lb_42 hL hi h1 R ih
    | c + 43, h => exact absurd h (by omega)
  · have key : ∀ c, c < 64 → 43 ≤ c → mj_swt [(0, 220), (1, 243), (2, 286), (3, 319), (4, 352), (5, 385), (6, 418), (7, 451), (8, 474), (9, 507), (10, 550), (11, 573), (12, 606), (13, 639), (14, 672), (15, 705), (16, 738), (17, 771), (18, 794), (19, 817), (20, 860), (21, 893), (22, 926), (23, 949), (24, 982), (25, 1025), (26, 1058), (27, 1091), (28, 1114), (29, 1147), (30, 1180), (31, 1193), (32, 1206), (33, 1249), (34, 1323), (35, 1386), (36, 1409), (37, 1442), (38, 1475), (39, 1488), (40, 1501), (41, 1514), (42, 1537)] 1560 (nI c) = 1560 := by decide +kernel
    rw [key c hc h]
    exact ih ii jj kd R rfl
/-- the loop, from any turn on -/
theorem lb_loop (hN : L ≤ 3072) : ∀ (F i : Nat) (ii : Nat → Nat → Nat → Int32) (jj : Nat → Nat → Nat → Int64) (kd : Nat → Nat), L ≤ i + F → i < L + 6 → ii 1 1 0 = nI L → Rep ii jj kd → ∃ h', GB l X 1300 0 0 0 (18, [some (vR 1 0), some (vR 5 0), some (vR 25 0), some (vI (nI i))], [], (ii, jj, mj_rk kd, 108)) (some (vI 1)) h' := by
  have hL : L < 2 ^ 31 := by omega
  intro F
  induction F with
  | zero =>
    intro i ii jj kd hF hi6 h1 R
    refine ⟨(ii, jj, mj_rk kd, 108), ?_⟩
    refine GB.go 9999 rfl aB0 ?_
    rw [h1]
    refine GB.br rfl rfl (fun c => ?_) (fun c => ?_)
    · refine GB.go 9999 rfl aB0 ?_
      exact GB.ret rfl rfl (aB1 (by decide) aB0)
    · exact absurd (lb_exit hN hi6 (by omega)) c
  | succ F ih =>
    intro i ii jj kd hF hi6 h1 R
    by_cases hi : i + 6 ≤ L
    · obtain ⟨x, hx, ex⟩ := pk_andE (ii 1 0 (nI i).toNatClampNeg) (m := 63) 6 (by decide)
      obtain ⟨h', G⟩ := lb_all (l := l) (X := X) (i := i) hL hi h1 R (fun i2 j2 k2 R2 e2 => by
        obtain ⟨h', G⟩ := ih (i + 6) i2 j2 k2 (by omega) (by omega) (by rw [e2]; exact h1) R2
        refine ⟨h', ?_⟩
        refine GB.go 18 rfl aB0 ?_
        rw [show nI i + 6 = nI (i + 6) from nI_add i 6]
        exact G) x hx
      refine ⟨h', ?_⟩
      refine GB.go 9999 rfl aB0 ?_
      rw [h1]
      refine GB.br rfl rfl (fun c => ?_) (fun c => ?_)
      · exact absurd c (lb_stay hL hi)
      · refine GB.go 30 rfl (aB1 (by rw [h1, nI_clamp hL]; exact mn_vin (by omega) hL) aB0) ?_
        refine GB.go 9999 rfl aB0 ?_
        rw [ex]
        refine GB.sw rfl rfl ?_
        exact G
    · refine ⟨(ii, jj, mj_rk kd, 108), ?_⟩
      refine GB.go 9999 rfl aB0 ?_
      rw [h1]
      refine GB.br rfl rfl (fun c => ?_) (fun c => ?_)
      · refine GB.go 9999 rfl aB0 ?_
        exact GB.ret rfl rfl (aB1 (by decide) aB0)
      · exact absurd (lb_exit hN hi6 hi) c
end LB
