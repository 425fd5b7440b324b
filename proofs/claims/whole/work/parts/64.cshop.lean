/-! THE CLASS'S SHOPS: one becomes as another; image, undo, feed -/
/-- the first n hats of one shop become as those of another: A and B tell their numbers -/
def hbI (A B : Nat → Nat) (ii : Nat → Nat → Nat → Int32) : Nat → Nat → Nat → Nat → Int32
  | 0 => ii
  | n + 1 => tI (hbI A B ii n) (A n) (B n)
def hbK (A B : Nat → Nat) (kd : Nat → Nat) : Nat → Nat → Nat
  | 0 => kd
  | n + 1 => kU (hbK A B kd n) (A n) (hbK A B kd n (B n))
def dbI (A B : Nat → Nat) (ii : Nat → Nat → Nat → Int32) : Nat → Nat → Nat → Nat → Int32
  | 0 => ii
  | n + 1 => up3 (up3 (up3 (dbI A B ii n) 22 (A n) 0 (dbI A B ii n 22 (B n) 0)) 22 (A n) 1 (dbI A B ii n 22 (B n) 1)) 22 (A n) 2 (dbI A B ii n 22 (B n) 2)
/-- a shop's four numbers -/
def cbI (T S : Nat) (ii : Nat → Nat → Nat → Int32) : Nat → Nat → Nat → Int32 := up3 (up3 (up3 (up3 ii 17 T 2 (ii 17 S 2)) 17 T 3 (ii 17 S 3)) 17 T 4 (ii 17 S 4)) 17 T 5 (ii 17 S 5)
section SB
variable {ii : Nat → Nat → Nat → Int32} {kd A B : Nat → Nat}
theorem tI_tag {j i a : Nat} (h0 : a ≠ 20) (h1 : a ≠ 21) : tI ii j i a = ii a := by
  unfold tI
  rw [wA_tg h1, up3_tag h0]
theorem hbI_tag {a : Nat} (h0 : a ≠ 20) (h1 : a ≠ 21) : ∀ n, hbI A B ii n a = ii a
  | 0 => rfl
  | n + 1 => (tI_tag h0 h1).trans (hbI_tag h0 h1 n)
theorem dbI_tag {a : Nat} (h0 : a ≠ 22) : ∀ n, dbI A B ii n a = ii a
  | 0 => rfl
  | n + 1 => by
    unfold dbI
    rw [up3_tag h0, up3_tag h0, up3_tag h0, dbI_tag h0 n]
theorem hbK_ne {x : Nat} : ∀ n, (∀ k, k < n → x ≠ A k) → hbK A B kd n x = kd x
  | 0, _ => rfl
  | n + 1, h => (kU_ne (h n (Nat.lt_succ_self n))).trans (hbK_ne n (fun k hk => h k (Nat.lt_succ_of_lt hk)))
end SB
section MP
variable {l : Launch} {X : FX} {ii : Nat → Nat → Nat → Int32} {jj : Nat → Nat → Nat → Int64} {kd : Nat → Nat}
theorem k_shop10 {n m : Nat} (hn : n ≤ 8) (hm : m ≤ 6) (h0 : ii 17 0 2 = nI n) (h1 : ii 17 0 3 = nI m) (hk : ∀ k, k < n → kd k < 6) : SK l X 4 46 [vR 17 1, vR 17 0] (ii, jj, mj_rk kd, 108) none (dbI (fun k => (k + 6)) (fun k => k) (hbI (fun k => (k + 8)) (fun k => k) (cbI 1 0 ii) n) m, jj, mj_rk (hbK (fun k => (k + 8)) (fun k => k) kd n), 108) := by
  have e2 : cbI 1 0 ii 17 1 2 = nI n := by
    unfold cbI
    rw [up3_pl (by decide), up3_pl (by decide), up3_pl (by decide), up3_rd, h0]
  have e3 : cbI 1 0 ii 17 1 3 = nI m := by
    unfold cbI
    rw [up3_pl (by decide), up3_pl (by decide), up3_rd, h1]
  refine SK.of (by decide) (by decide) rfl ?_
  refine GB.go 8 rfl aB0 ?_
  refine GB.go 13 rfl aB0 ?_
  rw [up3_num (by decide)]
  refine GB.go 21 rfl aB0 ?_
  rw [up3_num (by decide), up3_num (by decide)]
  refine GB.go 29 rfl aB0 ?_
  rw [up3_num (by decide), up3_num (by decide), up3_num (by decide)]
  refine GB.go 34 rfl aB0 ?_
  refine GB.eqv (s1 := (34, [some (vR 17 1), some (vR 17 0), some (vI (nI 0))], [], (hbI (fun k => (k + 8)) (fun k => k) (cbI 1 0 ii) 0, jj, mj_rk (hbK (fun k => (k + 8)) (fun k => k) kd 0), 108))) rfl ?_
  refine GB.upto n (fun k => (34, [some (vR 17 1), some (vR 17 0), some (vI (nI k))], [], (hbI (fun k => (k + 8)) (fun k => k) (cbI 1 0 ii) k, jj, mj_rk (hbK (fun k => (k + 8)) (fun k => k) kd k), 108))) (fun k hk2 ih => ?_) ?_ n 0 (by omega)
  · rw [nI_succ k] at ih
    refine GB.go 9999 rfl aB0 ?_
    rw [hbI_tag (by decide) (by decide), e2]
    refine GB.br rfl rfl (fun c => ?_) (fun c => ?_)
    · exact absurd c (nI_ge hk2 (by omega))
    · refine GB.go 48 rfl (aB1 (mn_vin (show k < 8 by omega) (by decide)) aB0) ?_
      rw [nI_clamp (show k < 2 ^ 31 by omega)]
      refine GB.go 54 rfl (aB1 (mn_vin (show k < 8 by omega) (by decide)) aB0) ?_
      rw [nI_clamp (show k < 2 ^ 31 by omega)]
      refine GB.cal rfl rfl (by decide) (k_become (k + 8) k (by rw [hbK_ne k (fun x hx => ?_)]; exact hk k hk2; show k ≠ (x + 8); omega)) ?_
      refine GB.go 34 rfl aB0 ?_
      exact ih
  · refine GB.go 9999 rfl aB0 ?_
    rw [hbI_tag (by decide) (by decide), e2]
    refine GB.br rfl rfl (fun c => ?_) (fun c => ?_)
    · refine GB.go 65 rfl aB0 ?_
      refine GB.eqv (s1 := (65, [some (vR 17 1), some (vR 17 0), some (vI (nI 0))], [], (dbI (fun k => (k + 6)) (fun k => k) (hbI (fun k => (k + 8)) (fun k => k) (cbI 1 0 ii) n) 0, jj, mj_rk (hbK (fun k => (k + 8)) (fun k => k) kd n), 108))) rfl ?_
      refine GB.upto m (fun k => (65, [some (vR 17 1), some (vR 17 0), some (vI (nI k))], [], (dbI (fun k => (k + 6)) (fun k => k) (hbI (fun k => (k + 8)) (fun k => k) (cbI 1 0 ii) n) k, jj, mj_rk (hbK (fun k => (k + 8)) (fun k => k) kd n), 108))) (fun k hk2 ih => ?_) ?_ m 0 (by omega)
      · rw [nI_succ k] at ih
        refine GB.go 9999 rfl aB0 ?_
        rw [dbI_tag (by decide), hbI_tag (by decide) (by decide), e3]
        refine GB.br rfl rfl (fun c2 => ?_) (fun c2 => ?_)
        · exact absurd c2 (nI_ge hk2 (by omega))
        · refine GB.go 79 rfl (aB1 (mn_vin (show k < 6 by omega) (by decide)) aB0) ?_
          rw [nI_clamp (show k < 2 ^ 31 by omega)]
          refine GB.go 85 rfl (aB1 (mn_vin (show k < 6 by omega) (by decide)) aB0) ?_
          rw [nI_clamp (show k < 2 ^ 31 by omega)]
          refine GB.cal rfl rfl (by decide) (k_headBecome (k + 6) k (by omega)) ?_
          refine GB.go 65 rfl aB0 ?_
          exact ih
      · refine GB.go 9999 rfl aB0 ?_
        rw [dbI_tag (by decide), hbI_tag (by decide) (by decide), e3]
        refine GB.br rfl rfl (fun c2 => ?_) (fun c2 => ?_)
        · exact GB.ret rfl rfl aB0
        · exact absurd (Int32.le_refl _) c2
    · exact absurd (Int32.le_refl _) c
theorem k_shop01 {n m : Nat} (hn : n ≤ 8) (hm : m ≤ 6) (h0 : ii 17 1 2 = nI n) (h1 : ii 17 1 3 = nI m) (hk : ∀ k, k < n → kd (k + 8) < 6) : SK l X 4 46 [vR 17 0, vR 17 1] (ii, jj, mj_rk kd, 108) none (dbI (fun k => k) (fun k => (k + 6)) (hbI (fun k => k) (fun k => (k + 8)) (cbI 0 1 ii) n) m, jj, mj_rk (hbK (fun k => k) (fun k => (k + 8)) kd n), 108) := by
  have e2 : cbI 0 1 ii 17 0 2 = nI n := by
    unfold cbI
    rw [up3_pl (by decide), up3_pl (by decide), up3_pl (by decide), up3_rd, h0]
  have e3 : cbI 0 1 ii 17 0 3 = nI m := by
    unfold cbI
    rw [up3_pl (by decide), up3_pl (by decide), up3_rd, h1]
  refine SK.of (by decide) (by decide) rfl ?_
  refine GB.go 8 rfl aB0 ?_
  refine GB.go 13 rfl aB0 ?_
  rw [up3_num (by decide)]
  refine GB.go 21 rfl aB0 ?_
  rw [up3_num (by decide), up3_num (by decide)]
  refine GB.go 29 rfl aB0 ?_
  rw [up3_num (by decide), up3_num (by decide), up3_num (by decide)]
  refine GB.go 34 rfl aB0 ?_
  refine GB.eqv (s1 := (34, [some (vR 17 0), some (vR 17 1), some (vI (nI 0))], [], (hbI (fun k => k) (fun k => (k + 8)) (cbI 0 1 ii) 0, jj, mj_rk (hbK (fun k => k) (fun k => (k + 8)) kd 0), 108))) rfl ?_
  refine GB.upto n (fun k => (34, [some (vR 17 0), some (vR 17 1), some (vI (nI k))], [], (hbI (fun k => k) (fun k => (k + 8)) (cbI 0 1 ii) k, jj, mj_rk (hbK (fun k => k) (fun k => (k + 8)) kd k), 108))) (fun k hk2 ih => ?_) ?_ n 0 (by omega)
  · rw [nI_succ k] at ih
    refine GB.go 9999 rfl aB0 ?_
    rw [hbI_tag (by decide) (by decide), e2]
    refine GB.br rfl rfl (fun c => ?_) (fun c => ?_)
    · exact absurd c (nI_ge hk2 (by omega))
    · refine GB.go 48 rfl (aB1 (mn_vin (show k < 8 by omega) (by decide)) aB0) ?_
      rw [nI_clamp (show k < 2 ^ 31 by omega)]
      refine GB.go 54 rfl (aB1 (mn_vin (show k < 8 by omega) (by decide)) aB0) ?_
      rw [nI_clamp (show k < 2 ^ 31 by omega)]
      refine GB.cal rfl rfl (by decide) (k_become k (k + 8) (by rw [hbK_ne k (fun x hx => ?_)]; exact hk k hk2; show (k + 8) ≠ x; omega)) ?_
      refine GB.go 34 rfl aB0 ?_
      exact ih
  · refine GB.go 9999 rfl aB0 ?_
    rw [hbI_tag (by decide) (by decide), e2]
    refine GB.br rfl rfl (fun c => ?_) (fun c => ?_)
    · refine GB.go 65 rfl aB0 ?_
      refine GB.eqv (s1 := (65, [some (vR 17 0), some (vR 17 1), some (vI (nI 0))], [], (dbI (fun k => k) (fun k => (k + 6)) (hbI (fun k => k) (fun k => (k + 8)) (cbI 0 1 ii) n) 0, jj, mj_rk (hbK (fun k => k) (fun k => (k + 8)) kd n), 108))) rfl ?_
      refine GB.upto m (fun k => (65, [some (vR 17 0), some (vR 17 1), some (vI (nI k))], [], (dbI (fun k => k) (fun k => (k + 6)) (hbI (fun k => k) (fun k => (k + 8)) (cbI 0 1 ii) n) k, jj, mj_rk (hbK (fun k => k) (fun k => (k + 8)) kd n), 108))) (fun k hk2 ih => ?_) ?_ m 0 (by omega)
      · rw [nI_succ k] at ih
        refine GB.go 9999 rfl aB0 ?_
        rw [dbI_tag (by decide), hbI_tag (by decide) (by decide), e3]
        refine GB.br rfl rfl (fun c2 => ?_) (fun c2 => ?_)
        · exact absurd c2 (nI_ge hk2 (by omega))
        · refine GB.go 79 rfl (aB1 (mn_vin (show k < 6 by omega) (by decide)) aB0) ?_
          rw [nI_clamp (show k < 2 ^ 31 by omega)]
          refine GB.go 85 rfl (aB1 (mn_vin (show k < 6 by omega) (by decide)) aB0) ?_
          rw [nI_clamp (show k < 2 ^ 31 by omega)]
          refine GB.cal rfl rfl (by decide) (k_headBecome k (k + 6) (by omega)) ?_
          refine GB.go 65 rfl aB0 ?_
          exact ih
      · refine GB.go 9999 rfl aB0 ?_
        rw [dbI_tag (by decide), hbI_tag (by decide) (by decide), e3]
        refine GB.br rfl rfl (fun c2 => ?_) (fun c2 => ?_)
        · exact GB.ret rfl rfl aB0
        · exact absurd (Int32.le_refl _) c2
    · exact absurd (Int32.le_refl _) c
theorem k_shop20 {n m : Nat} (hn : n ≤ 8) (hm : m ≤ 6) (h0 : ii 17 0 2 = nI n) (h1 : ii 17 0 3 = nI m) (hk : ∀ k, k < n → kd k < 6) : SK l X 4 46 [vR 17 2, vR 17 0] (ii, jj, mj_rk kd, 108) none (dbI (fun k => (k + 12)) (fun k => k) (hbI (fun k => (k + 16)) (fun k => k) (cbI 2 0 ii) n) m, jj, mj_rk (hbK (fun k => (k + 16)) (fun k => k) kd n), 108) := by
  have e2 : cbI 2 0 ii 17 2 2 = nI n := by
    unfold cbI
    rw [up3_pl (by decide), up3_pl (by decide), up3_pl (by decide), up3_rd, h0]
  have e3 : cbI 2 0 ii 17 2 3 = nI m := by
    unfold cbI
    rw [up3_pl (by decide), up3_pl (by decide), up3_rd, h1]
  refine SK.of (by decide) (by decide) rfl ?_
  refine GB.go 8 rfl aB0 ?_
  refine GB.go 13 rfl aB0 ?_
  rw [up3_num (by decide)]
  refine GB.go 21 rfl aB0 ?_
  rw [up3_num (by decide), up3_num (by decide)]
  refine GB.go 29 rfl aB0 ?_
  rw [up3_num (by decide), up3_num (by decide), up3_num (by decide)]
  refine GB.go 34 rfl aB0 ?_
  refine GB.eqv (s1 := (34, [some (vR 17 2), some (vR 17 0), some (vI (nI 0))], [], (hbI (fun k => (k + 16)) (fun k => k) (cbI 2 0 ii) 0, jj, mj_rk (hbK (fun k => (k + 16)) (fun k => k) kd 0), 108))) rfl ?_
  refine GB.upto n (fun k => (34, [some (vR 17 2), some (vR 17 0), some (vI (nI k))], [], (hbI (fun k => (k + 16)) (fun k => k) (cbI 2 0 ii) k, jj, mj_rk (hbK (fun k => (k + 16)) (fun k => k) kd k), 108))) (fun k hk2 ih => ?_) ?_ n 0 (by omega)
  · rw [nI_succ k] at ih
    refine GB.go 9999 rfl aB0 ?_
    rw [hbI_tag (by decide) (by decide), e2]
    refine GB.br rfl rfl (fun c => ?_) (fun c => ?_)
    · exact absurd c (nI_ge hk2 (by omega))
    · refine GB.go 48 rfl (aB1 (mn_vin (show k < 8 by omega) (by decide)) aB0) ?_
      rw [nI_clamp (show k < 2 ^ 31 by omega)]
      refine GB.go 54 rfl (aB1 (mn_vin (show k < 8 by omega) (by decide)) aB0) ?_
      rw [nI_clamp (show k < 2 ^ 31 by omega)]
      refine GB.cal rfl rfl (by decide) (k_become (k + 16) k (by rw [hbK_ne k (fun x hx => ?_)]; exact hk k hk2; show k ≠ (x + 16); omega)) ?_
      refine GB.go 34 rfl aB0 ?_
      exact ih
  · refine GB.go 9999 rfl aB0 ?_
    rw [hbI_tag (by decide) (by decide), e2]
    refine GB.br rfl rfl (fun c => ?_) (fun c => ?_)
    · refine GB.go 65 rfl aB0 ?_
      refine GB.eqv (s1 := (65, [some (vR 17 2), some (vR 17 0), some (vI (nI 0))], [], (dbI (fun k => (k + 12)) (fun k => k) (hbI (fun k => (k + 16)) (fun k => k) (cbI 2 0 ii) n) 0, jj, mj_rk (hbK (fun k => (k + 16)) (fun k => k) kd n), 108))) rfl ?_
      refine GB.upto m (fun k => (65, [some (vR 17 2), some (vR 17 0), some (vI (nI k))], [], (dbI (fun k => (k + 12)) (fun k => k) (hbI (fun k => (k + 16)) (fun k => k) (cbI 2 0 ii) n) k, jj, mj_rk (hbK (fun k => (k + 16)) (fun k => k) kd n), 108))) (fun k hk2 ih => ?_) ?_ m 0 (by omega)
      · rw [nI_succ k] at ih
        refine GB.go 9999 rfl aB0 ?_
        rw [dbI_tag (by decide), hbI_tag (by decide) (by decide), e3]
        refine GB.br rfl rfl (fun c2 => ?_) (fun c2 => ?_)
        · exact absurd c2 (nI_ge hk2 (by omega))
        · refine GB.go 79 rfl (aB1 (mn_vin (show k < 6 by omega) (by decide)) aB0) ?_
          rw [nI_clamp (show k < 2 ^ 31 by omega)]
          refine GB.go 85 rfl (aB1 (mn_vin (show k < 6 by omega) (by decide)) aB0) ?_
          rw [nI_clamp (show k < 2 ^ 31 by omega)]
          refine GB.cal rfl rfl (by decide) (k_headBecome (k + 12) k (by omega)) ?_
          refine GB.go 65 rfl aB0 ?_
          exact ih
      · refine GB.go 9999 rfl aB0 ?_
        rw [dbI_tag (by decide), hbI_tag (by decide) (by decide), e3]
        refine GB.br rfl rfl (fun c2 => ?_) (fun c2 => ?_)
        · exact GB.ret rfl rfl aB0
        · exact absurd (Int32.le_refl _) c2
    · exact absurd (Int32.le_refl _) c
theorem k_shop02 {n m : Nat} (hn : n ≤ 8) (hm : m ≤ 6) (h0 : ii 17 2 2 = nI n) (h1 : ii 17 2 3 = nI m) (hk : ∀ k, k < n → kd (k + 16) < 6) : SK l X 4 46 [vR 17 0, vR 17 2] (ii, jj, mj_rk kd, 108) none (dbI (fun k => k) (fun k => (k + 12)) (hbI (fun k => k) (fun k => (k + 16)) (cbI 0 2 ii) n) m, jj, mj_rk (hbK (fun k => k) (fun k => (k + 16)) kd n), 108) := by
  have e2 : cbI 0 2 ii 17 0 2 = nI n := by
    unfold cbI
    rw [up3_pl (by decide), up3_pl (by decide), up3_pl (by decide), up3_rd, h0]
  have e3 : cbI 0 2 ii 17 0 3 = nI m := by
    unfold cbI
    rw [up3_pl (by decide), up3_pl (by decide), up3_rd, h1]
  refine SK.of (by decide) (by decide) rfl ?_
  refine GB.go 8 rfl aB0 ?_
  refine GB.go 13 rfl aB0 ?_
  rw [up3_num (by decide)]
  refine GB.go 21 rfl aB0 ?_
  rw [up3_num (by decide), up3_num (by decide)]
  refine GB.go 29 rfl aB0 ?_
  rw [up3_num (by decide), up3_num (by decide), up3_num (by decide)]
  refine GB.go 34 rfl aB0 ?_
  refine GB.eqv (s1 := (34, [some (vR 17 0), some (vR 17 2), some (vI (nI 0))], [], (hbI (fun k => k) (fun k => (k + 16)) (cbI 0 2 ii) 0, jj, mj_rk (hbK (fun k => k) (fun k => (k + 16)) kd 0), 108))) rfl ?_
  refine GB.upto n (fun k => (34, [some (vR 17 0), some (vR 17 2), some (vI (nI k))], [], (hbI (fun k => k) (fun k => (k + 16)) (cbI 0 2 ii) k, jj, mj_rk (hbK (fun k => k) (fun k => (k + 16)) kd k), 108))) (fun k hk2 ih => ?_) ?_ n 0 (by omega)
  · rw [nI_succ k] at ih
    refine GB.go 9999 rfl aB0 ?_
    rw [hbI_tag (by decide) (by decide), e2]
    refine GB.br rfl rfl (fun c => ?_) (fun c => ?_)
    · exact absurd c (nI_ge hk2 (by omega))
    · refine GB.go 48 rfl (aB1 (mn_vin (show k < 8 by omega) (by decide)) aB0) ?_
      rw [nI_clamp (show k < 2 ^ 31 by omega)]
      refine GB.go 54 rfl (aB1 (mn_vin (show k < 8 by omega) (by decide)) aB0) ?_
      rw [nI_clamp (show k < 2 ^ 31 by omega)]
      refine GB.cal rfl rfl (by decide) (k_become k (k + 16) (by rw [hbK_ne k (fun x hx => ?_)]; exact hk k hk2; show (k + 16) ≠ x; omega)) ?_
      refine GB.go 34 rfl aB0 ?_
      exact ih
  · refine GB.go 9999 rfl aB0 ?_
    rw [hbI_tag (by decide) (by decide), e2]
    refine GB.br rfl rfl (fun c => ?_) (fun c => ?_)
    · refine GB.go 65 rfl aB0 ?_
      refine GB.eqv (s1 := (65, [some (vR 17 0), some (vR 17 2), some (vI (nI 0))], [], (dbI (fun k => k) (fun k => (k + 12)) (hbI (fun k => k) (fun k => (k + 16)) (cbI 0 2 ii) n) 0, jj, mj_rk (hbK (fun k => k) (fun k => (k + 16)) kd n), 108))) rfl ?_
      refine GB.upto m (fun k => (65, [some (vR 17 0), some (vR 17 2), some (vI (nI k))], [], (dbI (fun k => k) (fun k => (k + 12)) (hbI (fun k => k) (fun k => (k + 16)) (cbI 0 2 ii) n) k, jj, mj_rk (hbK (fun k => k) (fun k => (k + 16)) kd n), 108))) (fun k hk2 ih => ?_) ?_ m 0 (by omega)
      · rw [nI_succ k] at ih
        refine GB.go 9999 rfl aB0 ?_
        rw [dbI_tag (by decide), hbI_tag (by decide) (by decide), e3]
        refine GB.br rfl rfl (fun c2 => ?_) (fun c2 => ?_)
        · exact absurd c2 (nI_ge hk2 (by omega))
        · refine GB.go 79 rfl (aB1 (mn_vin (show k < 6 by omega) (by decide)) aB0) ?_
          rw [nI_clamp (show k < 2 ^ 31 by omega)]
          refine GB.go 85 rfl (aB1 (mn_vin (show k < 6 by omega) (by decide)) aB0) ?_
          rw [nI_clamp (show k < 2 ^ 31 by omega)]
          refine GB.cal rfl rfl (by decide) (k_headBecome k (k + 12) (by omega)) ?_
          refine GB.go 65 rfl aB0 ?_
          exact ih
      · refine GB.go 9999 rfl aB0 ?_
        rw [dbI_tag (by decide), hbI_tag (by decide) (by decide), e3]
        refine GB.br rfl rfl (fun c2 => ?_) (fun c2 => ?_)
        · exact GB.ret rfl rfl aB0
        · exact absurd (Int32.le_refl _) c2
    · exact absurd (Int32.le_refl _) c
theorem c_image {n m : Nat} (hn : n ≤ 8) (hm : m ≤ 6) (h0 : ii 17 0 2 = nI n) (h1 : ii 17 0 3 = nI m) (hk : ∀ k, k < n → kd k < 6) : SK l X 8 111 [vR 5 0] (ii, jj, mj_rk kd, 108) (some (vI 1)) (up3 (dbI (fun k => (k + 6)) (fun k => k) (hbI (fun k => (k + 8)) (fun k => k) (cbI 1 0 ii) n) m) 5 0 9 1, jj, mj_rk (hbK (fun k => (k + 8)) (fun k => k) kd n), 108) := by
  refine SK.of (by decide) (by decide) rfl ?_
  refine GB.go 9999 rfl aB0 ?_
  refine GB.cal rfl rfl (by decide) (k_shop10 hn hm h0 h1 hk) ?_
  refine GB.go 9999 rfl (aB1 (by decide) aB0) ?_
  exact GB.ret rfl rfl aB0
theorem c_undo0 (h : ii 5 0 9 = 0) : SK l X 8 112 [vR 5 0] (ii, jj, mj_rk kd, 108) (some (vI (fA 3))) (fnd ii 3, jj, mj_rk kd, 108) := by
  refine SK.of (by decide) (by decide) rfl ?_
  refine GB.go 9999 rfl aB0 ?_
  refine GB.br rfl rfl (fun c => ?_) (fun c => ?_)
  · refine GB.go 9999 rfl aB0 ?_
    refine GB.cal rfl rfl (by decide) (k_finding 3 (by decide)) ?_
    exact GB.ret rfl rfl aB0
  · exact absurd h c
theorem c_undo {n m : Nat} (h : ¬ ii 5 0 9 = 0) (hn : n ≤ 8) (hm : m ≤ 6) (h0 : ii 17 1 2 = nI n) (h1 : ii 17 1 3 = nI m) (hk : ∀ k, k < n → kd (k + 8) < 6) : SK l X 8 112 [vR 5 0] (ii, jj, mj_rk kd, 108) (some (vI (nI n))) (dbI (fun k => k) (fun k => (k + 6)) (hbI (fun k => k) (fun k => (k + 8)) (cbI 0 1 ii) n) m, jj, mj_rk (hbK (fun k => k) (fun k => (k + 8)) kd n), 108) := by
  refine SK.of (by decide) (by decide) rfl ?_
  refine GB.go 9999 rfl aB0 ?_
  refine GB.br rfl rfl (fun c => ?_) (fun c => ?_)
  · exact absurd c h
  · refine GB.go 9999 rfl aB0 ?_
    refine GB.cal rfl rfl (by decide) (k_shop01 hn hm h0 h1 hk) ?_
    refine GB.go 9999 rfl aB0 ?_
    rw [dbI_tag (by decide), hbI_tag (by decide) (by decide), show cbI 0 1 ii 17 0 2 = nI n by
      unfold cbI
      rw [up3_pl (by decide), up3_pl (by decide), up3_pl (by decide), up3_rd, h0]]
    exact GB.ret rfl rfl aB0
theorem k_add (b : Int32) (z : Nat) (hz : ii 7 0 1 = nI z) (hl : z < 120) : SK l X 1 62 [vR 7 0, vI b] (ii, jj, mj_rk kd, 108) none (up3 (up3 ii 8 0 z b) 7 0 1 (nI (z + 1)), jj, mj_rk kd, 108) := by
  refine SK.of (by decide) (by decide) rfl ?_
  refine GB.go 9999 rfl aB0 ?_
  rw [hz]
  refine GB.br rfl rfl (fun c => ?_) (fun c => ?_)
  · exact absurd c (nI_ge hl (by decide))
  · refine GB.go 17 rfl aB0 ?_
    rw [hz]
    refine GB.go 19 rfl (aB1 (mn_vin (show z < 120 by omega) (by decide)) aB0) ?_
    rw [nI_clamp (show z < 2 ^ 31 by omega)]
    refine GB.go 24 rfl aB0 ?_
    rw [up3_tag (by decide), hz]
    refine GB.go 26 rfl aB0 ?_
    rw [nI_1]
    refine GB.go 9999 rfl aB0 ?_
    exact GB.ret rfl rfl aB0
theorem c_feed0 (b v : Int32) (h : v < 1 ∨ 4 < v) : SK l X 5 102 [vR 5 0, vI b, vI v] (ii, jj, mj_rk kd, 108) (some (vI (fA 0))) (fnd ii 0, jj, mj_rk kd, 108) := by
  refine SK.of (by decide) (by decide) rfl ?_
  have tail : GB l X 5 0 0 102 (10, [some (vR 5 0), some (vI b), some (vI v), none], [], (ii, jj, mj_rk kd, 108)) (some (vI (fA 0))) (fnd ii 0, jj, mj_rk kd, 108) := by
    refine GB.go 9999 rfl aB0 ?_
    refine GB.cal rfl rfl (by decide) (k_finding 0 (by decide)) ?_
    exact GB.ret rfl rfl aB0
  refine GB.go 9999 rfl aB0 ?_
  refine GB.br rfl rfl (fun c => ?_) (fun c => ?_)
  · exact tail
  · refine GB.go 9999 rfl aB0 ?_
    refine GB.br rfl rfl (fun c2 => ?_) (fun c2 => ?_)
    · exact absurd h (by rintro (h | h); exact c h; exact absurd h (Int32.not_lt.mpr c2))
    · exact tail
theorem c_feed1 (b v : Int32) (h : ¬ v < 1 ∧ ¬ 4 < v) (hf : ¬ ii 7 0 1 + v ≤ 120) : SK l X 5 102 [vR 5 0, vI b, vI v] (ii, jj, mj_rk kd, 108) (some (vI (fA 1))) (fnd ii 1, jj, mj_rk kd, 108) := by
  refine SK.of (by decide) (by decide) rfl ?_
  refine GB.go 9999 rfl aB0 ?_
  refine GB.br rfl rfl (fun c => ?_) (fun c => ?_)
  · exact absurd c h.1
  · refine GB.go 9999 rfl aB0 ?_
    refine GB.br rfl rfl (fun c2 => ?_) (fun c2 => ?_)
    · refine GB.go 9999 rfl aB0 ?_
      refine GB.br rfl rfl (fun c3 => ?_) (fun c3 => ?_)
      · exact absurd c3 hf
      · refine GB.go 9999 rfl aB0 ?_
        refine GB.cal rfl rfl (by decide) (k_finding 1 (by decide)) ?_
        exact GB.ret rfl rfl aB0
    · exact absurd (Int32.not_lt.mp h.2) c2
/-- a byte of a number, as the class has it -/
def byC (b : Int32) (k : Nat) : Int32 := (b.toUInt32 >>> ((8 * nI k).toUInt32 &&& Int32.toUInt32 31)).toInt32 &&& 255
def fdC (b : Int32) (ii : Nat → Nat → Nat → Int32) : Nat → Nat → Nat → Nat → Nat → Int32
  | 0, _ => ii
  | k + 1, z => fdC b (up3 (up3 ii 8 0 z (byC b k)) 7 0 1 (nI (z + 1))) k (z + 1)
theorem c_feedL (b v : Int32) : ∀ k z ii, k ≤ 4 → z + k ≤ 120 → ii 7 0 1 = nI z → GB l X 5 0 0 102 (40, [some (vR 5 0), some (vI b), some (vI v), some (vI (nI k + -1))], [], (ii, jj, mj_rk kd, 108)) (some (vI (nI (z + k)))) (fdC b ii k z, jj, mj_rk kd, 108)
  | 0, z, ii, _, _, hz => by
    refine GB.go 9999 rfl aB0 ?_
    refine GB.br rfl rfl (fun c => ?_) (fun c => ?_)
    · refine GB.go 9999 rfl aB0 ?_
      rw [hz]
      exact GB.ret rfl rfl aB0
    · exact absurd (by decide) c
  | k + 1, z, ii, hk, hl, hz => by
    have ih := c_feedL b v k (z + 1) (up3 (up3 ii 8 0 z (byC b k)) 7 0 1 (nI (z + 1))) (by omega) (by omega) up3_rd
    rw [show z + 1 + k = z + (k + 1) by omega] at ih
    rw [pk_m1]
    refine GB.go 9999 rfl aB0 ?_
    refine GB.br rfl rfl (fun c => ?_) (fun c => ?_)
    · exact absurd c (nI_pos (by omega))
    · refine GB.go 9999 rfl aB0 ?_
      refine GB.cal rfl rfl (by decide) (k_add _ z hz (by omega)) ?_
      refine GB.go 40 rfl aB0 ?_
      exact ih
theorem c_feed (b : Int32) (k z : Nat) (h4 : k + 1 ≤ 4) (hz : ii 7 0 1 = nI z) (hl : z + (k + 1) ≤ 120) : SK l X 5 102 [vR 5 0, vI b, vI (nI (k + 1))] (ii, jj, mj_rk kd, 108) (some (vI (nI (z + (k + 1))))) (fdC b ii (k + 1) z, jj, mj_rk kd, 108) := by
  have L := c_feedL (l := l) (X := X) (jj := jj) (kd := kd) b (nI (k + 1)) (k + 1) z ii h4 hl hz
  rw [pk_m1] at L
  refine SK.of (by decide) (by decide) rfl ?_
  refine GB.go 9999 rfl aB0 ?_
  refine GB.br rfl rfl (fun c => ?_) (fun c => ?_)
  · exact absurd c (nI_nlt (show 1 ≤ k + 1 by omega) (by omega))
  · refine GB.go 9999 rfl aB0 ?_
    refine GB.br rfl rfl (fun c2 => ?_) (fun c2 => ?_)
    · refine GB.go 9999 rfl aB0 ?_
      rw [hz, nI_add]
      refine GB.br rfl rfl (fun c3 => ?_) (fun c3 => ?_)
      · refine GB.go 40 rfl aB0 ?_
        rw [nI_pred]
        exact L
      · exact absurd (nI_le hl (by decide)) c3
    · exact absurd (nI_le h4 (by decide)) c2
end MP
