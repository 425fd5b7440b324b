/-! THE CLASS'S CALLS: best, kind -/
/-- the most, and the first that has it -/
def bsM (F : Nat → Int32) : Nat → Int32
  | 0 => -1
  | n + 1 => if F n ≤ bsM F n then bsM F n else F n
def bsI (F : Nat → Int32) : Nat → Int32
  | 0 => 0
  | n + 1 => if F n ≤ bsM F n then bsI F n else nI n
def lsV (F : Nat → Int32) (k : Nat) : Option MV := match k with
  | 0 => none
  | k + 1 => some (vI (F k))
section MP
variable {l : Launch} {X : FX} {ii : Nat → Nat → Nat → Int32} {jj : Nat → Nat → Nat → Int64} {kd : Nat → Nat}
/-- how many are had behind a hat -/
def hvN (ii : Nat → Nat → Nat → Int32) (c i : Nat) (has : Int32) : Int32 := bC (has ||| tkO c (hF (ii 21 i) 1 12) (hF (ii 21 i) 3 12) has)
theorem c_best0 (v : Int32) (h : ¬ (¬ v < 0 ∧ ¬ ii 17 0 3 ≤ v)) : SK l X 8 95 [vR 5 0, vI v] (ii, jj, mj_rk kd, 108) (some (vI (fA 0))) (fnd ii 0, jj, mj_rk kd, 108) := by
  refine SK.of (by decide) (by decide) rfl ?_
  refine GB.go 9999 rfl aB0 ?_
  refine GB.cal rfl rfl (by decide) (k_isHead v) ?_
  refine GB.br rfl rfl (fun c => ?_) (fun c => ?_)
  · refine GB.go 9999 rfl aB0 ?_
    refine GB.cal rfl rfl (by decide) (k_finding 0 (by decide)) ?_
    exact GB.ret rfl rfl aB0
  · exact absurd (bd_t c) h
theorem c_best1 (v : Int32) (h : ¬ v < 0 ∧ ¬ ii 17 0 3 ≤ v) (h0 : ii 17 0 2 = 0) : SK l X 8 95 [vR 5 0, vI v] (ii, jj, mj_rk kd, 108) (some (vI (fA 3))) (fnd ii 3, jj, mj_rk kd, 108) := by
  refine SK.of (by decide) (by decide) rfl ?_
  refine GB.go 9999 rfl aB0 ?_
  refine GB.cal rfl rfl (by decide) (k_isHead v) ?_
  refine GB.br rfl rfl (fun c => ?_) (fun c => ?_)
  · exact absurd h (bd_f c)
  · refine GB.go 9999 rfl aB0 ?_
    refine GB.br rfl rfl (fun c2 => ?_) (fun c2 => ?_)
    · refine GB.go 9999 rfl aB0 ?_
      refine GB.cal rfl rfl (by decide) (k_finding 3 (by decide)) ?_
      exact GB.ret rfl rfl aB0
    · exact absurd h0 c2
theorem c_best (d m n : Nat) (hd : d < m) (hm : m ≤ 6) (h1 : ii 17 0 3 = nI m) (hn0 : 0 < n) (hn : n ≤ 8) (h0 : ii 17 0 2 = nI n) (hk6 : ∀ k, k < n → kd k < 6) : SK l X 8 95 [vR 5 0, vI (nI d)] (ii, jj, mj_rk kd, 108) (some (vI (bsI (fun k => hvN ii (kd k) k (ii 22 d 0)) n))) (ii, jj, mj_rk kd, 108) := by
  refine SK.of (by decide) (by decide) rfl ?_
  refine GB.go 9999 rfl aB0 ?_
  refine GB.cal rfl rfl (by decide) (k_isHead _) ?_
  refine GB.br rfl rfl (fun c => ?_) (fun c => ?_)
  · exact absurd (in_ok hd (by omega) h1) (bd_f c)
  · refine GB.go 9999 rfl aB0 ?_
    refine GB.br rfl rfl (fun c2 => ?_) (fun c2 => ?_)
    · exact absurd (h0.symm.trans c2) (nI_ne0 hn0 (by omega))
    · refine GB.go 39 rfl (aB1 (mn_vin (show d < 6 by omega) (by decide)) aB0) ?_
      rw [nI_clamp (show d < 2 ^ 31 by omega)]
      refine GB.go 51 rfl aB0 ?_
      refine GB.upto n (fun k => (51, [some (vR 5 0), some (vI (nI d)), some (vI (ii 22 d 0)), some (vI (bsI (fun k => hvN ii (kd k) k (ii 22 d 0)) k)), some (vI (bsM (fun k => hvN ii (kd k) k (ii 22 d 0)) k)), some (vI (nI k)), lsV (fun k => hvN ii (kd k) k (ii 22 d 0)) k], [], (ii, jj, mj_rk kd, 108))) (fun k hk ih => ?_) ?_ n 0 (by omega)
      · rw [nI_succ] at ih
        refine GB.go 9999 rfl aB0 ?_
        rw [h0]
        refine GB.br rfl rfl (fun c3 => ?_) (fun c3 => ?_)
        · exact absurd c3 (nI_ge hk (by omega))
        · refine GB.go 74 rfl (aB1 (mn_vin (show k < 8 by omega) (by decide)) aB0) ?_
          rw [nI_clamp (show k < 2 ^ 31 by omega)]
          refine GB.go 9999 rfl aB0 ?_
          refine GB.cal rfl rfl (by decide) (k_takenBy k (hk6 k hk) _) ?_
          refine GB.go 9999 rfl aB0 ?_
          refine GB.cal rfl rfl (by decide) (k_bitc _ _) ?_
          refine GB.go 9999 rfl aB0 ?_
          refine GB.br rfl rfl (fun c4 => ?_) (fun c4 => ?_)
          · rw [show bsI (fun k => hvN ii (kd k) k (ii 22 d 0)) (k + 1) = bsI (fun k => hvN ii (kd k) k (ii 22 d 0)) k from if_pos c4, show bsM (fun k => hvN ii (kd k) k (ii 22 d 0)) (k + 1) = bsM (fun k => hvN ii (kd k) k (ii 22 d 0)) k from if_pos c4] at ih
            refine GB.go 51 rfl aB0 ?_
            exact ih
          · rw [show bsI (fun k => hvN ii (kd k) k (ii 22 d 0)) (k + 1) = nI k from if_neg c4, show bsM (fun k => hvN ii (kd k) k (ii 22 d 0)) (k + 1) = hvN ii (kd k) k (ii 22 d 0) from if_neg c4] at ih
            refine GB.go 51 rfl aB0 ?_
            exact ih
      · refine GB.go 9999 rfl aB0 ?_
        rw [h0]
        refine GB.br rfl rfl (fun c3 => ?_) (fun c3 => ?_)
        · refine GB.go 9999 rfl aB0 ?_
          exact GB.ret rfl rfl aB0
        · exact absurd (Int32.le_refl _) c3
end MP
