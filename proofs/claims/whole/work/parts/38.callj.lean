/-! THE CLASS'S CALLS: worn, before -/
def oB (P : Nat → Bool) : Nat → Int32
  | 0 => 0
  | n + 1 => cond (P n) (oB P n ||| bT n) (oB P n)
section MP
variable {l : Launch} {X : FX} {ii : Nat → Nat → Nat → Int32} {jj : Nat → Nat → Nat → Int64} {kd : Nat → Nat}
theorem c_worn0 (v : Int32) (h : ¬ (¬ v < 0 ∧ ¬ ii 17 0 2 ≤ v)) : SK l X 8 100 [vR 5 0, vI v] (ii, jj, mj_rk kd, 108) (some (vI (fA 0))) (fnd ii 0, jj, mj_rk kd, 108) := by
  refine SK.of (by decide) (by decide) rfl ?_
  refine GB.go 9999 rfl aB0 ?_
  refine GB.cal rfl rfl (by decide) (k_isHat v) ?_
  refine GB.br rfl rfl (fun c => ?_) (fun c => ?_)
  · refine GB.go 9999 rfl aB0 ?_
    refine GB.cal rfl rfl (by decide) (k_finding 0 (by decide)) ?_
    exact GB.ret rfl rfl aB0
  · exact absurd (bd_t c) h
/-- a hat can come from a head -/
def wnP (ii : Nat → Nat → Nat → Int32) (c i d : Nat) : Bool := decide (hF (ii 21 i) (kpO c (ii 22 d 0)) 12 &&& ii 22 d 0 = ii 22 d 0)
theorem c_worn (i n m : Nat) (hi : i < n) (hn : n ≤ 8) (h0 : ii 17 0 2 = nI n) (hm : m ≤ 6) (h1 : ii 17 0 3 = nI m) (hk : kd i < 6) : SK l X 8 100 [vR 5 0, vI (nI i)] (ii, jj, mj_rk kd, 108) (some (vI (oB (wnP ii (kd i) i) m))) (ii, jj, mj_rk kd, 108) := by
  refine SK.of (by decide) (by decide) rfl ?_
  refine GB.go 9999 rfl aB0 ?_
  refine GB.cal rfl rfl (by decide) (k_isHat _) ?_
  refine GB.br rfl rfl (fun c => ?_) (fun c => ?_)
  · exact absurd (in_ok hi (by omega) h0) (bd_f c)
  · refine GB.go 18 rfl aB0 ?_
    refine GB.upto m (fun k => (18, [some (vR 5 0), some (vI (nI i)), some (vI (oB (wnP ii (kd i) i) k)), some (vI (nI k))], [], (ii, jj, mj_rk kd, 108))) (fun k hk2 ih => ?_) ?_ m 0 (by omega)
    · rw [nI_succ] at ih
      refine GB.go 9999 rfl aB0 ?_
      rw [h1]
      refine GB.br rfl rfl (fun c2 => ?_) (fun c2 => ?_)
      · exact absurd c2 (nI_ge hk2 (by omega))
      · refine GB.go 38 rfl (aB1 (mn_vin (show i < 8 by omega) (by decide)) aB0) ?_
        rw [nI_clamp (show i < 2 ^ 31 by omega)]
        refine GB.go 47 rfl (aB1 (mn_vin (show k < 6 by omega) (by decide)) aB0) ?_
        rw [nI_clamp (show k < 2 ^ 31 by omega)]
        refine GB.go 9999 rfl aB0 ?_
        refine GB.cal rfl rfl (by decide) (k_canCome i hk _) ?_
        refine GB.br rfl rfl (fun c3 => ?_) (fun c3 => ?_)
        · rw [show oB (wnP ii (kd i) i) (k + 1) = oB (wnP ii (kd i) i) k by rw [oB, show wnP ii (kd i) i k = false from bI_f c3]; rfl] at ih
          refine GB.go 18 rfl aB0 ?_
          exact ih
        · rw [show oB (wnP ii (kd i) i) (k + 1) = oB (wnP ii (kd i) i) k ||| bT k by rw [oB, show wnP ii (kd i) i k = true from bI_t c3]; rfl] at ih
          refine GB.go 18 rfl aB0 ?_
          exact ih
    · refine GB.go 9999 rfl aB0 ?_
      rw [h1]
      refine GB.br rfl rfl (fun c2 => ?_) (fun c2 => ?_)
      · refine GB.go 9999 rfl aB0 ?_
        exact GB.ret rfl rfl aB0
      · exact absurd (Int32.le_refl _) c2
theorem c_before0 (v t : Int32) (h : ¬ ((¬ v < 0 ∧ ¬ ii 17 0 2 ≤ v) ∧ uT t 4095 = true)) : SK l X 8 101 [vR 5 0, vI v, vI t] (ii, jj, mj_rk kd, 108) (some (vI (fA 0))) (fnd ii 0, jj, mj_rk kd, 108) := by
  refine SK.of (by decide) (by decide) rfl ?_
  have tail : GB l X 8 0 0 101 (15, [some (vR 5 0), some (vI v), some (vI t), none, none, none, none], [], (ii, jj, mj_rk kd, 108)) (some (vI (fA 0))) (fnd ii 0, jj, mj_rk kd, 108) := by
    refine GB.go 9999 rfl aB0 ?_
    refine GB.cal rfl rfl (by decide) (k_finding 0 (by decide)) ?_
    exact GB.ret rfl rfl aB0
  refine GB.go 9999 rfl aB0 ?_
  refine GB.cal rfl rfl (by decide) (k_isHat v) ?_
  refine GB.br rfl rfl (fun c => ?_) (fun c => ?_)
  · exact tail
  · refine GB.go 9999 rfl aB0 ?_
    refine GB.cal rfl rfl (by decide) (k_isSet _ t) ?_
    refine GB.br rfl rfl (fun c2 => ?_) (fun c2 => ?_)
    · exact tail
    · exact absurd ⟨bd_t c, bI_t c2⟩ h
def bfP (c : Nat) (a b set : Int32) (j : Nat) : Bool := decide (tkO c a b (nI j) = set)
def pi3 (ii : Nat → Nat → Nat → Int32) (o : Option Nat) : Nat → Nat → Nat → Int32 := match o with
  | some _ => ii
  | none => fnd ii 3
theorem c_beforeL (v t a b : Int32) (i : Nat) (hk : kd i < 6) : ∀ n k, k + n = 4096 → GB l X 8 0 0 101 (47, [some (vR 5 0), some (vI v), some (vI t), some (vR 20 i), some (vI a), some (vI b), some (vI (nI k))], [], (ii, jj, mj_rk kd, 108)) (some (vI (anK (fstK (bfP (kd i) a b t) n k)))) (pi3 ii (fstK (bfP (kd i) a b t) n k), jj, mj_rk kd, 108)
  | 0, k, h => by
    cases (show k = 4096 by omega)
    refine GB.go 9999 rfl aB0 ?_
    refine GB.br rfl rfl (fun c => ?_) (fun c => ?_)
    · refine GB.go 9999 rfl aB0 ?_
      refine GB.cal rfl rfl (by decide) (k_finding 3 (by decide)) ?_
      exact GB.ret rfl rfl aB0
    · exact absurd (by decide) c
  | n + 1, k, h => by
    refine GB.go 9999 rfl aB0 ?_
    refine GB.br rfl rfl (fun c => ?_) (fun c => ?_)
    · exact absurd c (nI_nlt (show k ≤ 4095 by omega) (by decide))
    · refine GB.go 9999 rfl aB0 ?_
      refine GB.tak hk rfl (by decide) rfl ?_
      refine GB.go 9999 rfl aB0 ?_
      refine GB.br rfl rfl (fun c2 => ?_) (fun c2 => ?_)
      · rw [show fstK (bfP (kd i) a b t) (n + 1) k = some k by rw [fstK, show bfP (kd i) a b t k = true from decide_eq_true c2]; rfl]
        refine GB.go 9999 rfl aB0 ?_
        exact GB.ret rfl rfl aB0
      · rw [show fstK (bfP (kd i) a b t) (n + 1) k = fstK (bfP (kd i) a b t) n (k + 1) by rw [fstK, show bfP (kd i) a b t k = false from decide_eq_false c2]; rfl]
        have ih := c_beforeL v t a b i hk n (k + 1) (by omega)
        rw [nI_succ] at ih
        refine GB.go 47 rfl aB0 ?_
        exact ih
theorem c_before (i n : Nat) (t : Int32) (hi : i < n) (hn : n ≤ 8) (h0 : ii 17 0 2 = nI n) (ht : uT t 4095 = true) (hk : kd i < 6) : SK l X 8 101 [vR 5 0, vI (nI i), vI t] (ii, jj, mj_rk kd, 108) (some (vI (anK (fstK (bfP (kd i) (hF (ii 21 i) 1 12) (hF (ii 21 i) 3 12) t) 4096 0)))) (pi3 ii (fstK (bfP (kd i) (hF (ii 21 i) 1 12) (hF (ii 21 i) 3 12) t) 4096 0), jj, mj_rk kd, 108) := by
  refine SK.of (by decide) (by decide) rfl ?_
  refine GB.go 9999 rfl aB0 ?_
  refine GB.cal rfl rfl (by decide) (k_isHat _) ?_
  refine GB.br rfl rfl (fun c => ?_) (fun c => ?_)
  · exact absurd (in_ok hi (by omega) h0) (bd_f c)
  · refine GB.go 9999 rfl aB0 ?_
    refine GB.cal rfl rfl (by decide) (k_isSet _ t) ?_
    refine GB.br rfl rfl (fun c2 => ?_) (fun c2 => ?_)
    · exact absurd ht (by rw [bI_f c2]; decide)
    · refine GB.go 30 rfl (aB1 (mn_vin (show i < 8 by omega) (by decide)) aB0) ?_
      rw [nI_clamp (show i < 2 ^ 31 by omega)]
      refine GB.go 9999 rfl aB0 ?_
      refine GB.cal rfl rfl (by decide) (k_held i) ?_
      refine GB.go 9999 rfl aB0 ?_
      refine GB.cal rfl rfl (by decide) (k_heldFrom i 3) ?_
      refine GB.go 47 rfl aB0 ?_
      exact c_beforeL _ t _ _ i hk 4096 0 rfl
end MP
