/-! THE CLASS'S CALLS: hats -/
/-- a finding counted; a finding's answer -/
def fnd (ii : Nat → Nat → Nat → Int32) (k : Nat) : Nat → Nat → Nat → Int32 := up3 ii 10 0 k (ii 10 0 k + 1)
def fA (k : Nat) : Int32 := -1000000001 - nI k
theorem in_ok {i n : Nat} {N : Int32} (hi : i < n) (hn : n < 2 ^ 31) (h0 : N = nI n) : ¬ nI i < 0 ∧ ¬ N ≤ nI i := ⟨nI_pos (by omega), by rw [h0]; exact nI_ge hi hn⟩
theorem uT_ok {a b : Nat} (h : a ≤ b) (hb : b < 2 ^ 31) : uT (nI a) (nI b) = true := decide_eq_true ⟨nI_pos (by omega), nI_nlt h hb⟩
theorem uT_of {v : Int32} {b : Nat} (hb : b < 2 ^ 31) (h : uT v (nI b) = true) : ∃ a, a ≤ b ∧ v = nI a := by
  obtain ⟨h1, h2⟩ := of_decide_eq_true h
  obtain ⟨a, ha, rfl⟩ := nI_of h1
  exact ⟨a, Nat.le_of_not_lt (fun h3 => h2 (nI_lt h3 ha)), rfl⟩
theorem in_of {v N : Int32} {n : Nat} (hn : n < 2 ^ 31) (h0 : N = nI n) (h : ¬ v < 0 ∧ ¬ N ≤ v) : ∃ a, a < n ∧ v = nI a := by
  obtain ⟨a, ha, rfl⟩ := nI_of h.1
  exact ⟨a, Nat.lt_of_not_le (fun h3 => h.2 (by rw [h0]; exact nI_le h3 ha)), rfl⟩
section MP
variable {l : Launch} {X : FX} {ii : Nat → Nat → Nat → Int32} {jj : Nat → Nat → Nat → Int64} {kd : Nat → Nat}
theorem c_told0 (v t : Int32) (h : ¬ ((¬ v < 0 ∧ ¬ ii 17 0 2 ≤ v) ∧ uT t 11 = true)) : SK l X 4 76 [vR 5 0, vI v, vI t] (ii, jj, mj_rk kd, 108) (some (vI (fA 0))) (fnd ii 0, jj, mj_rk kd, 108) := by
  refine SK.of (by decide) (by decide) rfl ?_
  have tail : GB l X 4 0 0 76 (15, [some (vR 5 0), some (vI v), some (vI t)], [], (ii, jj, mj_rk kd, 108)) (some (vI (fA 0))) (fnd ii 0, jj, mj_rk kd, 108) := by
    refine GB.go 9999 rfl aB0 ?_
    refine GB.cal rfl rfl (by decide) (k_finding 0 (by decide)) ?_
    exact GB.ret rfl rfl aB0
  refine GB.go 9999 rfl aB0 ?_
  refine GB.cal rfl rfl (by decide) (k_isHat v) ?_
  refine GB.br rfl rfl (fun c => ?_) (fun c => ?_)
  · exact tail
  · refine GB.go 9999 rfl aB0 ?_
    refine GB.cal rfl rfl (by decide) (k_isThought _ t) ?_
    refine GB.br rfl rfl (fun c2 => ?_) (fun c2 => ?_)
    · exact tail
    · exact absurd ⟨bd_t c, bI_t c2⟩ h
theorem c_told (i t n : Nat) (hi : i < n) (hn : n ≤ 8) (h0 : ii 17 0 2 = nI n) (ht : t < 12) : SK l X 4 76 [vR 5 0, vI (nI i), vI (nI t)] (ii, jj, mj_rk kd, 108) (some (vI (ii 21 i t))) (ii, jj, mj_rk kd, 108) := by
  refine SK.of (by decide) (by decide) rfl ?_
  refine GB.go 9999 rfl aB0 ?_
  refine GB.cal rfl rfl (by decide) (k_isHat _) ?_
  refine GB.br rfl rfl (fun c => ?_) (fun c => ?_)
  · exact absurd (in_ok hi (by omega) h0) (bd_f c)
  · refine GB.go 9999 rfl aB0 ?_
    refine GB.cal rfl rfl (by decide) (k_isThought _ _) ?_
    refine GB.br rfl rfl (fun c2 => ?_) (fun c2 => ?_)
    · exact absurd (uT_ok (show t ≤ 11 by omega) (by decide)) (by rw [show uT (nI t) (nI 11) = false from bI_f c2]; decide)
    · refine GB.go 30 rfl (aB1 (mn_vin (show i < 8 by omega) (by decide)) aB0) ?_
      rw [nI_clamp (show i < 2 ^ 31 by omega)]
      refine GB.go 9999 rfl (aB1 (mn_vin ht (by decide)) aB0) ?_
      rw [nI_clamp (show t < 2 ^ 31 by omega)]
      exact GB.ret rfl rfl aB0
theorem c_fresh0 (v t x : Int32) (h : ¬ ((¬ v < 0 ∧ ¬ ii 17 0 2 ≤ v) ∧ uT t 11 = true ∧ uT x 9 = true)) : SK l X 4 74 [vR 5 0, vI v, vI t, vI x] (ii, jj, mj_rk kd, 108) (some (vI (fA 0))) (fnd ii 0, jj, mj_rk kd, 108) := by
  refine SK.of (by decide) (by decide) rfl ?_
  have tail : GB l X 4 0 0 74 (24, [some (vR 5 0), some (vI v), some (vI t), some (vI x), none], [], (ii, jj, mj_rk kd, 108)) (some (vI (fA 0))) (fnd ii 0, jj, mj_rk kd, 108) := by
    refine GB.go 9999 rfl aB0 ?_
    refine GB.cal rfl rfl (by decide) (k_finding 0 (by decide)) ?_
    exact GB.ret rfl rfl aB0
  refine GB.go 9999 rfl aB0 ?_
  refine GB.cal rfl rfl (by decide) (k_isHat v) ?_
  refine GB.br rfl rfl (fun c => ?_) (fun c => ?_)
  · exact tail
  · refine GB.go 9999 rfl aB0 ?_
    refine GB.cal rfl rfl (by decide) (k_isThought _ t) ?_
    refine GB.br rfl rfl (fun c2 => ?_) (fun c2 => ?_)
    · exact tail
    · refine GB.go 9999 rfl aB0 ?_
      refine GB.cal rfl rfl (by decide) (k_upto _ x 9) ?_
      refine GB.br rfl rfl (fun c3 => ?_) (fun c3 => ?_)
      · exact tail
      · exact absurd ⟨bd_t c, bI_t c2, bI_t c3⟩ h
theorem c_fresh (i t n : Nat) (x : Int32) (hi : i < n) (hn : n ≤ 8) (h0 : ii 17 0 2 = nI n) (ht : t < 12) (hx : uT x 9 = true) : SK l X 4 74 [vR 5 0, vI (nI i), vI (nI t), vI x] (ii, jj, mj_rk kd, 108) (some (vI (ii 21 i t))) (up3 ii 21 i t x, jj, mj_rk kd, 108) := by
  refine SK.of (by decide) (by decide) rfl ?_
  refine GB.go 9999 rfl aB0 ?_
  refine GB.cal rfl rfl (by decide) (k_isHat _) ?_
  refine GB.br rfl rfl (fun c => ?_) (fun c => ?_)
  · exact absurd (in_ok hi (by omega) h0) (bd_f c)
  · refine GB.go 9999 rfl aB0 ?_
    refine GB.cal rfl rfl (by decide) (k_isThought _ _) ?_
    refine GB.br rfl rfl (fun c2 => ?_) (fun c2 => ?_)
    · exact absurd (uT_ok (show t ≤ 11 by omega) (by decide)) (by rw [show uT (nI t) (nI 11) = false from bI_f c2]; decide)
    · refine GB.go 9999 rfl aB0 ?_
      refine GB.cal rfl rfl (by decide) (k_upto _ x 9) ?_
      refine GB.br rfl rfl (fun c3 => ?_) (fun c3 => ?_)
      · exact absurd hx (by rw [bI_f c3]; decide)
      · refine GB.go 39 rfl (aB1 (mn_vin (show i < 8 by omega) (by decide)) aB0) ?_
        rw [nI_clamp (show i < 2 ^ 31 by omega)]
        refine GB.go 44 rfl (aB1 (mn_vin ht (by decide)) aB0) ?_
        rw [nI_clamp (show t < 2 ^ 31 by omega)]
        refine GB.go 55 rfl (aB1 (mn_vin (show i < 8 by omega) (by decide)) aB0) ?_
        rw [nI_clamp (show i < 2 ^ 31 by omega)]
        refine GB.go 9999 rfl (aB1 (mn_vin ht (by decide)) aB0) ?_
        rw [nI_clamp (show t < 2 ^ 31 by omega)]
        exact GB.ret rfl rfl aB0
end MP
