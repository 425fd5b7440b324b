/-! THE MODEL'S CALLS: hats, heads -/
def fnm (ii : Nat → Nat → Nat → Int32) (k : Nat) : Nat → Nat → Nat → Int32 := up3 ii 29 0 k (ii 29 0 k + 1)
section MQ
variable {l : Launch} {X : FX} {ii : Nat → Nat → Nat → Int32} {jj : Nat → Nat → Nat → Int64} {kd : Nat → Nat}
theorem b0_of {b : Bool} (h : b = true) : ¬ bI b = 0 := by rw [h]; decide
theorem m_hat0 (k : Int32) (h : ¬ uT k 5 = true) : SK l X 4 153 [vR 25 0, vI k] (ii, jj, mj_rk kd, 108) (some (vI (fA 0))) (fnm ii 0, jj, mj_rk kd, 108) := by
  refine SK.of (by decide) (by decide) rfl ?_
  refine GB.go 9999 rfl aB0 ?_
  refine GB.cal rfl rfl (by decide) (m_up _ k 5) ?_
  refine GB.br rfl rfl (fun c => ?_) (fun c => ?_)
  · refine GB.go 9999 rfl aB0 ?_
    refine GB.cal rfl rfl (by decide) (m_finds 0 (by decide)) ?_
    exact GB.ret rfl rfl aB0
  · exact absurd (bI_t c) h
theorem m_hat1 (k : Int32) (h : uT k 5 = true) (h0 : ii 26 0 2 = nI 8) : SK l X 4 153 [vR 25 0, vI k] (ii, jj, mj_rk kd, 108) (some (vI (fA 1))) (fnm ii 1, jj, mj_rk kd, 108) := by
  refine SK.of (by decide) (by decide) rfl ?_
  refine GB.go 9999 rfl aB0 ?_
  refine GB.cal rfl rfl (by decide) (m_up _ k 5) ?_
  refine GB.br rfl rfl (fun c => ?_) (fun c => ?_)
  · exact absurd c (b0_of h)
  · refine GB.go 9999 rfl (aB1 (by decide) aB0) ?_
    rw [show ii 26 0 (Int32.toNatClampNeg 2) = nI 8 from h0]
    refine GB.br rfl rfl (fun c2 => ?_) (fun c2 => ?_)
    · refine GB.go 9999 rfl aB0 ?_
      refine GB.cal rfl rfl (by decide) (m_finds 1 (by decide)) ?_
      refine GB.go 9999 rfl aB0 ?_
      exact GB.ret rfl rfl aB0
    · exact absurd rfl c2
theorem m_hat (k : Int32) (n : Nat) (h : uT k 5 = true) (hn : n < 8) (h0 : ii 26 0 2 = nI n) : SK l X 4 153 [vR 25 0, vI k] (ii, jj, mj_rk kd, 108) (some (vI (nI n))) (nHm ii n k 5 0, jj, mj_rk kd, 108) := by
  refine SK.of (by decide) (by decide) rfl ?_
  refine GB.go 9999 rfl aB0 ?_
  refine GB.cal rfl rfl (by decide) (m_up _ k 5) ?_
  refine GB.br rfl rfl (fun c => ?_) (fun c => ?_)
  · exact absurd c (b0_of h)
  · refine GB.go 9999 rfl (aB1 (by decide) aB0) ?_
    rw [show ii 26 0 (Int32.toNatClampNeg 2) = nI n from h0]
    refine GB.br rfl rfl (fun c2 => ?_) (fun c2 => ?_)
    · exact absurd ((nI_eq (b := 8) (by omega) (by decide)).mp c2) (by omega)
    · refine GB.go 9999 rfl aB0 ?_
      refine GB.cal rfl rfl (by decide) (m_comes n hn h0 k 5 (sT_nI (a := 0) (by decide))) ?_
      exact GB.ret rfl rfl aB0
theorem m_fresh0 (v t x : Int32) {n : Nat} (hn : n ≤ 8) (h0 : ii 26 0 2 = nI n) (h : ¬ ((¬ v < 0 ∧ ¬ nI n ≤ v) ∧ uT t 11 = true ∧ uT x 9 = true)) : SK l X 4 154 [vR 25 0, vI v, vI t, vI x] (ii, jj, mj_rk kd, 108) (some (vI (fA 0))) (fnm ii 0, jj, mj_rk kd, 108) := by
  refine SK.of (by decide) (by decide) rfl ?_
  have tail : GB l X 4 0 0 154 (39, [some (vR 25 0), some (vI v), some (vI t), some (vI x)], [], (ii, jj, mj_rk kd, 108)) (some (vI (fA 0))) (fnm ii 0, jj, mj_rk kd, 108) := by
    refine GB.go 9999 rfl aB0 ?_
    refine GB.cal rfl rfl (by decide) (m_finds 0 (by decide)) ?_
    exact GB.ret rfl rfl aB0
  refine GB.go 9999 rfl aB0 ?_
  refine GB.cal rfl rfl (by decide) (m_isHat v hn h0) ?_
  refine GB.br rfl rfl (fun c => ?_) (fun c => ?_)
  · exact tail
  · refine GB.go 9999 rfl aB0 ?_
    refine GB.cal rfl rfl (by decide) (m_isThought _ t) ?_
    refine GB.br rfl rfl (fun c2 => ?_) (fun c2 => ?_)
    · exact tail
    · refine GB.go 9999 rfl aB0 ?_
      refine GB.cal rfl rfl (by decide) (m_up _ x 9) ?_
      refine GB.br rfl rfl (fun c3 => ?_) (fun c3 => ?_)
      · exact tail
      · exact absurd ⟨bd_t c, bI_t c2, bI_t c3⟩ h
theorem m_fresh (i t n : Nat) (x : Int32) (hi : i < n) (hn : n ≤ 8) (h0 : ii 26 0 2 = nI n) (ht : t < 12) (hx : uT x 9 = true) : SK l X 4 154 [vR 25 0, vI (nI i), vI (nI t), vI x] (ii, jj, mj_rk kd, 108) (some (vI (mR ii i t))) (up3 ii 26 0 (6 + 14 * i + t) x, jj, mj_rk kd, 108) := by
  refine SK.of (by decide) (by decide) rfl ?_
  refine GB.go 9999 rfl aB0 ?_
  refine GB.cal rfl rfl (by decide) (m_isHat _ hn h0) ?_
  refine GB.br rfl rfl (fun c => ?_) (fun c => ?_)
  · exact absurd (in_ok hi (by omega) rfl) (bd_f c)
  · refine GB.go 9999 rfl aB0 ?_
    refine GB.cal rfl rfl (by decide) (m_isThought _ _) ?_
    refine GB.br rfl rfl (fun c2 => ?_) (fun c2 => ?_)
    · exact absurd c2 (b0_of (uT_ok (show t ≤ 11 by omega) (by decide)))
    · refine GB.go 9999 rfl aB0 ?_
      refine GB.cal rfl rfl (by decide) (m_up _ x 9) ?_
      refine GB.br rfl rfl (fun c3 => ?_) (fun c3 => ?_)
      · exact absurd c3 (b0_of hx)
      · refine GB.go 9999 rfl aB0 ?_
        refine GB.cal rfl rfl (by decide) (m_spot _ i t) ?_
        refine GB.go 9999 rfl aB0 ?_
        refine GB.cal rfl rfl (by decide) (m_becomes (6 + 14 * i + t) (by omega) x) ?_
        refine GB.go 9999 rfl aB0 ?_
        exact GB.ret rfl rfl aB0
theorem m_told0 (v t : Int32) {n : Nat} (hn : n ≤ 8) (h0 : ii 26 0 2 = nI n) (h : ¬ ((¬ v < 0 ∧ ¬ nI n ≤ v) ∧ uT t 11 = true)) : SK l X 4 156 [vR 25 0, vI v, vI t] (ii, jj, mj_rk kd, 108) (some (vI (fA 0))) (fnm ii 0, jj, mj_rk kd, 108) := by
  refine SK.of (by decide) (by decide) rfl ?_
  have tail : GB l X 4 0 0 156 (28, [some (vR 25 0), some (vI v), some (vI t)], [], (ii, jj, mj_rk kd, 108)) (some (vI (fA 0))) (fnm ii 0, jj, mj_rk kd, 108) := by
    refine GB.go 9999 rfl aB0 ?_
    refine GB.cal rfl rfl (by decide) (m_finds 0 (by decide)) ?_
    exact GB.ret rfl rfl aB0
  refine GB.go 9999 rfl aB0 ?_
  refine GB.cal rfl rfl (by decide) (m_isHat v hn h0) ?_
  refine GB.br rfl rfl (fun c => ?_) (fun c => ?_)
  · exact tail
  · refine GB.go 9999 rfl aB0 ?_
    refine GB.cal rfl rfl (by decide) (m_isThought _ t) ?_
    refine GB.br rfl rfl (fun c2 => ?_) (fun c2 => ?_)
    · exact tail
    · exact absurd ⟨bd_t c, bI_t c2⟩ h
theorem m_told (i t n : Nat) (hi : i < n) (hn : n ≤ 8) (h0 : ii 26 0 2 = nI n) (ht : t < 12) : SK l X 4 156 [vR 25 0, vI (nI i), vI (nI t)] (ii, jj, mj_rk kd, 108) (some (vI (mR ii i t))) (ii, jj, mj_rk kd, 108) := by
  refine SK.of (by decide) (by decide) rfl ?_
  refine GB.go 9999 rfl aB0 ?_
  refine GB.cal rfl rfl (by decide) (m_isHat _ hn h0) ?_
  refine GB.br rfl rfl (fun c => ?_) (fun c => ?_)
  · exact absurd (in_ok hi (by omega) rfl) (bd_f c)
  · refine GB.go 9999 rfl aB0 ?_
    refine GB.cal rfl rfl (by decide) (m_isThought _ _) ?_
    refine GB.br rfl rfl (fun c2 => ?_) (fun c2 => ?_)
    · exact absurd c2 (b0_of (uT_ok (show t ≤ 11 by omega) (by decide)))
    · refine GB.go 9999 rfl aB0 ?_
      refine GB.cal rfl rfl (by decide) (m_spot _ i t) ?_
      refine GB.go 9999 rfl (aB1 (mn_vin (show 6 + 14 * i + t < 134 by omega) (by decide)) aB0) ?_
      rw [nI_clamp (show 6 + 14 * i + t < 2 ^ 31 by omega)]
      exact GB.ret rfl rfl aB0
theorem m_pledge0 (v x : Int32) {n : Nat} (hn : n ≤ 8) (h0 : ii 26 0 2 = nI n) (h : ¬ ((¬ v < 0 ∧ ¬ nI n ≤ v) ∧ uT x 99 = true)) : SK l X 4 157 [vR 25 0, vI v, vI x] (ii, jj, mj_rk kd, 108) (some (vI (fA 0))) (fnm ii 0, jj, mj_rk kd, 108) := by
  refine SK.of (by decide) (by decide) rfl ?_
  have tail : GB l X 4 0 0 157 (35, [some (vR 25 0), some (vI v), some (vI x)], [], (ii, jj, mj_rk kd, 108)) (some (vI (fA 0))) (fnm ii 0, jj, mj_rk kd, 108) := by
    refine GB.go 9999 rfl aB0 ?_
    refine GB.cal rfl rfl (by decide) (m_finds 0 (by decide)) ?_
    exact GB.ret rfl rfl aB0
  refine GB.go 9999 rfl aB0 ?_
  refine GB.cal rfl rfl (by decide) (m_isHat v hn h0) ?_
  refine GB.br rfl rfl (fun c => ?_) (fun c => ?_)
  · exact tail
  · refine GB.go 9999 rfl aB0 ?_
    refine GB.cal rfl rfl (by decide) (m_up _ x 99) ?_
    refine GB.br rfl rfl (fun c2 => ?_) (fun c2 => ?_)
    · exact tail
    · exact absurd ⟨bd_t c, bI_t c2⟩ h
theorem m_pledge (i n : Nat) (x : Int32) (hi : i < n) (hn : n ≤ 8) (h0 : ii 26 0 2 = nI n) (hx : uT x 99 = true) : SK l X 4 157 [vR 25 0, vI (nI i), vI x] (ii, jj, mj_rk kd, 108) (some (vI (ii 26 0 (5 + 14 * i)))) (up3 ii 26 0 (5 + 14 * i) x, jj, mj_rk kd, 108) := by
  refine SK.of (by decide) (by decide) rfl ?_
  refine GB.go 9999 rfl aB0 ?_
  refine GB.cal rfl rfl (by decide) (m_isHat _ hn h0) ?_
  refine GB.br rfl rfl (fun c => ?_) (fun c => ?_)
  · exact absurd (in_ok hi (by omega) rfl) (bd_f c)
  · refine GB.go 9999 rfl aB0 ?_
    refine GB.cal rfl rfl (by decide) (m_up _ x 99) ?_
    refine GB.br rfl rfl (fun c2 => ?_) (fun c2 => ?_)
    · exact absurd c2 (b0_of hx)
    · refine GB.go 9999 rfl aB0 ?_
      rw [sp_p]
      refine GB.cal rfl rfl (by decide) (m_becomes (5 + 14 * i) (by omega) x) ?_
      refine GB.go 9999 rfl aB0 ?_
      exact GB.ret rfl rfl aB0
theorem m_turn0 (v x : Int32) {n : Nat} (hn : n ≤ 8) (h0 : ii 26 0 2 = nI n) (h : ¬ ((¬ v < 0 ∧ ¬ nI n ≤ v) ∧ uT x 5 = true)) : SK l X 4 158 [vR 25 0, vI v, vI x] (ii, jj, mj_rk kd, 108) (some (vI (fA 0))) (fnm ii 0, jj, mj_rk kd, 108) := by
  refine SK.of (by decide) (by decide) rfl ?_
  have tail : GB l X 4 0 0 158 (32, [some (vR 25 0), some (vI v), some (vI x)], [], (ii, jj, mj_rk kd, 108)) (some (vI (fA 0))) (fnm ii 0, jj, mj_rk kd, 108) := by
    refine GB.go 9999 rfl aB0 ?_
    refine GB.cal rfl rfl (by decide) (m_finds 0 (by decide)) ?_
    exact GB.ret rfl rfl aB0
  refine GB.go 9999 rfl aB0 ?_
  refine GB.cal rfl rfl (by decide) (m_isHat v hn h0) ?_
  refine GB.br rfl rfl (fun c => ?_) (fun c => ?_)
  · exact tail
  · refine GB.go 9999 rfl aB0 ?_
    refine GB.cal rfl rfl (by decide) (m_up _ x 5) ?_
    refine GB.br rfl rfl (fun c2 => ?_) (fun c2 => ?_)
    · exact tail
    · exact absurd ⟨bd_t c, bI_t c2⟩ h
theorem m_turn (i n : Nat) (x : Int32) (hi : i < n) (hn : n ≤ 8) (h0 : ii 26 0 2 = nI n) (hx : uT x 5 = true) : SK l X 4 158 [vR 25 0, vI (nI i), vI x] (ii, jj, mj_rk kd, 108) (some (vI (ii 26 0 (4 + 14 * i)))) (up3 ii 26 0 (4 + 14 * i) x, jj, mj_rk kd, 108) := by
  refine SK.of (by decide) (by decide) rfl ?_
  refine GB.go 9999 rfl aB0 ?_
  refine GB.cal rfl rfl (by decide) (m_isHat _ hn h0) ?_
  refine GB.br rfl rfl (fun c => ?_) (fun c => ?_)
  · exact absurd (in_ok hi (by omega) rfl) (bd_f c)
  · refine GB.go 9999 rfl aB0 ?_
    refine GB.cal rfl rfl (by decide) (m_up _ x 5) ?_
    refine GB.br rfl rfl (fun c2 => ?_) (fun c2 => ?_)
    · exact absurd c2 (b0_of hx)
    · refine GB.go 9999 rfl aB0 ?_
      rw [sp_k]
      refine GB.cal rfl rfl (by decide) (m_becomes (4 + 14 * i) (by omega) x) ?_
      refine GB.go 9999 rfl aB0 ?_
      exact GB.ret rfl rfl aB0
theorem m_as0 (v x : Int32) {n : Nat} (hn : n ≤ 8) (h0 : ii 26 0 2 = nI n) (h : ¬ ((¬ v < 0 ∧ ¬ nI n ≤ v) ∧ uT x 5 = true)) : SK l X 4 159 [vR 25 0, vI v, vI x] (ii, jj, mj_rk kd, 108) (some (vI (fA 0))) (fnm ii 0, jj, mj_rk kd, 108) := by
  refine SK.of (by decide) (by decide) rfl ?_
  have tail : GB l X 4 0 0 159 (18, [some (vR 25 0), some (vI v), some (vI x), none, none], [], (ii, jj, mj_rk kd, 108)) (some (vI (fA 0))) (fnm ii 0, jj, mj_rk kd, 108) := by
    refine GB.go 9999 rfl aB0 ?_
    refine GB.cal rfl rfl (by decide) (m_finds 0 (by decide)) ?_
    exact GB.ret rfl rfl aB0
  refine GB.go 9999 rfl aB0 ?_
  refine GB.cal rfl rfl (by decide) (m_isHat v hn h0) ?_
  refine GB.br rfl rfl (fun c => ?_) (fun c => ?_)
  · exact tail
  · refine GB.go 9999 rfl aB0 ?_
    refine GB.cal rfl rfl (by decide) (m_up _ x 5) ?_
    refine GB.br rfl rfl (fun c2 => ?_) (fun c2 => ?_)
    · exact tail
    · exact absurd ⟨bd_t c, bI_t c2⟩ h
/-- the model's way of asking for a kind -/
def alM (c : Nat) (x : Int32) : Bool := decide (x = 0 ∨ x = nI c ∨ (x = 1 ∧ nI c = 4) ∨ (x = 2 ∧ nI c = 5))
theorem alM_O : ∀ c, c < 6 → ∀ x, x < 6 → alM c (nI x) = alO c (nI x) := by decide +kernel
theorem m_as (i n c0 : Nat) (x : Int32) (hi : i < n) (hn : n ≤ 8) (h0 : ii 26 0 2 = nI n) (hx : uT x 5 = true) (hk : ii 26 0 (4 + 14 * i) = nI c0) : SK l X 4 159 [vR 25 0, vI (nI i), vI x] (ii, jj, mj_rk kd, 108) (some (vI (cond (alM c0 x) (ii 26 0 (5 + 14 * i)) (fA 2)))) (cond (alM c0 x) ii (fnm ii 2), jj, mj_rk kd, 108) := by
  refine SK.of (by decide) (by decide) rfl ?_
  have yes : alM c0 x = true → GB l X 4 0 0 159 (60, [some (vR 25 0), some (vI (nI i)), some (vI x), some (vI (nI c0)), none], [], (ii, jj, mj_rk kd, 108)) (some (vI (cond (alM c0 x) (ii 26 0 (5 + 14 * i)) (fA 2)))) (cond (alM c0 x) ii (fnm ii 2), jj, mj_rk kd, 108) := fun h => by
    rw [h]
    refine GB.go 9999 rfl aB0 ?_
    refine GB.br rfl rfl (fun c => ?_) (fun c => ?_)
    · exact absurd c (by decide)
    · refine GB.go 84 rfl aB0 ?_
      rw [sp_p]
      refine GB.go 9999 rfl (aB1 (mn_vin (show 5 + 14 * i < 134 by omega) (by decide)) aB0) ?_
      rw [nI_clamp (show 5 + 14 * i < 2 ^ 31 by omega)]
      exact GB.ret rfl rfl aB0
  have no : alM c0 x = false → GB l X 4 0 0 159 (64, [some (vR 25 0), some (vI (nI i)), some (vI x), some (vI (nI c0)), none], [], (ii, jj, mj_rk kd, 108)) (some (vI (cond (alM c0 x) (ii 26 0 (5 + 14 * i)) (fA 2)))) (cond (alM c0 x) ii (fnm ii 2), jj, mj_rk kd, 108) := fun h => by
    rw [h]
    refine GB.go 9999 rfl aB0 ?_
    refine GB.br rfl rfl (fun c => ?_) (fun c => ?_)
    · refine GB.go 9999 rfl aB0 ?_
      refine GB.cal rfl rfl (by decide) (m_finds 2 (by decide)) ?_
      exact GB.ret rfl rfl aB0
    · exact absurd rfl c
  refine GB.go 9999 rfl aB0 ?_
  refine GB.cal rfl rfl (by decide) (m_isHat _ hn h0) ?_
  refine GB.br rfl rfl (fun c => ?_) (fun c => ?_)
  · exact absurd (in_ok hi (by omega) rfl) (bd_f c)
  · refine GB.go 9999 rfl aB0 ?_
    refine GB.cal rfl rfl (by decide) (m_up _ x 5) ?_
    refine GB.br rfl rfl (fun c2 => ?_) (fun c2 => ?_)
    · exact absurd c2 (b0_of hx)
    · refine GB.go 9999 rfl aB0 ?_
      refine GB.cal rfl rfl (by decide) (m_kindOf i (by omega)) ?_
      rw [hk]
      refine GB.go 9999 rfl aB0 ?_
      refine GB.br rfl rfl (fun d1 => ?_) (fun d1 => ?_)
      · exact yes (decide_eq_true (Or.inl d1))
      · refine GB.go 9999 rfl aB0 ?_
        refine GB.br rfl rfl (fun d2 => ?_) (fun d2 => ?_)
        · exact yes (decide_eq_true (Or.inr (Or.inl d2)))
        · have tl : (x = 1 → ¬ nI c0 = 4) → GB l X 4 0 0 159 (50, [some (vR 25 0), some (vI (nI i)), some (vI x), some (vI (nI c0)), none], [], (ii, jj, mj_rk kd, 108)) (some (vI (cond (alM c0 x) (ii 26 0 (5 + 14 * i)) (fA 2)))) (cond (alM c0 x) ii (fnm ii 2), jj, mj_rk kd, 108) := fun h1 => by
            refine GB.go 9999 rfl aB0 ?_
            refine GB.br rfl rfl (fun d3 => ?_) (fun d3 => ?_)
            · refine GB.go 9999 rfl aB0 ?_
              refine GB.br rfl rfl (fun d4 => ?_) (fun d4 => ?_)
              · exact yes (decide_eq_true (Or.inr (Or.inr (Or.inr ⟨d3, d4⟩))))
              · exact no (decide_eq_false (by rintro (h | h | h | h); exact d1 h; exact d2 h; exact h1 h.1 h.2; exact d4 h.2))
            · exact no (decide_eq_false (by rintro (h | h | h | h); exact d1 h; exact d2 h; exact h1 h.1 h.2; exact d3 h.1))
          refine GB.go 9999 rfl aB0 ?_
          refine GB.br rfl rfl (fun d3 => ?_) (fun d3 => ?_)
          · refine GB.go 9999 rfl aB0 ?_
            refine GB.br rfl rfl (fun d4 => ?_) (fun d4 => ?_)
            · exact yes (decide_eq_true (Or.inr (Or.inr (Or.inl ⟨d3, d4⟩))))
            · exact tl (fun _ => d4)
          · exact tl (fun h => absurd h d3)
theorem m_head0 (k : Int32) (h : ¬ uT k 4095 = true) : SK l X 4 161 [vR 25 0, vI k] (ii, jj, mj_rk kd, 108) (some (vI (fA 0))) (fnm ii 0, jj, mj_rk kd, 108) := by
  refine SK.of (by decide) (by decide) rfl ?_
  refine GB.go 9999 rfl aB0 ?_
  refine GB.cal rfl rfl (by decide) (m_isSet _ k) ?_
  refine GB.br rfl rfl (fun c => ?_) (fun c => ?_)
  · refine GB.go 9999 rfl aB0 ?_
    refine GB.cal rfl rfl (by decide) (m_finds 0 (by decide)) ?_
    exact GB.ret rfl rfl aB0
  · exact absurd (bI_t c) h
theorem m_head1 (k : Int32) (h : uT k 4095 = true) (h0 : ii 26 0 3 = nI 6) : SK l X 4 161 [vR 25 0, vI k] (ii, jj, mj_rk kd, 108) (some (vI (fA 1))) (fnm ii 1, jj, mj_rk kd, 108) := by
  refine SK.of (by decide) (by decide) rfl ?_
  refine GB.go 9999 rfl aB0 ?_
  refine GB.cal rfl rfl (by decide) (m_isSet _ k) ?_
  refine GB.br rfl rfl (fun c => ?_) (fun c => ?_)
  · exact absurd c (b0_of h)
  · refine GB.go 9999 rfl (aB1 (by decide) aB0) ?_
    rw [show ii 26 0 (Int32.toNatClampNeg 3) = nI 6 from h0]
    refine GB.br rfl rfl (fun c2 => ?_) (fun c2 => ?_)
    · refine GB.go 9999 rfl aB0 ?_
      refine GB.cal rfl rfl (by decide) (m_finds 1 (by decide)) ?_
      refine GB.go 9999 rfl aB0 ?_
      exact GB.ret rfl rfl aB0
    · exact absurd rfl c2
theorem m_head (k : Int32) (n : Nat) (h : uT k 4095 = true) (hn : n < 6) (h0 : ii 26 0 3 = nI n) : SK l X 4 161 [vR 25 0, vI k] (ii, jj, mj_rk kd, 108) (some (vI (nI n))) (nDm ii n k 0, jj, mj_rk kd, 108) := by
  refine SK.of (by decide) (by decide) rfl ?_
  refine GB.go 9999 rfl aB0 ?_
  refine GB.cal rfl rfl (by decide) (m_isSet _ k) ?_
  refine GB.br rfl rfl (fun c => ?_) (fun c => ?_)
  · exact absurd c (b0_of h)
  · refine GB.go 9999 rfl (aB1 (by decide) aB0) ?_
    rw [show ii 26 0 (Int32.toNatClampNeg 3) = nI n from h0]
    refine GB.br rfl rfl (fun c2 => ?_) (fun c2 => ?_)
    · exact absurd ((nI_eq (b := 6) (by omega) (by decide)).mp c2) (by omega)
    · refine GB.go 9999 rfl aB0 ?_
      refine GB.cal rfl rfl (by decide) (m_comesHead n hn h0 k 0) ?_
      exact GB.ret rfl rfl aB0
theorem m_about0 (v w : Int32) {n : Nat} (hn : n ≤ 6) (h0 : ii 26 0 3 = nI n) (h : ¬ ((¬ v < 0 ∧ ¬ nI n ≤ v) ∧ uT w 2 = true)) : SK l X 4 162 [vR 25 0, vI v, vI w] (ii, jj, mj_rk kd, 108) (some (vI (fA 0))) (fnm ii 0, jj, mj_rk kd, 108) := by
  refine SK.of (by decide) (by decide) rfl ?_
  have tail : GB l X 4 0 0 162 (27, [some (vR 25 0), some (vI v), some (vI w)], [], (ii, jj, mj_rk kd, 108)) (some (vI (fA 0))) (fnm ii 0, jj, mj_rk kd, 108) := by
    refine GB.go 9999 rfl aB0 ?_
    refine GB.cal rfl rfl (by decide) (m_finds 0 (by decide)) ?_
    exact GB.ret rfl rfl aB0
  refine GB.go 9999 rfl aB0 ?_
  refine GB.cal rfl rfl (by decide) (m_isHead v hn h0) ?_
  refine GB.br rfl rfl (fun c => ?_) (fun c => ?_)
  · exact tail
  · refine GB.go 9999 rfl aB0 ?_
    refine GB.cal rfl rfl (by decide) (m_up _ w 2) ?_
    refine GB.br rfl rfl (fun c2 => ?_) (fun c2 => ?_)
    · exact tail
    · exact absurd ⟨bd_t c, bI_t c2⟩ h
theorem m_about (i n w : Nat) (hi : i < n) (hn : n ≤ 6) (h0 : ii 26 0 3 = nI n) (hw : w ≤ 2) : SK l X 4 162 [vR 25 0, vI (nI i), vI (nI w)] (ii, jj, mj_rk kd, 108) (some (vI (ii 26 0 (116 + 3 * i + w)))) (ii, jj, mj_rk kd, 108) := by
  refine SK.of (by decide) (by decide) rfl ?_
  refine GB.go 9999 rfl aB0 ?_
  refine GB.cal rfl rfl (by decide) (m_isHead _ hn h0) ?_
  refine GB.br rfl rfl (fun c => ?_) (fun c => ?_)
  · exact absurd (in_ok hi (by omega) rfl) (bd_f c)
  · refine GB.go 9999 rfl aB0 ?_
    refine GB.cal rfl rfl (by decide) (m_up _ _ 2) ?_
    refine GB.br rfl rfl (fun c2 => ?_) (fun c2 => ?_)
    · exact absurd c2 (b0_of (uT_ok hw (by decide)))
    · refine GB.go 9999 rfl aB0 ?_
      refine GB.cal rfl rfl (by decide) (m_has i w (by omega) (by omega)) ?_
      refine GB.go 9999 rfl aB0 ?_
      exact GB.ret rfl rfl aB0
theorem m_moths0 (k : Int32) (h : ¬ uT k 1 = true) : SK l X 4 164 [vR 25 0, vI k] (ii, jj, mj_rk kd, 108) (some (vI (fA 0))) (fnm ii 0, jj, mj_rk kd, 108) := by
  refine SK.of (by decide) (by decide) rfl ?_
  refine GB.go 9999 rfl aB0 ?_
  refine GB.cal rfl rfl (by decide) (m_up _ k 1) ?_
  refine GB.br rfl rfl (fun c => ?_) (fun c => ?_)
  · refine GB.go 9999 rfl aB0 ?_
    refine GB.cal rfl rfl (by decide) (m_finds 0 (by decide)) ?_
    exact GB.ret rfl rfl aB0
  · exact absurd (bI_t c) h
theorem m_moths (k : Int32) (h : uT k 1 = true) : SK l X 4 164 [vR 25 0, vI k] (ii, jj, mj_rk kd, 108) (some (vI (ii 26 0 1))) (up3 ii 26 0 1 k, jj, mj_rk kd, 108) := by
  refine SK.of (by decide) (by decide) rfl ?_
  refine GB.go 9999 rfl aB0 ?_
  refine GB.cal rfl rfl (by decide) (m_up _ k 1) ?_
  refine GB.br rfl rfl (fun c => ?_) (fun c => ?_)
  · exact absurd c (b0_of h)
  · refine GB.go 9999 rfl aB0 ?_
    refine GB.cal rfl rfl (by decide) (m_becomes 1 (by decide) k) ?_
    refine GB.go 9999 rfl aB0 ?_
    exact GB.ret rfl rfl aB0
end MQ
