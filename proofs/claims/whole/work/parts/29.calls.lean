/-! THE CLASS'S CALLS: hats -/
/-- a finding counted; a finding's answer -/
def fnd (ii : Nat → Nat → Nat → Int32) (k : Nat) : Nat → Nat → Nat → Int32 := up3 ii 10 0 k (ii 10 0 k + 1)
def fA (k : Nat) : Int32 := -1000000001 - nI k
theorem in_ok {i n : Nat} {N : Int32} (hi : i < n) (hn : n < 2 ^ 31) (h0 : N = nI n) : ¬ nI i < 0 ∧ ¬ N ≤ nI i := ⟨nI_pos (by omega), by rw [h0]; exact nI_ge hi hn⟩
theorem uT_ok {a b : Nat} (h : a ≤ b) (hb : b < 2 ^ 31) : uT (nI a) (nI b) = true := decide_eq_true ⟨nI_pos (by omega), nI_nlt h hb⟩
theorem uT_of {v : Int32} {b : Nat} (hb : b < 2 ^ 31) (h : uT v (nI b) = true) : ∃ a, a ≤ b ∧ v = nI a := by
  obtain ⟨h1, h2⟩ := of_decide_eq_true h
  obtain ⟨a, ha, rfl⟩ := nI_of h1
  exact ⟨a, Nat.le_of_not_lt (fun h3 => h2 (nI_lt h3 ha)), rfl⟩
theorem in_of {v N : Int32} {n : Nat} (hn : n < 2 ^ 31) (h0 : N = nI n) (h : ¬ v < 0 ∧ ¬ N ≤ v) : ∃ a, a < n ∧ v = nI a := by
  obtain ⟨a, ha, rfl⟩ := nI_of h.1
  exact ⟨a, Nat.lt_of_not_le (fun h3 => h.2 (by rw [h0]; exact nI_le h3 ha)), rfl⟩
section MP
variable {l : Launch} {X : FX} {ii : Nat → Nat → Nat → Int32} {jj : Nat → Nat → Nat → Int64} {kd : Nat → Nat}
theorem up3_rd {α : Type} {f : Nat → Nat → Nat → α} {t i k : Nat} {v : α} : up3 f t i k v t i k = v := if_pos ⟨rfl, rfl, rfl⟩
/-- a kind's number -/
theorem GB.num {y pc x n' d c n : Nat} {w : Int32} {ls : ML} {rs : List MV} {rr : Nat → Nat → Nat → Nat × Nat} {h' : MH} {r : Option MV} (hc : c < 6) (hi : mj_ins y pc = some (.getfield x, n', w, 11, 0, 0)) (k : GB l X d 0 0 y (n', ls, vI (ii (c + 11) 0 0) :: rs, (ii, jj, rr, n)) r h') : GB l X d 0 0 y (pc, ls, vR (c + 11) 0 :: rs, (ii, jj, rr, n)) r h' := by
  refine GB.stp hi (cs := []) ?_ trivial k
  rcases six hc with rfl | rfl | rfl | rfl | rfl | rfl <;> rfl
theorem c_told0 (v t : Int32) (h : ¬ ((¬ v < 0 ∧ ¬ ii 17 0 2 ≤ v) ∧ uT t 11 = true)) : SK l X 4 76 [vR 5 0, vI v, vI t] (ii, jj, mj_rk kd, 108) (some (vI (fA 0))) (fnd ii 0, jj, mj_rk kd, 108) := by
  refine SK.of (by decide) (by decide) rfl ?_
  have tail : GB l X 4 0 0 76 (15, [some (vR 5 0), some (vI v), some (vI t)], [], (ii, jj, mj_rk kd, 108)) (some (vI (fA 0))) (fnd ii 0, jj, mj_rk kd, 108) := by
    refine GB.go 9999 rfl aB0 ?_
    refine GB.cal rfl rfl (by decide) (k_finding 0 (by decide)) ?_
    exact GB.ret rfl rfl aB0
  refine GB.go 9999 rfl aB0 ?_
  refine GB.cal rfl rfl (by decide) (k_isHat v) ?_
  refine GB.br rfl rfl (fun c => ?_) (fun c => ?_)
  · exact tail
  · refine GB.go 9999 rfl aB0 ?_
    refine GB.cal rfl rfl (by decide) (k_isThought _ t) ?_
    refine GB.br rfl rfl (fun c2 => ?_) (fun c2 => ?_)
    · exact tail
    · exact absurd ⟨bd_t c, bI_t c2⟩ h
theorem c_told (i t n : Nat) (hi : i < n) (hn : n ≤ 8) (h0 : ii 17 0 2 = nI n) (ht : t < 12) : SK l X 4 76 [vR 5 0, vI (nI i), vI (nI t)] (ii, jj, mj_rk kd, 108) (some (vI (ii 21 i t))) (ii, jj, mj_rk kd, 108) := by
  refine SK.of (by decide) (by decide) rfl ?_
  refine GB.go 9999 rfl aB0 ?_
  refine GB.cal rfl rfl (by decide) (k_isHat _) ?_
  refine GB.br rfl rfl (fun c => ?_) (fun c => ?_)
  · exact absurd (in_ok hi (by omega) h0) (bd_f c)
  · refine GB.go 9999 rfl aB0 ?_
    refine GB.cal rfl rfl (by decide) (k_isThought _ _) ?_
    refine GB.br rfl rfl (fun c2 => ?_) (fun c2 => ?_)
    · exact absurd (uT_ok (show t ≤ 11 by omega) (by decide)) (by rw [show uT (nI t) (nI 11) = false from bI_f c2]; decide)
    · refine GB.go 30 rfl (aB1 (mn_vin (show i < 8 by omega) (by decide)) aB0) ?_
      rw [nI_clamp (show i < 2 ^ 31 by omega)]
      refine GB.go 9999 rfl (aB1 (mn_vin ht (by decide)) aB0) ?_
      rw [nI_clamp (show t < 2 ^ 31 by omega)]
      exact GB.ret rfl rfl aB0
theorem c_fresh0 (v t x : Int32) (h : ¬ ((¬ v < 0 ∧ ¬ ii 17 0 2 ≤ v) ∧ uT t 11 = true ∧ uT x 9 = true)) : SK l X 4 74 [vR 5 0, vI v, vI t, vI x] (ii, jj, mj_rk kd, 108) (some (vI (fA 0))) (fnd ii 0, jj, mj_rk kd, 108) := by
  refine SK.of (by decide) (by decide) rfl ?_
  have tail : GB l X 4 0 0 74 (24, [some (vR 5 0), some (vI v), some (vI t), some (vI x), none], [], (ii, jj, mj_rk kd, 108)) (some (vI (fA 0))) (fnd ii 0, jj, mj_rk kd, 108) := by
    refine GB.go 9999 rfl aB0 ?_
    refine GB.cal rfl rfl (by decide) (k_finding 0 (by decide)) ?_
    exact GB.ret rfl rfl aB0
  refine GB.go 9999 rfl aB0 ?_
  refine GB.cal rfl rfl (by decide) (k_isHat v) ?_
  refine GB.br rfl rfl (fun c => ?_) (fun c => ?_)
  · exact tail
  · refine GB.go 9999 rfl aB0 ?_
    refine GB.cal rfl rfl (by decide) (k_isThought _ t) ?_
    refine GB.br rfl rfl (fun c2 => ?_) (fun c2 => ?_)
    · exact tail
    · refine GB.go 9999 rfl aB0 ?_
      refine GB.cal rfl rfl (by decide) (k_upto _ x 9) ?_
      refine GB.br rfl rfl (fun c3 => ?_) (fun c3 => ?_)
      · exact tail
      · exact absurd ⟨bd_t c, bI_t c2, bI_t c3⟩ h
theorem c_fresh (i t n : Nat) (x : Int32) (hi : i < n) (hn : n ≤ 8) (h0 : ii 17 0 2 = nI n) (ht : t < 12) (hx : uT x 9 = true) : SK l X 4 74 [vR 5 0, vI (nI i), vI (nI t), vI x] (ii, jj, mj_rk kd, 108) (some (vI (ii 21 i t))) (up3 ii 21 i t x, jj, mj_rk kd, 108) := by
  refine SK.of (by decide) (by decide) rfl ?_
  refine GB.go 9999 rfl aB0 ?_
  refine GB.cal rfl rfl (by decide) (k_isHat _) ?_
  refine GB.br rfl rfl (fun c => ?_) (fun c => ?_)
  · exact absurd (in_ok hi (by omega) h0) (bd_f c)
  · refine GB.go 9999 rfl aB0 ?_
    refine GB.cal rfl rfl (by decide) (k_isThought _ _) ?_
    refine GB.br rfl rfl (fun c2 => ?_) (fun c2 => ?_)
    · exact absurd (uT_ok (show t ≤ 11 by omega) (by decide)) (by rw [show uT (nI t) (nI 11) = false from bI_f c2]; decide)
    · refine GB.go 9999 rfl aB0 ?_
      refine GB.cal rfl rfl (by decide) (k_upto _ x 9) ?_
      refine GB.br rfl rfl (fun c3 => ?_) (fun c3 => ?_)
      · exact absurd hx (by rw [bI_f c3]; decide)
      · refine GB.go 39 rfl (aB1 (mn_vin (show i < 8 by omega) (by decide)) aB0) ?_
        rw [nI_clamp (show i < 2 ^ 31 by omega)]
        refine GB.go 44 rfl (aB1 (mn_vin ht (by decide)) aB0) ?_
        rw [nI_clamp (show t < 2 ^ 31 by omega)]
        refine GB.go 55 rfl (aB1 (mn_vin (show i < 8 by omega) (by decide)) aB0) ?_
        rw [nI_clamp (show i < 2 ^ 31 by omega)]
        refine GB.go 9999 rfl (aB1 (mn_vin ht (by decide)) aB0) ?_
        rw [nI_clamp (show t < 2 ^ 31 by omega)]
        exact GB.ret rfl rfl aB0
theorem c_hat0 (k : Int32) (h : ¬ uT k 5 = true) : SK l X 4 73 [vR 5 0, vI k] (ii, jj, mj_rk kd, 108) (some (vI (fA 0))) (fnd ii 0, jj, mj_rk kd, 108) := by
  refine SK.of (by decide) (by decide) rfl ?_
  refine GB.go 9999 rfl aB0 ?_
  refine GB.cal rfl rfl (by decide) (k_upto _ k 5) ?_
  refine GB.br rfl rfl (fun c => ?_) (fun c => ?_)
  · refine GB.go 9999 rfl aB0 ?_
    refine GB.cal rfl rfl (by decide) (k_finding 0 (by decide)) ?_
    exact GB.ret rfl rfl aB0
  · exact absurd (bI_t c) h
theorem c_hat1 (k : Int32) (h : uT k 5 = true) (h0 : ii 17 0 2 = nI 8) : SK l X 4 73 [vR 5 0, vI k] (ii, jj, mj_rk kd, 108) (some (vI (fA 1))) (fnd ii 1, jj, mj_rk kd, 108) := by
  refine SK.of (by decide) (by decide) rfl ?_
  refine GB.go 9999 rfl aB0 ?_
  refine GB.cal rfl rfl (by decide) (k_upto _ k 5) ?_
  refine GB.br rfl rfl (fun c => ?_) (fun c => ?_)
  · exact absurd h (by rw [bI_f c]; decide)
  · refine GB.go 9999 rfl aB0 ?_
    rw [h0]
    refine GB.br rfl rfl (fun c2 => ?_) (fun c2 => ?_)
    · exact absurd c2 (by decide)
    · refine GB.go 9999 rfl aB0 ?_
      refine GB.cal rfl rfl (by decide) (k_finding 1 (by decide)) ?_
      exact GB.ret rfl rfl aB0
theorem c_hat (c n : Nat) (hc : c < 6) (hn : n < 8) (h0 : ii 17 0 2 = nI n) : SK l X 4 73 [vR 5 0, vI (nI c)] (ii, jj, mj_rk kd, 108) (some (vI (nI n))) (up3 (wA (up3 ii 20 n 2 5) 21 n 12 (fun _ => 0)) 17 0 2 (nI (n + 1)), jj, mj_rk (kU kd n c), 108) := by
  refine SK.of (by decide) (by decide) rfl ?_
  refine GB.go 9999 rfl aB0 ?_
  refine GB.cal rfl rfl (by decide) (k_upto _ _ 5) ?_
  refine GB.br rfl rfl (fun c2 => ?_) (fun c2 => ?_)
  · exact absurd (uT_ok (show c ≤ 5 by omega) (by decide)) (by rw [show uT (nI c) (nI 5) = false from bI_f c2]; decide)
  · refine GB.go 9999 rfl aB0 ?_
    rw [h0]
    refine GB.br rfl rfl (fun c3 => ?_) (fun c3 => ?_)
    · refine GB.go 42 rfl (aB1 (mn_vin hc (by decide)) aB0) ?_
      rw [nI_clamp (show c < 2 ^ 31 by omega)]
      refine GB.cal rfl rfl (by decide) (k_addHat hn hc h0) ?_
      refine GB.go 52 rfl aB0 ?_
      rw [up3_rd]
      refine GB.go 9999 rfl aB0 ?_
      rw [nI_pred]
      exact GB.ret rfl rfl aB0
    · exact absurd (nI_lt hn (by decide)) c3
theorem c_pledge0 (v x : Int32) (h : ¬ ((¬ v < 0 ∧ ¬ ii 17 0 2 ≤ v) ∧ uT x 99 = true)) : SK l X 4 77 [vR 5 0, vI v, vI x] (ii, jj, mj_rk kd, 108) (some (vI (fA 0))) (fnd ii 0, jj, mj_rk kd, 108) := by
  refine SK.of (by decide) (by decide) rfl ?_
  have tail : GB l X 4 0 0 77 (17, [some (vR 5 0), some (vI v), some (vI x), none], [], (ii, jj, mj_rk kd, 108)) (some (vI (fA 0))) (fnd ii 0, jj, mj_rk kd, 108) := by
    refine GB.go 9999 rfl aB0 ?_
    refine GB.cal rfl rfl (by decide) (k_finding 0 (by decide)) ?_
    exact GB.ret rfl rfl aB0
  refine GB.go 9999 rfl aB0 ?_
  refine GB.cal rfl rfl (by decide) (k_isHat v) ?_
  refine GB.br rfl rfl (fun c => ?_) (fun c => ?_)
  · exact tail
  · refine GB.go 9999 rfl aB0 ?_
    refine GB.cal rfl rfl (by decide) (k_upto _ x 99) ?_
    refine GB.br rfl rfl (fun c2 => ?_) (fun c2 => ?_)
    · exact tail
    · exact absurd ⟨bd_t c, bI_t c2⟩ h
theorem c_pledge (i n : Nat) (x : Int32) (hi : i < n) (hn : n ≤ 8) (h0 : ii 17 0 2 = nI n) (hx : uT x 99 = true) : SK l X 4 77 [vR 5 0, vI (nI i), vI x] (ii, jj, mj_rk kd, 108) (some (vI (ii 20 i 2))) (up3 ii 20 i 2 x, jj, mj_rk kd, 108) := by
  refine SK.of (by decide) (by decide) rfl ?_
  refine GB.go 9999 rfl aB0 ?_
  refine GB.cal rfl rfl (by decide) (k_isHat _) ?_
  refine GB.br rfl rfl (fun c => ?_) (fun c => ?_)
  · exact absurd (in_ok hi (by omega) h0) (bd_f c)
  · refine GB.go 9999 rfl aB0 ?_
    refine GB.cal rfl rfl (by decide) (k_upto _ x 99) ?_
    refine GB.br rfl rfl (fun c3 => ?_) (fun c3 => ?_)
    · exact absurd hx (by rw [bI_f c3]; decide)
    · refine GB.go 32 rfl (aB1 (mn_vin (show i < 8 by omega) (by decide)) aB0) ?_
      rw [nI_clamp (show i < 2 ^ 31 by omega)]
      refine GB.go 45 rfl (aB1 (mn_vin (show i < 8 by omega) (by decide)) aB0) ?_
      rw [nI_clamp (show i < 2 ^ 31 by omega)]
      refine GB.go 9999 rfl aB0 ?_
      exact GB.ret rfl rfl aB0
theorem c_turn0 (v x : Int32) (h : ¬ ((¬ v < 0 ∧ ¬ ii 17 0 2 ≤ v) ∧ uT x 5 = true)) : SK l X 4 78 [vR 5 0, vI v, vI x] (ii, jj, mj_rk kd, 108) (some (vI (fA 0))) (fnd ii 0, jj, mj_rk kd, 108) := by
  refine SK.of (by decide) (by decide) rfl ?_
  have tail : GB l X 4 0 0 78 (16, [some (vR 5 0), some (vI v), some (vI x), none], [], (ii, jj, mj_rk kd, 108)) (some (vI (fA 0))) (fnd ii 0, jj, mj_rk kd, 108) := by
    refine GB.go 9999 rfl aB0 ?_
    refine GB.cal rfl rfl (by decide) (k_finding 0 (by decide)) ?_
    exact GB.ret rfl rfl aB0
  refine GB.go 9999 rfl aB0 ?_
  refine GB.cal rfl rfl (by decide) (k_isHat v) ?_
  refine GB.br rfl rfl (fun c => ?_) (fun c => ?_)
  · exact tail
  · refine GB.go 9999 rfl aB0 ?_
    refine GB.cal rfl rfl (by decide) (k_upto _ x 5) ?_
    refine GB.br rfl rfl (fun c2 => ?_) (fun c2 => ?_)
    · exact tail
    · exact absurd ⟨bd_t c, bI_t c2⟩ h
theorem c_turn (i n x : Nat) (hi : i < n) (hn : n ≤ 8) (h0 : ii 17 0 2 = nI n) (hx : x < 6) (hk : kd i < 6) (hno : ∀ c, c < 6 → ii (c + 11) 0 0 = nI c) : SK l X 4 78 [vR 5 0, vI (nI i), vI (nI x)] (ii, jj, mj_rk kd, 108) (some (vI (nI (kd i)))) (ii, jj, mj_rk (kU kd i x), 108) := by
  refine SK.of (by decide) (by decide) rfl ?_
  refine GB.go 9999 rfl aB0 ?_
  refine GB.cal rfl rfl (by decide) (k_isHat _) ?_
  refine GB.br rfl rfl (fun c => ?_) (fun c => ?_)
  · exact absurd (in_ok hi (by omega) h0) (bd_f c)
  · refine GB.go 9999 rfl aB0 ?_
    refine GB.cal rfl rfl (by decide) (k_upto _ _ 5) ?_
    refine GB.br rfl rfl (fun c2 => ?_) (fun c2 => ?_)
    · exact absurd (uT_ok (show x ≤ 5 by omega) (by decide)) (by rw [show uT (nI x) (nI 5) = false from bI_f c2]; decide)
    · refine GB.go 31 rfl (aB1 (mn_vin (show i < 8 by omega) (by decide)) aB0) ?_
      rw [nI_clamp (show i < 2 ^ 31 by omega)]
      refine GB.go 34 rfl aB0 ?_
      refine GB.num hk rfl ?_
      rw [hno _ hk]
      refine GB.go 47 rfl (aB1 (mn_vin (show i < 8 by omega) (by decide)) aB0) ?_
      rw [nI_clamp (show i < 2 ^ 31 by omega)]
      refine GB.go 53 rfl (aB1 (mn_vin hx (by decide)) aB0) ?_
      rw [nI_clamp (show x < 2 ^ 31 by omega)]
      refine GB.go 56 rfl aB0 ?_
      rw [rk_up]
      refine GB.go 9999 rfl aB0 ?_
      exact GB.ret rfl rfl aB0
end MP
