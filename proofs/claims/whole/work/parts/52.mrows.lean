/-! THE MODEL'S ROWS: what is written -/
theorem bT_n : ∀ t, t < 12 → bT t = nI (2 ^ t) := by decide +kernel
theorem sh_k : ∀ t, t < 12 → ((nI t &&& 31).toBitVec.smod 32).toNat = t := by decide +kernel
theorem nI_and {a b : Nat} (ha : a < 2 ^ 32) (hb : b < 2 ^ 32) : nI a &&& nI b = nI (a &&& b) := by
  rw [← Int32.toBitVec_inj]
  apply BitVec.eq_of_toNat_eq
  rw [Int32.toBitVec_and, BitVec.toNat_and, pk_tn ha, pk_tn hb, pk_tn (Nat.lt_of_le_of_lt Nat.and_le_left ha)]
theorem sh_bit {a t : Nat} (ha : a < 4096) (ht : t < 12) : (nI a >>> (nI t &&& 31)) &&& 1 = nI (a / 2 ^ t % 2) := by
  rw [pk_shrN (by omega) _ t (sh_k t ht), pk_andN (Nat.lt_of_le_of_lt (Nat.div_le_self _ _) (by omega)) 1 (by decide)]
theorem an_bit {a t : Nat} (ha : a < 4096) (ht : t < 12) : nI a &&& bT t = nI (2 ^ t * (a / 2 ^ t % 2)) := by
  have h2 : 2 ^ t < 2 ^ 12 := Nat.pow_lt_pow_right (by decide) ht
  rw [bT_n t ht, nI_and (by omega) (Nat.lt_trans h2 (by decide))]
  congr 1
  have hb : a.testBit t = decide (a / 2 ^ t % 2 = 1) := Nat.testBit_eq_decide_div_mod_eq
  rcases Nat.mod_two_eq_zero_or_one (a / 2 ^ t) with h | h
  · rw [h] at hb ⊢
    apply Nat.eq_of_testBit_eq
    intro i
    rw [Nat.testBit_and, Nat.testBit_two_pow, Nat.mul_zero, Nat.zero_testBit]
    by_cases e : t = i
    · subst e
      rw [hb]
      rfl
    · rw [decide_eq_false e, Bool.and_false]
  · rw [h] at hb ⊢
    apply Nat.eq_of_testBit_eq
    intro i
    rw [Nat.testBit_and, Nat.mul_one, Nat.testBit_two_pow]
    by_cases e : t = i
    · subst e
      rw [hb]
      rfl
    · rw [decide_eq_false e, Bool.and_false]
/-- the model's way and the class's way of asking for a bit -/
theorem bit_iff {v : Int32} (hv : sT v) {t : Nat} (ht : t < 12) : (v >>> (nI t &&& 31)) &&& 1 = 1 ↔ ¬ v &&& bT t = 0 := by
  obtain ⟨a, ha, rfl⟩ := sT_of hv
  have h2 : 2 ^ t < 2 ^ 12 := Nat.pow_lt_pow_right (by decide) ht
  have h3 : 0 < 2 ^ t := Nat.two_pow_pos t
  rw [sh_bit ha ht, an_bit ha ht]
  rcases Nat.mod_two_eq_zero_or_one (a / 2 ^ t) with h | h
  · rw [h]
    exact ⟨fun h => absurd h (by decide), fun h => absurd rfl h⟩
  · rw [h, Nat.mul_one]
    exact ⟨fun _ => nI_ne0 h3 (by omega), fun _ => rfl⟩
/-- the first n places of a hat's row in the model written -/
def wR (ii : Nat → Nat → Nat → Int32) (i n : Nat) (F : Nat → Int32) : Nat → Nat → Nat → Int32 := fun a b c => if a = 26 ∧ b = 0 ∧ 6 + 14 * i ≤ c ∧ c < 6 + 14 * i + n then F (c - (6 + 14 * i)) else ii a b c
section WR
variable {ii : Nat → Nat → Nat → Int32} {i n : Nat} {F : Nat → Int32}
theorem wR_0 : wR ii i 0 F = ii := by
  funext a b c
  unfold wR
  rw [if_neg (fun h => by omega)]
theorem wR_s : up3 (wR ii i n F) 26 0 (6 + 14 * i + n) (F n) = wR ii i (n + 1) F := by
  funext a b c
  unfold up3 wR
  by_cases h1 : a = 26 ∧ b = 0 ∧ c = 6 + 14 * i + n
  · rw [if_pos h1, if_pos ⟨h1.1, h1.2.1, by omega, by omega⟩, h1.2.2, Nat.add_sub_cancel_left]
  · rw [if_neg h1]
    by_cases h2 : a = 26 ∧ b = 0 ∧ 6 + 14 * i ≤ c ∧ c < 6 + 14 * i + n
    · rw [if_pos h2, if_pos ⟨h2.1, h2.2.1, h2.2.2.1, by omega⟩]
    · rw [if_neg h2, if_neg (fun h => by
        rcases Nat.lt_or_ge c (6 + 14 * i + n) with h3 | h3
        · exact h2 ⟨h.1, h.2.1, h.2.2.1, h3⟩
        · exact h1 ⟨h.1, h.2.1, by omega⟩)]
theorem wR_out {c : Nat} (h : c < 6 + 14 * i ∨ 6 + 14 * i + n ≤ c) : wR ii i n F 26 0 c = ii 26 0 c := by
  unfold wR
  rw [if_neg (fun h2 => by omega)]
theorem wR_rd : wR ii i n F 26 0 (6 + 14 * i + n) = ii 26 0 (6 + 14 * i + n) := wR_out (Or.inr (Nat.le_refl _))
theorem wR_lt {t : Nat} (h : t < n) : wR ii i n F 26 0 (6 + 14 * i + t) = F t := by
  unfold wR
  rw [if_pos ⟨rfl, rfl, by omega, by omega⟩, Nat.add_sub_cancel_left]
theorem wR_tag {a : Nat} (h : a ≠ 26) : wR ii i n F a = ii a := by
  funext b c
  unfold wR
  rw [if_neg (fun h2 => h h2.1)]
theorem wR_same (h : F n = ii 26 0 (6 + 14 * i + n)) : wR ii i (n + 1) F = wR ii i n F := by
  rw [← wR_s]
  funext a b c
  unfold up3
  by_cases h1 : a = 26 ∧ b = 0 ∧ c = 6 + 14 * i + n
  · rw [if_pos h1, h1.1, h1.2.1, h1.2.2, h, wR_rd]
  · rw [if_neg h1]
end WR
section MQ
variable {l : Launch} {X : FX} {ii : Nat → Nat → Nat → Int32} {jj : Nat → Nat → Nat → Int64} {kd : Nat → Nat}
/-- the model's new hat -/
def nHm (ii : Nat → Nat → Nat → Int32) (n : Nat) (k p a : Int32) : Nat → Nat → Nat → Int32 := wR (up3 (up3 (up3 ii 26 0 2 (nI (n + 1))) 26 0 (4 + 14 * n) k) 26 0 (5 + 14 * n) p) n 12 (fun t => if a &&& bT t = 0 then 0 else 9)
theorem m_comes (n : Nat) (hn : n < 8) (h0 : ii 26 0 2 = nI n) (k p : Int32) {a : Int32} (ha : sT a) : SK l X 2 152 [vR 25 0, vI k, vI a, vI p] (ii, jj, mj_rk kd, 108) (some (vI (nI n))) (nHm ii n k p a, jj, mj_rk kd, 108) := by
  refine SK.of (by decide) (by decide) rfl ?_
  refine GB.go 6 rfl (aB1 (by decide) aB0) ?_
  rw [show ii 26 0 (Int32.toNatClampNeg 2) = nI n from h0]
  refine GB.go 15 rfl (aB1 (by decide) aB0) ?_
  rw [show ii 26 0 (Int32.toNatClampNeg 2) = nI n from h0]
  refine GB.go 17 rfl aB0 ?_
  rw [nI_1]
  refine GB.go 18 rfl (aB1 (by decide) aB0) ?_
  rw [show Int32.toNatClampNeg 2 = 2 from by decide]
  refine GB.go 29 rfl aB0 ?_
  rw [sp_k]
  refine GB.go 31 rfl (aB1 (mn_vin (show 4 + 14 * n < 134 by omega) (by decide)) aB0) ?_
  rw [nI_clamp (show 4 + 14 * n < 2 ^ 31 by omega)]
  refine GB.go 44 rfl aB0 ?_
  rw [sp_p]
  refine GB.go 46 rfl (aB1 (mn_vin (show 5 + 14 * n < 134 by omega) (by decide)) aB0) ?_
  rw [nI_clamp (show 5 + 14 * n < 2 ^ 31 by omega)]
  refine GB.go 49 rfl aB0 ?_
  unfold nHm
  generalize up3 (up3 (up3 ii 26 0 2 (nI (n + 1))) 26 0 (4 + 14 * n) k) 26 0 (5 + 14 * n) p = i2
  refine GB.eqv (s1 := (49, [some (vR 25 0), some (vI k), some (vI a), some (vI p), some (vI (nI n)), some (vI (nI 0))], [], (wR i2 n 0 (fun t => if a &&& bT t = 0 then 0 else 9), jj, mj_rk kd, 108))) (by rw [wR_0]; rfl) ?_
  refine GB.upto 12 (fun q => (49, [some (vR 25 0), some (vI k), some (vI a), some (vI p), some (vI (nI n)), some (vI (nI q))], [], (wR i2 n q (fun t => if a &&& bT t = 0 then 0 else 9), jj, mj_rk kd, 108))) (fun q hq ih => ?_) ?_ 12 0 rfl
  · rw [← wR_s, nI_succ] at ih
    refine GB.go 9999 rfl aB0 ?_
    refine GB.br rfl rfl (fun c => ?_) (fun c => ?_)
    · exact absurd c (nI_ge hq (by decide))
    · refine GB.go 9999 rfl aB0 ?_
      refine GB.cal rfl rfl (by decide) (m_spot _ n q) ?_
      refine GB.go 9999 rfl aB0 ?_
      refine GB.br rfl rfl (fun c2 => ?_) (fun c2 => ?_)
      · rw [if_neg ((bit_iff ha hq).mp c2)] at ih
        refine GB.go 49 rfl (aB1 (mn_vin (show 6 + 14 * n + q < 134 by omega) (by decide)) aB0) ?_
        rw [nI_clamp (show 6 + 14 * n + q < 2 ^ 31 by omega)]
        exact ih
      · rw [if_pos (show a &&& bT q = 0 from Classical.not_not.mp (fun h => c2 ((bit_iff ha hq).mpr h)))] at ih
        refine GB.go 49 rfl (aB1 (mn_vin (show 6 + 14 * n + q < 134 by omega) (by decide)) aB0) ?_
        rw [nI_clamp (show 6 + 14 * n + q < 2 ^ 31 by omega)]
        exact ih
  · refine GB.go 9999 rfl aB0 ?_
    refine GB.br rfl rfl (fun c => ?_) (fun c => ?_)
    · refine GB.go 9999 rfl aB0 ?_
      exact GB.ret rfl rfl aB0
    · exact absurd (Int32.le_refl _) c
/-- the model's new head -/
def nDm (ii : Nat → Nat → Nat → Int32) (n : Nat) (a b : Int32) : Nat → Nat → Nat → Int32 := up3 (up3 (up3 (up3 ii 26 0 3 (nI (n + 1))) 26 0 (116 + 3 * n) a) 26 0 (116 + 3 * n + 1) b) 26 0 (116 + 3 * n + 2) 0
theorem m_comesHead (n : Nat) (hn : n < 6) (h0 : ii 26 0 3 = nI n) (a b : Int32) : SK l X 2 160 [vR 25 0, vI a, vI b] (ii, jj, mj_rk kd, 108) (some (vI (nI n))) (nDm ii n a b, jj, mj_rk kd, 108) := by
  refine SK.of (by decide) (by decide) rfl ?_
  refine GB.go 6 rfl (aB1 (by decide) aB0) ?_
  rw [show ii 26 0 (Int32.toNatClampNeg 3) = nI n from h0]
  refine GB.go 14 rfl (aB1 (by decide) aB0) ?_
  rw [show ii 26 0 (Int32.toNatClampNeg 3) = nI n from h0]
  refine GB.go 16 rfl aB0 ?_
  rw [nI_1]
  refine GB.go 17 rfl (aB1 (by decide) aB0) ?_
  rw [show Int32.toNatClampNeg 3 = 3 from by decide]
  refine GB.go 27 rfl aB0 ?_
  rw [sp_d]
  refine GB.go 29 rfl (aB1 (mn_vin (show 116 + 3 * n < 134 by omega) (by decide)) aB0) ?_
  rw [nI_clamp (show 116 + 3 * n < 2 ^ 31 by omega)]
  refine GB.go 39 rfl aB0 ?_
  rw [sp_d]
  refine GB.go 41 rfl aB0 ?_
  rw [nI_1]
  refine GB.go 43 rfl (aB1 (mn_vin (show 116 + 3 * n + 1 < 134 by omega) (by decide)) aB0) ?_
  rw [nI_clamp (show 116 + 3 * n + 1 < 2 ^ 31 by omega)]
  refine GB.go 53 rfl aB0 ?_
  rw [sp_d]
  refine GB.go 55 rfl aB0 ?_
  rw [show nI (116 + 3 * n) + 2 = nI (116 + 3 * n + 2) from nI_add _ 2]
  refine GB.go 9999 rfl (aB1 (mn_vin (show 116 + 3 * n + 2 < 134 by omega) (by decide)) aB0) ?_
  rw [nI_clamp (show 116 + 3 * n + 2 < 2 ^ 31 by omega)]
  exact GB.ret rfl rfl aB0
end MQ
