/-! THE MODEL'S SMALL METHODS -/
theorem cm_lt {x y : Int64} : lg_cmp x y < 0 ↔ x < y := by
  unfold lg_cmp
  split
  · next h => exact ⟨fun h2 => absurd h2 (by decide), fun h2 => absurd h2 (Int64.not_lt.mpr (Int64.le_of_lt h))⟩
  · split
    · next h => subst h; exact ⟨fun h2 => absurd h2 (by decide), fun h2 => absurd h2 (Int64.lt_irrefl)⟩
    · next h1 h2 => exact ⟨fun _ => (Int64.lt_of_le_of_ne (Int64.not_lt.mp h1) h2), fun _ => by decide⟩
theorem cm_gt {x y : Int64} : 0 < lg_cmp x y ↔ y < x := by
  unfold lg_cmp
  split
  · next h => exact ⟨fun _ => h, fun _ => by decide⟩
  · next h => split
              · exact ⟨fun h2 => absurd h2 (by decide), fun h2 => absurd h2 h⟩
              · exact ⟨fun h2 => absurd h2 (by decide), fun h2 => absurd h2 h⟩
theorem i2l_lt {x y : Int32} : x.toInt64 < y.toInt64 ↔ x < y := by
  rw [Int64.lt_iff_toInt_lt, Int32.lt_iff_toInt_lt, Int32.toInt_toInt64, Int32.toInt_toInt64]
/-- the model's bound -/
def hdO (v a b : Int32) : Int32 := if v < a then a else if b < v then b else v
theorem nI_mul (a b : Nat) : nI a * nI b = nI (a * b) := (Int32.ofNat_mul a b).symm
theorem sp_k (i : Nat) : (4 : Int32) + 14 * nI i = nI (4 + 14 * i) := by
  rw [show (14 : Int32) * nI i = nI (14 * i) from nI_mul 14 i]; exact nI_add 4 _
theorem sp_p (i : Nat) : (4 : Int32) + 14 * nI i + 1 = nI (5 + 14 * i) := by
  rw [sp_k, nI_1]; congr 1; omega
theorem sp_d (i : Nat) : (116 : Int32) + 3 * nI i = nI (116 + 3 * i) := by
  rw [show (3 : Int32) * nI i = nI (3 * i) from nI_mul 3 i]; exact nI_add 116 _
theorem n1_lt {n : Nat} (hn : n < 2 ^ 31) (v : Int32) : nI n - 1 < v ↔ nI n ≤ v := by
  rw [Int32.lt_iff_toInt_lt, Int32.le_iff_toInt_le, nI_toInt hn]
  cases n with
  | zero =>
    rw [show (nI 0 - 1).toInt = -1 by decide]
    omega
  | succ n =>
    rw [nI_pred, nI_toInt (by omega)]
    omega
section MQ
variable {l : Launch} {X : FX} {ii : Nat → Nat → Nat → Int32} {jj : Nat → Nat → Nat → Int64} {kd : Nat → Nat}
theorem m_inL (h : MH) (v : Int64) (a b : Int32) : SK l X 1 133 [vL v, vI a, vI b] h (some (vI (bI (decide (¬ v < a.toInt64 ∧ ¬ b.toInt64 < v))))) h := by
  refine SK.of (by decide) (by decide) rfl ?_
  obtain ⟨ii, jj, rr, n⟩ := h
  refine GB.go 9999 rfl aB0 ?_
  refine GB.br rfl rfl (fun c => ?_) (fun c => ?_)
  · rw [bI_0 (fun h => h.1 (cm_lt.mp c))]
    refine GB.go 9999 rfl aB0 ?_
    exact GB.ret rfl rfl (aB1 (by decide) aB0)
  · refine GB.go 9999 rfl aB0 ?_
    refine GB.br rfl rfl (fun c2 => ?_) (fun c2 => ?_)
    · rw [bI_0 (fun h => h.2 (cm_gt.mp c2))]
      refine GB.go 9999 rfl aB0 ?_
      exact GB.ret rfl rfl (aB1 (by decide) aB0)
    · rw [bI_1 ⟨fun h => c (cm_lt.mpr h), fun h => c2 (cm_gt.mpr h)⟩]
      refine GB.go 9999 rfl aB0 ?_
      exact GB.ret rfl rfl (aB1 (by decide) aB0)
theorem m_in (h : MH) (v a b : Int32) : SK l X 1 133 [vL v.toInt64, vI a, vI b] h (some (vI (bI (decide (¬ v < a ∧ ¬ b < v))))) h := by
  have q := m_inL (l := l) (X := X) h v.toInt64 a b
  rw [show decide (¬ v.toInt64 < a.toInt64 ∧ ¬ b.toInt64 < v.toInt64) = decide (¬ v < a ∧ ¬ b < v) from decide_eq_decide.mpr (by rw [i2l_lt, i2l_lt])] at q
  exact q
theorem m_up (h : MH) (v b : Int32) : SK l X 1 133 [vL v.toInt64, vI 0, vI b] h (some (vI (bI (uT v b)))) h := m_in h v 0 b
theorem fA_ix : ∀ k, k < 7 → -1000000001 - fA k = nI k := by decide +kernel
theorem m_finds (k : Nat) (hk : k < 7) : SK l X 1 131 [vR 25 0, vI (fA k)] (ii, jj, mj_rk kd, 108) (some (vI (fA k))) (up3 ii 29 0 k (ii 29 0 k + 1), jj, mj_rk kd, 108) := by
  refine SK.of (by decide) (by decide) rfl ?_
  refine GB.go 8 rfl aB0 ?_
  rw [fA_ix k hk]
  refine GB.go 9999 rfl (aB1 (mn_vin hk (by decide)) (aB1 (mn_vin hk (by decide)) aB0)) ?_
  rw [nI_clamp (show k < 2 ^ 31 by omega)]
  exact GB.ret rfl rfl aB0
theorem m_held (h : MH) (v a b : Int32) : SK l X 1 134 [vI v, vI a, vI b] h (some (vI (hdO v a b))) h := by
  refine SK.of (by decide) (by decide) rfl ?_
  obtain ⟨ii, jj, rr, n⟩ := h
  unfold hdO
  refine GB.go 9999 rfl aB0 ?_
  refine GB.br rfl rfl (fun c => ?_) (fun c => ?_)
  · rw [if_neg (Int32.not_lt.mpr c)]
    refine GB.go 9999 rfl aB0 ?_
    refine GB.br rfl rfl (fun c2 => ?_) (fun c2 => ?_)
    · rw [if_neg (Int32.not_lt.mpr c2)]
      refine GB.go 9999 rfl aB0 ?_
      exact GB.ret rfl rfl aB0
    · rw [if_pos (Int32.not_le.mp c2)]
      refine GB.go 9999 rfl aB0 ?_
      exact GB.ret rfl rfl aB0
  · rw [if_pos (Int32.not_le.mp c)]
    refine GB.go 9999 rfl aB0 ?_
    exact GB.ret rfl rfl aB0
theorem m_becomes (k : Nat) (hk : k < 134) (v : Int32) : SK l X 1 136 [vR 25 0, vI (nI k), vI v] (ii, jj, mj_rk kd, 108) (some (vI (ii 26 0 k))) (up3 ii 26 0 k v, jj, mj_rk kd, 108) := by
  refine SK.of (by decide) (by decide) rfl ?_
  refine GB.go 7 rfl (aB1 (mn_vin hk (by decide)) aB0) ?_
  rw [nI_clamp (show k < 2 ^ 31 by omega)]
  refine GB.go 9999 rfl (aB1 (mn_vin hk (by decide)) aB0) ?_
  rw [nI_clamp (show k < 2 ^ 31 by omega)]
  exact GB.ret rfl rfl aB0
theorem m_isHat (v : Int32) {n : Nat} (hn : n ≤ 8) (h0 : ii 26 0 2 = nI n) : SK l X 2 138 [vR 25 0, vI v] (ii, jj, mj_rk kd, 108) (some (vI (bI (decide (¬ v < 0 ∧ ¬ nI n ≤ v))))) (ii, jj, mj_rk kd, 108) := by
  refine SK.of (by decide) (by decide) rfl ?_
  refine GB.go 9999 rfl (aB1 (by decide) aB0) ?_
  rw [show ii 26 0 (Int32.toNatClampNeg 2) = nI n from h0]
  refine GB.cal rfl rfl (by decide) (m_in _ v 0 _) ?_
  rw [show decide (¬ v < 0 ∧ ¬ nI n - 1 < v) = decide (¬ v < 0 ∧ ¬ nI n ≤ v) from decide_eq_decide.mpr (by rw [n1_lt (by omega)])]
  exact GB.ret rfl rfl (aB1 (bI_ok _) aB0)
theorem m_isHead (v : Int32) {n : Nat} (hn : n ≤ 6) (h0 : ii 26 0 3 = nI n) : SK l X 2 139 [vR 25 0, vI v] (ii, jj, mj_rk kd, 108) (some (vI (bI (decide (¬ v < 0 ∧ ¬ nI n ≤ v))))) (ii, jj, mj_rk kd, 108) := by
  refine SK.of (by decide) (by decide) rfl ?_
  refine GB.go 9999 rfl (aB1 (by decide) aB0) ?_
  rw [show ii 26 0 (Int32.toNatClampNeg 3) = nI n from h0]
  refine GB.cal rfl rfl (by decide) (m_in _ v 0 _) ?_
  rw [show decide (¬ v < 0 ∧ ¬ nI n - 1 < v) = decide (¬ v < 0 ∧ ¬ nI n ≤ v) from decide_eq_decide.mpr (by rw [n1_lt (by omega)])]
  exact GB.ret rfl rfl (aB1 (bI_ok _) aB0)
theorem m_isThought (h : MH) (v : Int32) : SK l X 2 140 [vI v] h (some (vI (bI (uT v 11)))) h := by
  refine SK.of (by decide) (by decide) rfl ?_
  obtain ⟨ii, jj, rr, n⟩ := h
  refine GB.go 9999 rfl aB0 ?_
  refine GB.cal rfl rfl (by decide) (m_up _ v 11) ?_
  exact GB.ret rfl rfl (aB1 (bI_ok _) aB0)
theorem m_isSet (h : MH) (v : Int32) : SK l X 2 141 [vI v] h (some (vI (bI (uT v 4095)))) h := by
  refine SK.of (by decide) (by decide) rfl ?_
  obtain ⟨ii, jj, rr, n⟩ := h
  refine GB.go 9999 rfl aB0 ?_
  refine GB.cal rfl rfl (by decide) (m_up _ v 4095) ?_
  exact GB.ret rfl rfl (aB1 (bI_ok _) aB0)
theorem m_areTwo (v w : Int32) {n : Nat} (hn : n ≤ 8) (h0 : ii 26 0 2 = nI n) : SK l X 3 142 [vR 25 0, vI v, vI w] (ii, jj, mj_rk kd, 108) (some (vI (bI (decide ((¬ v < 0 ∧ ¬ nI n ≤ v) ∧ (¬ w < 0 ∧ ¬ nI n ≤ w) ∧ v ≠ w))))) (ii, jj, mj_rk kd, 108) := by
  refine SK.of (by decide) (by decide) rfl ?_
  refine GB.go 9999 rfl aB0 ?_
  refine GB.cal rfl rfl (by decide) (m_isHat v hn h0) ?_
  refine GB.br rfl rfl (fun c => ?_) (fun c => ?_)
  · rw [bI_0 (fun h => bd_f c h.1)]
    refine GB.go 9999 rfl aB0 ?_
    exact GB.ret rfl rfl (aB1 (by decide) aB0)
  · refine GB.go 9999 rfl aB0 ?_
    refine GB.cal rfl rfl (by decide) (m_isHat w hn h0) ?_
    refine GB.br rfl rfl (fun c2 => ?_) (fun c2 => ?_)
    · rw [bI_0 (fun h => bd_f c2 h.2.1)]
      refine GB.go 9999 rfl aB0 ?_
      exact GB.ret rfl rfl (aB1 (by decide) aB0)
    · refine GB.go 9999 rfl aB0 ?_
      refine GB.br rfl rfl (fun c3 => ?_) (fun c3 => ?_)
      · rw [bI_0 (fun h => h.2.2 c3)]
        refine GB.go 9999 rfl aB0 ?_
        exact GB.ret rfl rfl (aB1 (by decide) aB0)
      · rw [bI_1 ⟨bd_t c, bd_t c2, c3⟩]
        refine GB.go 9999 rfl aB0 ?_
        exact GB.ret rfl rfl (aB1 (by decide) aB0)
theorem m_spot (h : MH) (i t : Nat) : SK l X 1 143 [vI (nI i), vI (nI t)] h (some (vI (nI (6 + 14 * i + t)))) h := by
  refine SK.of (by decide) (by decide) rfl ?_
  obtain ⟨ii, jj, rr, n⟩ := h
  refine GB.go 9999 rfl aB0 ?_
  rw [sp_k, show nI (4 + 14 * i) + 2 = nI (6 + 14 * i) by rw [show (2 : Int32) = nI 2 from rfl, nI_add]; congr 1; omega, nI_add]
  exact GB.ret rfl rfl aB0
theorem m_kindOf (i : Nat) (hi : i < 8) : SK l X 1 144 [vR 25 0, vI (nI i)] (ii, jj, mj_rk kd, 108) (some (vI (ii 26 0 (4 + 14 * i)))) (ii, jj, mj_rk kd, 108) := by
  refine SK.of (by decide) (by decide) rfl ?_
  refine GB.go 10 rfl aB0 ?_
  rw [sp_k]
  refine GB.go 9999 rfl (aB1 (mn_vin (show 4 + 14 * i < 134 by omega) (by decide)) aB0) ?_
  rw [nI_clamp (show 4 + 14 * i < 2 ^ 31 by omega)]
  exact GB.ret rfl rfl aB0
theorem m_has (i k : Nat) (hi : i < 6) (hk : k < 3) : SK l X 1 145 [vR 25 0, vI (nI i), vI (nI k)] (ii, jj, mj_rk kd, 108) (some (vI (ii 26 0 (116 + 3 * i + k)))) (ii, jj, mj_rk kd, 108) := by
  refine SK.of (by decide) (by decide) rfl ?_
  refine GB.go 12 rfl aB0 ?_
  rw [sp_d, nI_add]
  refine GB.go 9999 rfl (aB1 (mn_vin (show 116 + 3 * i + k < 134 by omega) (by decide)) aB0) ?_
  rw [nI_clamp (show 116 + 3 * i + k < 2 ^ 31 by omega)]
  exact GB.ret rfl rfl aB0
/-- the model's row of a hat -/
def mR (ii : Nat → Nat → Nat → Int32) (i t : Nat) : Int32 := ii 26 0 (6 + 14 * i + t)
theorem m_holds (i : Nat) (hi : i < 8) (a : Int32) : SK l X 2 146 [vR 25 0, vI (nI i), vI a] (ii, jj, mj_rk kd, 108) (some (vI (hF (mR ii i) a 12))) (ii, jj, mj_rk kd, 108) := by
  refine SK.of (by decide) (by decide) rfl ?_
  refine GB.go 5 rfl aB0 ?_
  refine GB.upto 12 (fun k => (5, [some (vR 25 0), some (vI (nI i)), some (vI a), some (vI (hF (mR ii i) a k)), some (vI (nI k))], [], (ii, jj, mj_rk kd, 108))) (fun k hk ih => ?_) ?_ 12 0 rfl
  · rw [nI_succ] at ih
    refine GB.go 9999 rfl aB0 ?_
    refine GB.br rfl rfl (fun c => ?_) (fun c => ?_)
    · exact absurd c (nI_ge hk (by decide))
    · refine GB.go 9999 rfl aB0 ?_
      refine GB.cal rfl rfl (by decide) (m_spot _ i k) ?_
      refine GB.go 9999 rfl (aB1 (mn_vin (show 6 + 14 * i + k < 134 by omega) (by decide)) aB0) ?_
      rw [nI_clamp (show 6 + 14 * i + k < 2 ^ 31 by omega)]
      refine GB.br rfl rfl (fun c2 => ?_) (fun c2 => ?_)
      · refine GB.go 5 rfl aB0 ?_
        rw [show hF (mR ii i) a (k + 1) = hF (mR ii i) a k from if_pos c2] at ih
        rw [show hF (mR ii i) a k ||| 0 = hF (mR ii i) a k from Int32.or_zero]
        exact ih
      · refine GB.go 5 rfl aB0 ?_
        rw [show hF (mR ii i) a (k + 1) = hF (mR ii i) a k ||| bT k from if_neg c2] at ih
        exact ih
  · refine GB.go 9999 rfl aB0 ?_
    refine GB.br rfl rfl (fun c => ?_) (fun c => ?_)
    · refine GB.go 9999 rfl aB0 ?_
      exact GB.ret rfl rfl aB0
    · exact absurd (Int32.le_refl _) c
theorem m_freshOf (i : Nat) (hi : i < 8) : SK l X 2 151 [vR 25 0, vI (nI i)] (ii, jj, mj_rk kd, 108) (some (vI (aF (mR ii i) 12))) (ii, jj, mj_rk kd, 108) := by
  refine SK.of (by decide) (by decide) rfl ?_
  refine GB.go 4 rfl aB0 ?_
  refine GB.upto 12 (fun k => (4, [some (vR 25 0), some (vI (nI i)), some (vI (aF (mR ii i) k)), some (vI (nI k))], [], (ii, jj, mj_rk kd, 108))) (fun k hk ih => ?_) ?_ 12 0 rfl
  · rw [nI_succ] at ih
    refine GB.go 9999 rfl aB0 ?_
    refine GB.br rfl rfl (fun c => ?_) (fun c => ?_)
    · exact absurd c (nI_ge hk (by decide))
    · refine GB.go 9999 rfl aB0 ?_
      refine GB.cal rfl rfl (by decide) (m_spot _ i k) ?_
      refine GB.go 4 rfl (aB1 (mn_vin (show 6 + 14 * i + k < 134 by omega) (by decide)) aB0) ?_
      rw [nI_clamp (show 6 + 14 * i + k < 2 ^ 31 by omega)]
      exact ih
  · refine GB.go 9999 rfl aB0 ?_
    refine GB.br rfl rfl (fun c => ?_) (fun c => ?_)
    · refine GB.go 9999 rfl aB0 ?_
      exact GB.ret rfl rfl aB0
    · exact absurd (Int32.le_refl _) c
/-- bits counted one by one; the greatest -/
def kC : Nat → Int32 → Int32 → Option Int32
  | 0, x, n => if x = 0 then some n else none
  | f + 1, x, n => if x = 0 then some n else kC f (x &&& (x - 1)) (n + 1)
def gR : Nat → Int32 → Option Int32
  | 0, x => if x &&& (x - 1) = 0 then some x else none
  | f + 1, x => if x &&& (x - 1) = 0 then some x else gR f (x &&& (x - 1))
theorem m_bitsL (h : MH) (v : Int32) : ∀ (f : Nat) (x n r : Int32), kC f x n = some r → GB l X 1 0 0 137 (4, [some (vI v), some (vI n), some (vI x)], [], h) (some (vI r)) h
  | 0, x, n, r, hr => by
    obtain ⟨ii, jj, rr, nn⟩ := h
    unfold kC at hr
    split at hr
    · next e =>
      cases hr
      refine GB.go 9999 rfl aB0 ?_
      refine GB.br rfl rfl (fun c => ?_) (fun c => ?_)
      · refine GB.go 9999 rfl aB0 ?_
        exact GB.ret rfl rfl aB0
      · exact absurd e c
    · cases hr
  | f + 1, x, n, r, hr => by
    have ih := m_bitsL h v f (x &&& (x - 1)) (n + 1) r
    obtain ⟨ii, jj, rr, nn⟩ := h
    unfold kC at hr
    refine GB.go 9999 rfl aB0 ?_
    refine GB.br rfl rfl (fun c => ?_) (fun c => ?_)
    · rw [if_pos c] at hr
      cases hr
      refine GB.go 9999 rfl aB0 ?_
      exact GB.ret rfl rfl aB0
    · rw [if_neg c] at hr
      refine GB.go 4 rfl aB0 ?_
      exact ih hr
theorem m_greatL (h : MH) (v : Int32) : ∀ (f : Nat) (x r : Int32), gR f x = some r → GB l X 1 0 0 147 (2, [some (vI v), some (vI x)], [], h) (some (vI r)) h
  | 0, x, r, hr => by
    obtain ⟨ii, jj, rr, nn⟩ := h
    unfold gR at hr
    split at hr
    · next e =>
      cases hr
      refine GB.go 9999 rfl aB0 ?_
      refine GB.br rfl rfl (fun c => ?_) (fun c => ?_)
      · refine GB.go 9999 rfl aB0 ?_
        exact GB.ret rfl rfl aB0
      · exact absurd e c
    · cases hr
  | f + 1, x, r, hr => by
    have ih := m_greatL h v f (x &&& (x - 1)) r
    obtain ⟨ii, jj, rr, nn⟩ := h
    unfold gR at hr
    refine GB.go 9999 rfl aB0 ?_
    refine GB.br rfl rfl (fun c => ?_) (fun c => ?_)
    · rw [if_pos c] at hr
      cases hr
      refine GB.go 9999 rfl aB0 ?_
      exact GB.ret rfl rfl aB0
    · rw [if_neg c] at hr
      refine GB.go 2 rfl aB0 ?_
      exact ih hr
end MQ
