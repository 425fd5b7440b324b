/-! THE CLASS'S SHEETS -/
section MP
variable {l : Launch} {X : FX} {ii : Nat → Nat → Nat → Int32} {jj : Nat → Nat → Nat → Int64} {kd : Nat → Nat}
theorem k_fillL (s : Nat) (x : Int64) : SK l X 1 228 [vR 24 s, vL x] (ii, jj, mj_rk kd, 108) none (ii, wA jj 24 s 40 (fun _ => x), mj_rk kd, 108) := by
  refine SK.of (by decide) (by decide) rfl ?_
  refine GB.go 6 rfl aB0 ?_
  refine GB.eqv (s1 := (6, [some (vR 24 s), some (vL x), none, some (vI (nI 0)), some (vI (nI 40))], [], (ii, wA jj 24 s 0 (fun _ => x), mj_rk kd, 108))) (by rw [wA_0]; rfl) ?_
  refine GB.upto 40 (fun k => (6, [some (vR 24 s), some (vL x), none, some (vI (nI k)), some (vI (nI 40))], [], (ii, wA jj 24 s k (fun _ => x), mj_rk kd, 108))) (fun k hk ih => ?_) ?_ 40 0 rfl
  · rw [nI_succ k, ← wA_s] at ih
    refine GB.go 9999 rfl aB0 ?_
    refine GB.br rfl rfl (fun c => ?_) (fun c => ?_)
    · exact absurd c (nI_ge hk (by decide))
    · refine GB.go 16 rfl (aB1 (mn_vin (show k < 40 by omega) (by decide)) aB0) ?_
      rw [nI_clamp (show k < 2 ^ 31 by omega)]
      refine GB.go 6 rfl aB0 ?_
      exact ih
  · refine GB.go 9999 rfl aB0 ?_
    refine GB.br rfl rfl (fun c => ?_) (fun c => ?_)
    · exact GB.ret rfl rfl aB0
    · exact absurd (Int32.le_refl _) c
theorem k_shBegin (s : Nat) (b n : Int32) : SK l X 2 41 [vR 23 s, vI b, vI n] (ii, jj, mj_rk kd, 108) none (up3 (up3 ii 23 s 1 b) 23 s 2 n, wA jj 24 s 40 (fun _ => 0), mj_rk kd, 108) := by
  refine SK.of (by decide) (by decide) rfl ?_
  refine GB.go 9999 rfl aB0 ?_
  refine GB.cal rfl rfl (by decide) (k_fillL s 0) ?_
  exact GB.ret rfl rfl aB0
theorem k_miss (s : Nat) : SK l X 1 42 [vR 23 s] (ii, jj, mj_rk kd, 108) (some (vI (bI (decide (ii 23 s 1 = 0))))) (ii, jj, mj_rk kd, 108) := by
  refine SK.of (by decide) (by decide) rfl ?_
  refine GB.go 9999 rfl aB0 ?_
  refine GB.br rfl rfl (fun c => ?_) (fun c => ?_)
  · rw [bI_1 c]
    refine GB.go 9999 rfl aB0 ?_
    exact GB.ret rfl rfl (aB1 (by decide) aB0)
  · rw [bI_0 c]
    refine GB.go 9999 rfl aB0 ?_
    exact GB.ret rfl rfl (aB1 (by decide) aB0)
theorem k_range (s : Nat) (a n : Int32) : SK l X 1 43 [vR 23 s, vI a, vI n] (ii, jj, mj_rk kd, 108) (some (vI (bI (decide (¬ a < 0 ∧ ¬ n < 0 ∧ ¬ ii 23 s 2 - n < a))))) (ii, jj, mj_rk kd, 108) := by
  refine SK.of (by decide) (by decide) rfl ?_
  refine GB.go 9999 rfl aB0 ?_
  refine GB.br rfl rfl (fun c => ?_) (fun c => ?_)
  · rw [bI_0 (fun h => h.1 c)]
    refine GB.go 9999 rfl aB0 ?_
    exact GB.ret rfl rfl (aB1 (by decide) aB0)
  · refine GB.go 9999 rfl aB0 ?_
    refine GB.br rfl rfl (fun c2 => ?_) (fun c2 => ?_)
    · rw [bI_0 (fun h => h.2.1 c2)]
      refine GB.go 9999 rfl aB0 ?_
      exact GB.ret rfl rfl (aB1 (by decide) aB0)
    · refine GB.go 9999 rfl aB0 ?_
      refine GB.br rfl rfl (fun c3 => ?_) (fun c3 => ?_)
      · rw [bI_0 (fun h => h.2.2 c3)]
        refine GB.go 9999 rfl aB0 ?_
        exact GB.ret rfl rfl (aB1 (by decide) aB0)
      · rw [bI_1 ⟨c, c2, c3⟩]
        refine GB.go 9999 rfl aB0 ?_
        exact GB.ret rfl rfl (aB1 (by decide) aB0)
theorem k_put (s i z : Nat) (v : Int64) (hz : ii 23 s 2 = nI z) (hzl : z ≤ 40) (hi : i < z) : SK l X 1 44 [vR 23 s, vI (nI i), vL v] (ii, jj, mj_rk kd, 108) none (ii, up3 jj 24 s i (ctO (ii 23 s 1) v), mj_rk kd, 108) := by
  refine SK.of (by decide) (by decide) rfl ?_
  refine GB.go 9999 rfl aB0 ?_
  refine GB.br rfl rfl (fun c => ?_) (fun c => ?_)
  · exact absurd c (nI_pos (by omega))
  · refine GB.go 9999 rfl aB0 ?_
    rw [hz]
    refine GB.br rfl rfl (fun c2 => ?_) (fun c2 => ?_)
    · unfold ctO
      refine GB.go 9999 rfl aB0 ?_
      refine GB.br rfl rfl (fun c3 => ?_) (fun c3 => ?_)
      · rw [if_pos c3]
        refine GB.go 31 rfl aB0 ?_
        refine GB.go 32 rfl (aB1 (mn_vin (show i < 40 by omega) (by decide)) aB0) ?_
        rw [nI_clamp (show i < 2 ^ 31 by omega)]
        refine GB.go 9999 rfl aB0 ?_
        exact GB.ret rfl rfl aB0
      · rw [if_neg c3]
        refine GB.go 9999 rfl aB0 ?_
        refine GB.br rfl rfl (fun c4 => ?_) (fun c4 => ?_)
        · rw [if_pos c4]
          refine GB.go 53 rfl aB0 ?_
          refine GB.go 54 rfl (aB1 (mn_vin (show i < 40 by omega) (by decide)) aB0) ?_
          rw [nI_clamp (show i < 2 ^ 31 by omega)]
          refine GB.go 9999 rfl aB0 ?_
          exact GB.ret rfl rfl aB0
        · rw [if_neg c4]
          refine GB.go 63 rfl aB0 ?_
          refine GB.go 64 rfl (aB1 (mn_vin (show i < 40 by omega) (by decide)) aB0) ?_
          rw [nI_clamp (show i < 2 ^ 31 by omega)]
          exact GB.ret rfl rfl aB0
    · exact absurd (nI_lt hi (by omega)) c2
theorem c_sheet0 (v b n : Int32) (h : ¬ (uT v 3 = true ∧ (b = 0 ∨ b = 8 ∨ b = 16 ∨ b = 64))) : SK l X 4 105 [vR 5 0, vI v, vI b, vI n] (ii, jj, mj_rk kd, 108) (some (vI (fA 0))) (fnd ii 0, jj, mj_rk kd, 108) := by
  refine SK.of (by decide) (by decide) rfl ?_
  have tail : GB l X 4 0 0 105 (14, [some (vR 5 0), some (vI v), some (vI b), some (vI n)], [], (ii, jj, mj_rk kd, 108)) (some (vI (fA 0))) (fnd ii 0, jj, mj_rk kd, 108) := by
    refine GB.go 9999 rfl aB0 ?_
    refine GB.cal rfl rfl (by decide) (k_finding 0 (by decide)) ?_
    exact GB.ret rfl rfl aB0
  refine GB.go 9999 rfl aB0 ?_
  refine GB.cal rfl rfl (by decide) (k_isSheet _ v) ?_
  refine GB.br rfl rfl (fun c => ?_) (fun c => ?_)
  · exact tail
  · refine GB.go 9999 rfl aB0 ?_
    refine GB.cal rfl rfl (by decide) (k_areBits _ b) ?_
    refine GB.br rfl rfl (fun c2 => ?_) (fun c2 => ?_)
    · exact tail
    · exact absurd ⟨bI_t c, bd_t c2⟩ h
theorem c_sheetW (v b n : Int32) (h : uT v 3 = true ∧ (b = 0 ∨ b = 8 ∨ b = 16 ∨ b = 64)) {r : Option MV} {h' : MH} (k : GB l X 4 0 0 105 (20, [some (vR 5 0), some (vI v), some (vI b), some (vI n)], [], (ii, jj, mj_rk kd, 108)) r h') : SK l X 4 105 [vR 5 0, vI v, vI b, vI n] (ii, jj, mj_rk kd, 108) r h' := by
  refine SK.of (by decide) (by decide) rfl ?_
  refine GB.go 9999 rfl aB0 ?_
  refine GB.cal rfl rfl (by decide) (k_isSheet _ v) ?_
  refine GB.br rfl rfl (fun c => ?_) (fun c => ?_)
  · exact absurd c (b0_of h.1)
  · refine GB.go 9999 rfl aB0 ?_
    refine GB.cal rfl rfl (by decide) (k_areBits _ b) ?_
    refine GB.br rfl rfl (fun c2 => ?_) (fun c2 => ?_)
    · exact absurd h.2 (bd_f c2)
    · exact k
theorem c_sheet1 (v b n : Int32) (h : uT v 3 = true ∧ (b = 0 ∨ b = 8 ∨ b = 16 ∨ b = 64)) (hn : n < 0) : SK l X 4 105 [vR 5 0, vI v, vI b, vI n] (ii, jj, mj_rk kd, 108) (some (vI (fA 6))) (fnd ii 6, jj, mj_rk kd, 108) := by
  refine c_sheetW v b n h ?_
  refine GB.go 9999 rfl aB0 ?_
  refine GB.br rfl rfl (fun c => ?_) (fun c => ?_)
  · exact absurd hn (Int32.not_lt.mpr c)
  · refine GB.go 9999 rfl aB0 ?_
    refine GB.cal rfl rfl (by decide) (k_finding 6 (by decide)) ?_
    exact GB.ret rfl rfl aB0
theorem c_sheet2 (v b n : Int32) (h : uT v 3 = true ∧ (b = 0 ∨ b = 8 ∨ b = 16 ∨ b = 64)) (hn : ¬ n < 0) (h40 : ¬ n ≤ 40) : SK l X 4 105 [vR 5 0, vI v, vI b, vI n] (ii, jj, mj_rk kd, 108) (some (vI (fA 0))) (fnd ii 0, jj, mj_rk kd, 108) := by
  refine c_sheetW v b n h ?_
  refine GB.go 9999 rfl aB0 ?_
  refine GB.br rfl rfl (fun c => ?_) (fun c => ?_)
  · refine GB.go 9999 rfl aB0 ?_
    refine GB.br rfl rfl (fun c2 => ?_) (fun c2 => ?_)
    · exact absurd c2 h40
    · refine GB.go 9999 rfl aB0 ?_
      refine GB.cal rfl rfl (by decide) (k_finding 0 (by decide)) ?_
      exact GB.ret rfl rfl aB0
  · exact absurd (Int32.not_lt.mp hn) c
theorem c_sheet (s : Nat) (b n : Int32) (hs : s < 4) (hb : b = 0 ∨ b = 8 ∨ b = 16 ∨ b = 64) (hn : ¬ n < 0) (h40 : n ≤ 40) : SK l X 4 105 [vR 5 0, vI (nI s), vI b, vI n] (ii, jj, mj_rk kd, 108) (some (vI (szO b n))) (up3 (up3 ii 23 s 1 b) 23 s 2 (szO b n), wA jj 24 s 40 (fun _ => 0), mj_rk kd, 108) := by
  refine c_sheetW (nI s) b n ⟨uT_ok (show s ≤ 3 by omega) (by decide), hb⟩ ?_
  refine GB.go 9999 rfl aB0 ?_
  refine GB.br rfl rfl (fun c => ?_) (fun c => ?_)
  · refine GB.go 9999 rfl aB0 ?_
    refine GB.br rfl rfl (fun c2 => ?_) (fun c2 => ?_)
    · refine GB.go 49 rfl (aB1 (mn_vin (show s < 4 by omega) (by decide)) aB0) ?_
      rw [nI_clamp (show s < 2 ^ 31 by omega)]
      refine GB.go 9999 rfl aB0 ?_
      refine GB.br rfl rfl (fun c3 => ?_) (fun c3 => ?_)
      · rw [show szO b n = 0 from if_pos c3]
        refine GB.go 9999 rfl aB0 ?_
        refine GB.cal rfl rfl (by decide) (k_shBegin s b 0) ?_
        refine GB.go 68 rfl (aB1 (mn_vin (show s < 4 by omega) (by decide)) aB0) ?_
        rw [nI_clamp (show s < 2 ^ 31 by omega)]
        refine GB.go 9999 rfl aB0 ?_
        rw [up3_rd]
        exact GB.ret rfl rfl aB0
      · rw [show szO b n = n from if_neg c3]
        refine GB.go 9999 rfl aB0 ?_
        refine GB.cal rfl rfl (by decide) (k_shBegin s b n) ?_
        refine GB.go 68 rfl (aB1 (mn_vin (show s < 4 by omega) (by decide)) aB0) ?_
        rw [nI_clamp (show s < 2 ^ 31 by omega)]
        refine GB.go 9999 rfl aB0 ?_
        rw [up3_rd]
        exact GB.ret rfl rfl aB0
    · exact absurd h40 c2
  · exact absurd (Int32.not_lt.mp hn) c
theorem c_write0 (v i : Int32) (x : Int64) (h : uT v 3 = false) : SK l X 4 106 [vR 5 0, vI v, vI i, vL x] (ii, jj, mj_rk kd, 108) (some (vL (fA 0).toInt64)) (fnd ii 0, jj, mj_rk kd, 108) := by
  refine SK.of (by decide) (by decide) rfl ?_
  refine GB.go 9999 rfl aB0 ?_
  refine GB.cal rfl rfl (by decide) (k_isSheet _ v) ?_
  rw [h]
  refine GB.br rfl rfl (fun c => ?_) (fun c => ?_)
  · refine GB.go 9999 rfl aB0 ?_
    refine GB.cal rfl rfl (by decide) (k_finding 0 (by decide)) ?_
    refine GB.go 9999 rfl aB0 ?_
    exact GB.ret rfl rfl aB0
  · exact absurd rfl c
theorem c_write1 (s : Nat) (i : Int32) (x : Int64) (hs : s < 4) (hb : ii 23 s 1 = 0) : SK l X 4 106 [vR 5 0, vI (nI s), vI i, vL x] (ii, jj, mj_rk kd, 108) (some (vL (fA 5).toInt64)) (fnd ii 5, jj, mj_rk kd, 108) := by
  refine SK.of (by decide) (by decide) rfl ?_
  refine GB.go 9999 rfl aB0 ?_
  refine GB.cal rfl rfl (by decide) (k_isSheet _ _) ?_
  refine GB.br rfl rfl (fun c => ?_) (fun c => ?_)
  · exact absurd c (b0_of (uT_ok (show s ≤ 3 by omega) (by decide)))
  · refine GB.go 20 rfl (aB1 (mn_vin (show s < 4 by omega) (by decide)) aB0) ?_
    rw [nI_clamp (show s < 2 ^ 31 by omega)]
    refine GB.cal rfl rfl (by decide) (k_miss s) ?_
    refine GB.br rfl rfl (fun c2 => ?_) (fun c2 => ?_)
    · exact absurd hb (bd_f c2)
    · refine GB.go 9999 rfl aB0 ?_
      refine GB.cal rfl rfl (by decide) (k_finding 5 (by decide)) ?_
      refine GB.go 9999 rfl aB0 ?_
      exact GB.ret rfl rfl aB0
theorem c_write2 (s : Nat) (i : Int32) (x : Int64) (hs : s < 4) (hb : ¬ ii 23 s 1 = 0) (hi : ¬ (¬ i < 0 ∧ ¬ ii 23 s 2 ≤ i)) : SK l X 4 106 [vR 5 0, vI (nI s), vI i, vL x] (ii, jj, mj_rk kd, 108) (some (vL (fA 0).toInt64)) (fnd ii 0, jj, mj_rk kd, 108) := by
  refine SK.of (by decide) (by decide) rfl ?_
  have tail : GB l X 4 0 0 106 (50, [some (vR 5 0), some (vI (nI s)), some (vI i), some (vL x), none, none, none], [], (ii, jj, mj_rk kd, 108)) (some (vL (fA 0).toInt64)) (fnd ii 0, jj, mj_rk kd, 108) := by
    refine GB.go 9999 rfl aB0 ?_
    refine GB.cal rfl rfl (by decide) (k_finding 0 (by decide)) ?_
    refine GB.go 9999 rfl aB0 ?_
    exact GB.ret rfl rfl aB0
  refine GB.go 9999 rfl aB0 ?_
  refine GB.cal rfl rfl (by decide) (k_isSheet _ _) ?_
  refine GB.br rfl rfl (fun c => ?_) (fun c => ?_)
  · exact absurd c (b0_of (uT_ok (show s ≤ 3 by omega) (by decide)))
  · refine GB.go 20 rfl (aB1 (mn_vin (show s < 4 by omega) (by decide)) aB0) ?_
    rw [nI_clamp (show s < 2 ^ 31 by omega)]
    refine GB.cal rfl rfl (by decide) (k_miss s) ?_
    refine GB.br rfl rfl (fun c2 => ?_) (fun c2 => ?_)
    · refine GB.go 9999 rfl aB0 ?_
      refine GB.br rfl rfl (fun c3 => ?_) (fun c3 => ?_)
      · exact tail
      · refine GB.go 44 rfl (aB1 (mn_vin (show s < 4 by omega) (by decide)) aB0) ?_
        rw [nI_clamp (show s < 2 ^ 31 by omega)]
        refine GB.go 9999 rfl aB0 ?_
        refine GB.br rfl rfl (fun c4 => ?_) (fun c4 => ?_)
        · exact absurd ⟨c3, Int32.not_le.mpr c4⟩ hi
        · exact tail
    · exact absurd (bd_t c2) hb
theorem c_write (s z i : Nat) (x : Int64) (hs : s < 4) (hb : ¬ ii 23 s 1 = 0) (hz : ii 23 s 2 = nI z) (hzl : z ≤ 40) (hi : i < z) : SK l X 4 106 [vR 5 0, vI (nI s), vI (nI i), vL x] (ii, jj, mj_rk kd, 108) (some (vL (jj 24 s i))) (ii, up3 jj 24 s i (ctO (ii 23 s 1) x), mj_rk kd, 108) := by
  refine SK.of (by decide) (by decide) rfl ?_
  refine GB.go 9999 rfl aB0 ?_
  refine GB.cal rfl rfl (by decide) (k_isSheet _ _) ?_
  refine GB.br rfl rfl (fun c => ?_) (fun c => ?_)
  · exact absurd c (b0_of (uT_ok (show s ≤ 3 by omega) (by decide)))
  · refine GB.go 20 rfl (aB1 (mn_vin (show s < 4 by omega) (by decide)) aB0) ?_
    rw [nI_clamp (show s < 2 ^ 31 by omega)]
    refine GB.cal rfl rfl (by decide) (k_miss s) ?_
    refine GB.br rfl rfl (fun c2 => ?_) (fun c2 => ?_)
    · refine GB.go 9999 rfl aB0 ?_
      refine GB.br rfl rfl (fun c3 => ?_) (fun c3 => ?_)
      · exact absurd c3 (nI_pos (by omega))
      · refine GB.go 44 rfl (aB1 (mn_vin (show s < 4 by omega) (by decide)) aB0) ?_
        rw [nI_clamp (show s < 2 ^ 31 by omega)]
        refine GB.go 9999 rfl aB0 ?_
        rw [hz]
        refine GB.br rfl rfl (fun c4 => ?_) (fun c4 => ?_)
        · refine GB.go 63 rfl (aB1 (mn_vin (show s < 4 by omega) (by decide)) aB0) ?_
          rw [nI_clamp (show s < 2 ^ 31 by omega)]
          refine GB.go 67 rfl aB0 ?_
          refine GB.go 68 rfl (aB1 (mn_vin (show i < 40 by omega) (by decide)) aB0) ?_
          rw [nI_clamp (show i < 2 ^ 31 by omega)]
          refine GB.go 76 rfl (aB1 (mn_vin (show s < 4 by omega) (by decide)) aB0) ?_
          rw [nI_clamp (show s < 2 ^ 31 by omega)]
          refine GB.go 9999 rfl aB0 ?_
          refine GB.cal rfl rfl (by decide) (k_put s i z x hz hzl hi) ?_
          refine GB.go 9999 rfl aB0 ?_
          exact GB.ret rfl rfl aB0
        · exact absurd (nI_lt hi (by omega)) c4
    · exact absurd (bd_t c2) hb
theorem c_copy0 (s a t b n : Int32) (h : ¬ (uT s 3 = true ∧ uT t 3 = true)) : SK l X 4 107 [vR 5 0, vI s, vI a, vI t, vI b, vI n] (ii, jj, mj_rk kd, 108) (some (vI (fA 0))) (fnd ii 0, jj, mj_rk kd, 108) := by
  refine SK.of (by decide) (by decide) rfl ?_
  have tail : GB l X 4 0 0 107 (14, [some (vR 5 0), some (vI s), some (vI a), some (vI t), some (vI b), some (vI n), none, none], [], (ii, jj, mj_rk kd, 108)) (some (vI (fA 0))) (fnd ii 0, jj, mj_rk kd, 108) := by
    refine GB.go 9999 rfl aB0 ?_
    refine GB.cal rfl rfl (by decide) (k_finding 0 (by decide)) ?_
    exact GB.ret rfl rfl aB0
  refine GB.go 9999 rfl aB0 ?_
  refine GB.cal rfl rfl (by decide) (k_isSheet _ s) ?_
  refine GB.br rfl rfl (fun c => ?_) (fun c => ?_)
  · exact tail
  · refine GB.go 9999 rfl aB0 ?_
    refine GB.cal rfl rfl (by decide) (k_isSheet _ t) ?_
    refine GB.br rfl rfl (fun c2 => ?_) (fun c2 => ?_)
    · exact tail
    · exact absurd ⟨bI_t c, bI_t c2⟩ h
/-- why the class copies not -/
def ccO (ii : Nat → Nat → Nat → Int32) (s : Nat) (a : Int32) (t : Nat) (b n : Int32) : Option Nat :=
  if ii 23 s 1 = 0 ∨ ii 23 t 1 = 0 then some 5 else if ¬ ii 23 s 1 = ii 23 t 1 then some 2 else if (¬ a < 0 ∧ ¬ n < 0 ∧ ¬ ii 23 s 2 - n < a) ∧ (¬ b < 0 ∧ ¬ n < 0 ∧ ¬ ii 23 t 2 - n < b) then none else some 0
theorem c_copyW (s : Nat) (a : Int32) (t : Nat) (b n : Int32) (hs : s < 4) (ht : t < 4) {r : Option MV} {h' : MH} (k : GB l X 4 0 0 107 (36, [some (vR 5 0), some (vI (nI s)), some (vI a), some (vI (nI t)), some (vI b), some (vI n), some (vR 23 s), some (vR 23 t)], [], (ii, jj, mj_rk kd, 108)) r h') : SK l X 4 107 [vR 5 0, vI (nI s), vI a, vI (nI t), vI b, vI n] (ii, jj, mj_rk kd, 108) r h' := by
  refine SK.of (by decide) (by decide) rfl ?_
  refine GB.go 9999 rfl aB0 ?_
  refine GB.cal rfl rfl (by decide) (k_isSheet _ _) ?_
  refine GB.br rfl rfl (fun c => ?_) (fun c => ?_)
  · exact absurd c (b0_of (uT_ok (show s ≤ 3 by omega) (by decide)))
  · refine GB.go 9999 rfl aB0 ?_
    refine GB.cal rfl rfl (by decide) (k_isSheet _ _) ?_
    refine GB.br rfl rfl (fun c2 => ?_) (fun c2 => ?_)
    · exact absurd c2 (b0_of (uT_ok (show t ≤ 3 by omega) (by decide)))
    · refine GB.go 26 rfl (aB1 (mn_vin (show s < 4 by omega) (by decide)) aB0) ?_
      rw [nI_clamp (show s < 2 ^ 31 by omega)]
      refine GB.go 34 rfl (aB1 (mn_vin (show t < 4 by omega) (by decide)) aB0) ?_
      rw [nI_clamp (show t < 2 ^ 31 by omega)]
      refine GB.go 36 rfl aB0 ?_
      exact k
theorem c_copy1 (s : Nat) (a : Int32) (t : Nat) (b n : Int32) (hs : s < 4) (ht : t < 4) (k : Nat) (e : ccO ii s a t b n = some k) : SK l X 4 107 [vR 5 0, vI (nI s), vI a, vI (nI t), vI b, vI n] (ii, jj, mj_rk kd, 108) (some (vI (fA k))) (fnd ii k, jj, mj_rk kd, 108) := by
  refine c_copyW s a t b n hs ht ?_
  have miss : ii 23 s 1 = 0 ∨ ii 23 t 1 = 0 → GB l X 4 0 0 107 (52, [some (vR 5 0), some (vI (nI s)), some (vI a), some (vI (nI t)), some (vI b), some (vI n), some (vR 23 s), some (vR 23 t)], [], (ii, jj, mj_rk kd, 108)) (some (vI (fA k))) (fnd ii k, jj, mj_rk kd, 108) := fun h => by
    rw [show ccO ii s a t b n = some 5 from if_pos h] at e
    rw [show k = 5 from (Option.some.inj e).symm]
    refine GB.go 9999 rfl aB0 ?_
    refine GB.cal rfl rfl (by decide) (k_finding 5 (by decide)) ?_
    exact GB.ret rfl rfl aB0
  refine GB.go 9999 rfl aB0 ?_
  refine GB.cal rfl rfl (by decide) (k_miss s) ?_
  refine GB.br rfl rfl (fun c => ?_) (fun c => ?_)
  · refine GB.go 9999 rfl aB0 ?_
    refine GB.cal rfl rfl (by decide) (k_miss t) ?_
    refine GB.br rfl rfl (fun c2 => ?_) (fun c2 => ?_)
    · have q1 : ¬ (ii 23 s 1 = 0 ∨ ii 23 t 1 = 0) := by rintro (h | h); exact bd_f c h; exact bd_f c2 h
      refine GB.go 9999 rfl aB0 ?_
      refine GB.br rfl rfl (fun c3 => ?_) (fun c3 => ?_)
      · have no : ¬ ((¬ a < 0 ∧ ¬ n < 0 ∧ ¬ ii 23 s 2 - n < a) ∧ (¬ b < 0 ∧ ¬ n < 0 ∧ ¬ ii 23 t 2 - n < b)) → GB l X 4 0 0 107 (100, [some (vR 5 0), some (vI (nI s)), some (vI a), some (vI (nI t)), some (vI b), some (vI n), some (vR 23 s), some (vR 23 t)], [], (ii, jj, mj_rk kd, 108)) (some (vI (fA k))) (fnd ii k, jj, mj_rk kd, 108) := fun h => by
          rw [show ccO ii s a t b n = some 0 from (if_neg q1).trans ((if_neg (not_not_intro c3)).trans (if_neg h))] at e
          rw [show k = 0 from (Option.some.inj e).symm]
          refine GB.go 9999 rfl aB0 ?_
          refine GB.cal rfl rfl (by decide) (k_finding 0 (by decide)) ?_
          exact GB.ret rfl rfl aB0
        refine GB.go 9999 rfl aB0 ?_
        refine GB.cal rfl rfl (by decide) (k_range s a n) ?_
        refine GB.br rfl rfl (fun c4 => ?_) (fun c4 => ?_)
        · exact no (fun h => bd_f c4 h.1)
        · refine GB.go 9999 rfl aB0 ?_
          refine GB.cal rfl rfl (by decide) (k_range t b n) ?_
          refine GB.br rfl rfl (fun c5 => ?_) (fun c5 => ?_)
          · exact no (fun h => bd_f c5 h.2)
          · rw [show ccO ii s a t b n = none from (if_neg q1).trans ((if_neg (not_not_intro c3)).trans (if_pos ⟨bd_t c4, bd_t c5⟩))] at e
            cases e
      · rw [show ccO ii s a t b n = some 2 from (if_neg q1).trans (if_pos c3)] at e
        rw [show k = 2 from (Option.some.inj e).symm]
        refine GB.go 9999 rfl aB0 ?_
        refine GB.cal rfl rfl (by decide) (k_finding 2 (by decide)) ?_
        exact GB.ret rfl rfl aB0
    · exact miss (Or.inr (bd_t c2))
  · exact miss (Or.inl (bd_t c))
theorem c_copy (s t a b n : Nat) (hs : s < 4) (ht : t < 4) (ha : a + n ≤ 40) (hb : b + n ≤ 40) (e : ccO ii s (nI a) t (nI b) (nI n) = none) : SK l X 4 107 [vR 5 0, vI (nI s), vI (nI a), vI (nI t), vI (nI b), vI (nI n)] (ii, jj, mj_rk kd, 108) (some (vI (nI n))) (ii, upA jj 24 t (va_cpy (jj 24 s) (jj 24 t) a b n), mj_rk kd, 108) := by
  refine c_copyW s (nI a) t (nI b) (nI n) hs ht ?_
  have q1 : ¬ (ii 23 s 1 = 0 ∨ ii 23 t 1 = 0) := fun h => by
    rw [show ccO ii s (nI a) t (nI b) (nI n) = some 5 from if_pos h] at e
    cases e
  have q2 : ii 23 s 1 = ii 23 t 1 := Classical.not_not.mp (fun h => by
    rw [show ccO ii s (nI a) t (nI b) (nI n) = some 2 from (if_neg q1).trans (if_pos h)] at e
    cases e)
  have q3 : (¬ nI a < 0 ∧ ¬ nI n < 0 ∧ ¬ ii 23 s 2 - nI n < nI a) ∧ (¬ nI b < 0 ∧ ¬ nI n < 0 ∧ ¬ ii 23 t 2 - nI n < nI b) := Classical.not_not.mp (fun h => by
    rw [show ccO ii s (nI a) t (nI b) (nI n) = some 0 from (if_neg q1).trans ((if_neg (not_not_intro q2)).trans (if_neg h))] at e
    cases e)
  refine GB.go 9999 rfl aB0 ?_
  refine GB.cal rfl rfl (by decide) (k_miss s) ?_
  refine GB.br rfl rfl (fun c => ?_) (fun c => ?_)
  · refine GB.go 9999 rfl aB0 ?_
    refine GB.cal rfl rfl (by decide) (k_miss t) ?_
    refine GB.br rfl rfl (fun c2 => ?_) (fun c2 => ?_)
    · refine GB.go 9999 rfl aB0 ?_
      refine GB.br rfl rfl (fun c3 => ?_) (fun c3 => ?_)
      · refine GB.go 9999 rfl aB0 ?_
        refine GB.cal rfl rfl (by decide) (k_range s _ _) ?_
        refine GB.br rfl rfl (fun c4 => ?_) (fun c4 => ?_)
        · exact absurd q3.1 (bd_f c4)
        · refine GB.go 9999 rfl aB0 ?_
          refine GB.cal rfl rfl (by decide) (k_range t _ _) ?_
          refine GB.br rfl rfl (fun c5 => ?_) (fun c5 => ?_)
          · exact absurd q3.2 (bd_f c5)
          · have e1 := nI_clamp (show a < 2 ^ 31 by omega)
            have e2 := nI_clamp (show b < 2 ^ 31 by omega)
            have e3 := nI_clamp (show n < 2 ^ 31 by omega)
            refine GB.go 121 rfl aB0 ?_
            refine GB.go 124 rfl (aB1 (decide_eq_true (nI_pos (by omega))) (aB1 (decide_eq_true (nI_pos (by omega))) (aB1 (decide_eq_true (nI_pos (by omega))) (aB1 (decide_eq_true (by rw [e1, e3]; exact ha)) (aB1 (decide_eq_true (by rw [e2, e3]; exact hb)) aB0))))) ?_
            rw [e1, e2, e3]
            refine GB.go 9999 rfl aB0 ?_
            exact GB.ret rfl rfl aB0
      · exact absurd q2 c3
    · exact absurd (Or.inr (bd_t c2)) q1
  · exact absurd (Or.inl (bd_t c)) q1
theorem c_lays0 (v : Int32) (h : uT v 3 = false) : SK l X 4 108 [vR 5 0, vI v] (ii, jj, mj_rk kd, 108) (some (vI (fA 0))) (fnd ii 0, jj, mj_rk kd, 108) := by
  refine SK.of (by decide) (by decide) rfl ?_
  refine GB.go 9999 rfl aB0 ?_
  refine GB.cal rfl rfl (by decide) (k_isSheet _ v) ?_
  rw [h]
  refine GB.br rfl rfl (fun c => ?_) (fun c => ?_)
  · refine GB.go 9999 rfl aB0 ?_
    refine GB.cal rfl rfl (by decide) (k_finding 0 (by decide)) ?_
    exact GB.ret rfl rfl aB0
  · exact absurd rfl c
theorem c_lays1 (s : Nat) (hs : s < 4) (hb : ii 23 s 1 = 0) : SK l X 4 108 [vR 5 0, vI (nI s)] (ii, jj, mj_rk kd, 108) (some (vI (fA 5))) (fnd ii 5, jj, mj_rk kd, 108) := by
  refine SK.of (by decide) (by decide) rfl ?_
  refine GB.go 9999 rfl aB0 ?_
  refine GB.cal rfl rfl (by decide) (k_isSheet _ _) ?_
  refine GB.br rfl rfl (fun c => ?_) (fun c => ?_)
  · exact absurd c (b0_of (uT_ok (show s ≤ 3 by omega) (by decide)))
  · refine GB.go 19 rfl (aB1 (mn_vin (show s < 4 by omega) (by decide)) aB0) ?_
    rw [nI_clamp (show s < 2 ^ 31 by omega)]
    refine GB.go 9999 rfl aB0 ?_
    refine GB.cal rfl rfl (by decide) (k_miss s) ?_
    refine GB.br rfl rfl (fun c2 => ?_) (fun c2 => ?_)
    · exact absurd hb (bd_f c2)
    · refine GB.go 9999 rfl aB0 ?_
      refine GB.cal rfl rfl (by decide) (k_finding 5 (by decide)) ?_
      exact GB.ret rfl rfl aB0
/-- pledges laid in the class -/
def lyC (ii : Nat → Nat → Nat → Int32) (f : Nat → Int64) : Nat → Nat → Nat → Nat → Int32
  | 0 => ii
  | k + 1 => cond (lyB (f k)) (up3 (lyC ii f k) 20 k 2 (f k).toInt32) (lyC ii f k)
theorem lyC_tag {f : Nat → Int64} {a : Nat} (h : a ≠ 20) : ∀ k, lyC ii f k a = ii a
  | 0 => rfl
  | k + 1 => by
    unfold lyC
    cases lyB (f k)
    · exact lyC_tag h k
    · exact (up3_tag h).trans (lyC_tag h k)
theorem c_lays (s z n : Nat) (hs : s < 4) (hb : ¬ ii 23 s 1 = 0) (hz : ii 23 s 2 = nI z) (hzl : z ≤ 40) (hn : n ≤ 8) (h0 : ii 17 0 2 = nI n) : SK l X 4 108 [vR 5 0, vI (nI s)] (ii, jj, mj_rk kd, 108) (some (vI (lyN (jj 24 s) (min z n)))) (lyC ii (jj 24 s) (min z n), jj, mj_rk kd, 108) := by
  refine SK.of (by decide) (by decide) rfl ?_
  refine GB.go 9999 rfl aB0 ?_
  refine GB.cal rfl rfl (by decide) (k_isSheet _ _) ?_
  refine GB.br rfl rfl (fun c => ?_) (fun c => ?_)
  · exact absurd c (b0_of (uT_ok (show s ≤ 3 by omega) (by decide)))
  · refine GB.go 19 rfl (aB1 (mn_vin (show s < 4 by omega) (by decide)) aB0) ?_
    rw [nI_clamp (show s < 2 ^ 31 by omega)]
    refine GB.go 9999 rfl aB0 ?_
    refine GB.cal rfl rfl (by decide) (k_miss s) ?_
    refine GB.br rfl rfl (fun c2 => ?_) (fun c2 => ?_)
    · refine GB.go 38 rfl aB0 ?_
      refine GB.upto (min z n) (fun k => (38, [some (vR 5 0), some (vI (nI s)), some (vR 23 s), some (vI (lyN (jj 24 s) k)), some (vI (nI k)), lsL (jj 24 s) k, none], [], (lyC ii (jj 24 s) k, jj, mj_rk kd, 108))) (fun k hk ih => ?_) ?_ (min z n) 0 (by omega)
      · rw [nI_succ k] at ih
        refine GB.go 9999 rfl aB0 ?_
        rw [lyC_tag (by decide), h0]
        refine GB.br rfl rfl (fun c3 => ?_) (fun c3 => ?_)
        · exact absurd c3 (nI_ge (show k < n by omega) (by omega))
        · refine GB.go 9999 rfl aB0 ?_
          rw [lyC_tag (by decide), hz]
          refine GB.br rfl rfl (fun c4 => ?_) (fun c4 => ?_)
          · exact absurd c4 (nI_ge (show k < z by omega) (by omega))
          · refine GB.go 66 rfl (aB1 (mn_vin (show k < 40 by omega) (by decide)) aB0) ?_
            rw [nI_clamp (show k < 2 ^ 31 by omega)]
            have off : lyB (jj 24 s k) = false → GB l X 4 0 0 108 (103, [some (vR 5 0), some (vI (nI s)), some (vR 23 s), some (vI (lyN (jj 24 s) k)), some (vI (nI k)), some (vL (jj 24 s k)), none], [], (lyC ii (jj 24 s) k, jj, mj_rk kd, 108)) (some (vI (lyN (jj 24 s) (min z n)))) (lyC ii (jj 24 s) (min z n), jj, mj_rk kd, 108) := fun e => by
              rw [show lyN (jj 24 s) (k + 1) = lyN (jj 24 s) k by rw [lyN, e]; rfl, show lyC ii (jj 24 s) (k + 1) = lyC ii (jj 24 s) k by rw [lyC, e]; rfl] at ih
              refine GB.go 38 rfl aB0 ?_
              exact ih
            refine GB.go 9999 rfl aB0 ?_
            refine GB.br rfl rfl (fun c5 => ?_) (fun c5 => ?_)
            · exact off (decide_eq_false (fun h => h.1 (cm_lt.mp c5)))
            · refine GB.go 9999 rfl aB0 ?_
              refine GB.br rfl rfl (fun c6 => ?_) (fun c6 => ?_)
              · exact off (decide_eq_false (fun h => h.2 (cm_gt.mp c6)))
              · have e : lyB (jj 24 s k) = true := decide_eq_true ⟨fun h => c5 (cm_lt.mpr h), fun h => c6 (cm_gt.mpr h)⟩
                rw [show lyN (jj 24 s) (k + 1) = lyN (jj 24 s) k + 1 by rw [lyN, e]; rfl, show lyC ii (jj 24 s) (k + 1) = up3 (lyC ii (jj 24 s) k) 20 k 2 (jj 24 s k).toInt32 by rw [lyC, e]; rfl] at ih
                refine GB.go 94 rfl (aB1 (mn_vin (show k < 8 by omega) (by decide)) aB0) ?_
                rw [nI_clamp (show k < 2 ^ 31 by omega)]
                refine GB.go 38 rfl aB0 ?_
                exact ih
      · refine GB.go 9999 rfl aB0 ?_
        rw [lyC_tag (by decide), h0]
        refine GB.br rfl rfl (fun c3 => ?_) (fun c3 => ?_)
        · refine GB.go 9999 rfl aB0 ?_
          exact GB.ret rfl rfl aB0
        · refine GB.go 9999 rfl aB0 ?_
          rw [lyC_tag (by decide), hz]
          refine GB.br rfl rfl (fun c4 => ?_) (fun c4 => ?_)
          · refine GB.go 9999 rfl aB0 ?_
            exact GB.ret rfl rfl aB0
          · exact absurd (nI_le (show z ≤ min z n from Nat.le_of_not_lt (fun q => c3 (nI_le (show n ≤ min z n by omega) (by omega)))) (by omega)) c4
    · exact absurd (bd_t c2) hb
end MP
