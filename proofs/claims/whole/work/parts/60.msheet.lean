/-! THE MODEL'S SHEETS -/
theorem sp_s (s k : Nat) : (40 : Int32) * nI s + nI k = nI (40 * s + k) := by
  rw [show (40 : Int32) * nI s = nI (40 * s) from nI_mul 40 s]; exact nI_add _ _
/-- cut to so many bits -/
def ctO (b : Int32) (v : Int64) : Int64 := if b = 8 then v.toInt32.toInt8.toInt32.toInt64 else if b = 16 then v.toInt32.toInt16.toInt32.toInt64 else v
/-- the first n numbers of a sheet written -/
def wL (jj : Nat → Nat → Nat → Int64) (s n : Nat) (F : Nat → Int64) : Nat → Nat → Nat → Int64 := fun a b c => if a = 33 ∧ b = 0 ∧ 40 * s ≤ c ∧ c < 40 * s + n then F (c - 40 * s) else jj a b c
section WL
variable {jj : Nat → Nat → Nat → Int64} {s n : Nat} {F : Nat → Int64}
theorem wL_0 : wL jj s 0 F = jj := by
  funext a b c
  unfold wL
  rw [if_neg (fun h => by omega)]
theorem wL_s : up3 (wL jj s n F) 33 0 (40 * s + n) (F n) = wL jj s (n + 1) F := by
  funext a b c
  unfold up3 wL
  by_cases h1 : a = 33 ∧ b = 0 ∧ c = 40 * s + n
  · rw [if_pos h1, if_pos ⟨h1.1, h1.2.1, by omega, by omega⟩, h1.2.2, Nat.add_sub_cancel_left]
  · rw [if_neg h1]
    by_cases h2 : a = 33 ∧ b = 0 ∧ 40 * s ≤ c ∧ c < 40 * s + n
    · rw [if_pos h2, if_pos ⟨h2.1, h2.2.1, h2.2.2.1, by omega⟩]
    · rw [if_neg h2, if_neg (fun h => by
        rcases Nat.lt_or_ge c (40 * s + n) with h3 | h3
        · exact h2 ⟨h.1, h.2.1, h.2.2.1, h3⟩
        · exact h1 ⟨h.1, h.2.1, by omega⟩)]
theorem wL_lt {k : Nat} (h : k < n) : wL jj s n F 33 0 (40 * s + k) = F k := by
  unfold wL
  rw [if_pos ⟨rfl, rfl, by omega, by omega⟩, Nat.add_sub_cancel_left]
theorem wL_out {c : Nat} (h : c < 40 * s ∨ 40 * s + n ≤ c) : wL jj s n F 33 0 c = jj 33 0 c := by
  unfold wL
  rw [if_neg (fun h2 => by omega)]
theorem wL_tag {a : Nat} (h : a ≠ 33) : wL jj s n F a = jj a := by
  funext b c
  unfold wL
  rw [if_neg (fun h2 => h h2.1)]
end WL
section MQ
variable {l : Launch} {X : FX} {ii : Nat → Nat → Nat → Int32} {jj : Nat → Nat → Nat → Int64} {kd : Nat → Nat}
theorem m_isSheet (h : MH) (v : Int32) : SK l X 2 204 [vI v] h (some (vI (bI (uT v 3)))) h := by
  refine SK.of (by decide) (by decide) rfl ?_
  obtain ⟨ii, jj, rr, n⟩ := h
  refine GB.go 9999 rfl aB0 ?_
  refine GB.cal rfl rfl (by decide) (m_up _ v 3) ?_
  exact GB.ret rfl rfl (aB1 (bI_ok _) aB0)
theorem m_noSh0 (v : Int32) (h : uT v 3 = false) : SK l X 3 206 [vR 25 0, vI v] (ii, jj, mj_rk kd, 108) (some (vI (fA 0))) (ii, jj, mj_rk kd, 108) := by
  refine SK.of (by decide) (by decide) rfl ?_
  refine GB.go 9999 rfl aB0 ?_
  refine GB.cal rfl rfl (by decide) (m_isSheet _ v) ?_
  rw [h]
  refine GB.br rfl rfl (fun c => ?_) (fun c => ?_)
  · refine GB.go 9999 rfl aB0 ?_
    exact GB.ret rfl rfl aB0
  · exact absurd rfl c
theorem m_noSh1 (s : Nat) (hs : s < 4) (hb : ii 31 0 s = 0) : SK l X 3 206 [vR 25 0, vI (nI s)] (ii, jj, mj_rk kd, 108) (some (vI (fA 5))) (ii, jj, mj_rk kd, 108) := by
  refine SK.of (by decide) (by decide) rfl ?_
  refine GB.go 9999 rfl aB0 ?_
  refine GB.cal rfl rfl (by decide) (m_isSheet _ _) ?_
  refine GB.br rfl rfl (fun c => ?_) (fun c => ?_)
  · exact absurd c (b0_of (uT_ok (show s ≤ 3 by omega) (by decide)))
  · refine GB.go 18 rfl (aB1 (mn_vin (show s < 4 by omega) (by decide)) aB0) ?_
    rw [nI_clamp (show s < 2 ^ 31 by omega)]
    refine GB.br rfl rfl (fun c2 => ?_) (fun c2 => ?_)
    · refine GB.go 9999 rfl aB0 ?_
      exact GB.ret rfl rfl aB0
    · exact absurd hb c2
theorem m_noSh (s : Nat) (hs : s < 4) (hb : ¬ ii 31 0 s = 0) : SK l X 3 206 [vR 25 0, vI (nI s)] (ii, jj, mj_rk kd, 108) (some (vI 0)) (ii, jj, mj_rk kd, 108) := by
  refine SK.of (by decide) (by decide) rfl ?_
  refine GB.go 9999 rfl aB0 ?_
  refine GB.cal rfl rfl (by decide) (m_isSheet _ _) ?_
  refine GB.br rfl rfl (fun c => ?_) (fun c => ?_)
  · exact absurd c (b0_of (uT_ok (show s ≤ 3 by omega) (by decide)))
  · refine GB.go 18 rfl (aB1 (mn_vin (show s < 4 by omega) (by decide)) aB0) ?_
    rw [nI_clamp (show s < 2 ^ 31 by omega)]
    refine GB.br rfl rfl (fun c2 => ?_) (fun c2 => ?_)
    · exact absurd c2 hb
    · refine GB.go 9999 rfl aB0 ?_
      exact GB.ret rfl rfl aB0
theorem m_cut (h : MH) (b : Int32) (v : Int64) : SK l X 1 207 [vI b, vL v] h (some (vL (ctO b v))) h := by
  refine SK.of (by decide) (by decide) rfl ?_
  obtain ⟨ii, jj, rr, n⟩ := h
  unfold ctO
  refine GB.go 9999 rfl aB0 ?_
  refine GB.br rfl rfl (fun c => ?_) (fun c => ?_)
  · rw [if_pos c]
    refine GB.go 9999 rfl aB0 ?_
    exact GB.ret rfl rfl aB0
  · rw [if_neg c]
    refine GB.go 9999 rfl aB0 ?_
    refine GB.br rfl rfl (fun c2 => ?_) (fun c2 => ?_)
    · rw [if_pos c2]
      refine GB.go 9999 rfl aB0 ?_
      exact GB.ret rfl rfl aB0
    · rw [if_neg c2]
      refine GB.go 9999 rfl aB0 ?_
      exact GB.ret rfl rfl aB0
theorem m_sheet0 (v b n : Int32) (h : ¬ (uT v 3 = true ∧ (b = 0 ∨ b = 8 ∨ b = 16 ∨ b = 64))) : SK l X 4 205 [vR 25 0, vI v, vI b, vI n] (ii, jj, mj_rk kd, 108) (some (vI (fA 0))) (fnm ii 0, jj, mj_rk kd, 108) := by
  refine SK.of (by decide) (by decide) rfl ?_
  have tail : GB l X 4 0 0 205 (29, [some (vR 25 0), some (vI v), some (vI b), some (vI n), none], [], (ii, jj, mj_rk kd, 108)) (some (vI (fA 0))) (fnm ii 0, jj, mj_rk kd, 108) := by
    refine GB.go 9999 rfl aB0 ?_
    refine GB.cal rfl rfl (by decide) (m_finds 0 (by decide)) ?_
    exact GB.ret rfl rfl aB0
  refine GB.go 9999 rfl aB0 ?_
  refine GB.cal rfl rfl (by decide) (m_isSheet _ v) ?_
  refine GB.br rfl rfl (fun c => ?_) (fun c => ?_)
  · exact tail
  · refine GB.go 9999 rfl aB0 ?_
    refine GB.br rfl rfl (fun c1 => ?_) (fun c1 => ?_)
    · exact absurd ⟨bI_t c, Or.inl c1⟩ h
    · refine GB.go 9999 rfl aB0 ?_
      refine GB.br rfl rfl (fun c2 => ?_) (fun c2 => ?_)
      · exact absurd ⟨bI_t c, Or.inr (Or.inl c2)⟩ h
      · refine GB.go 9999 rfl aB0 ?_
        refine GB.br rfl rfl (fun c3 => ?_) (fun c3 => ?_)
        · exact absurd ⟨bI_t c, Or.inr (Or.inr (Or.inl c3))⟩ h
        · refine GB.go 9999 rfl aB0 ?_
          refine GB.br rfl rfl (fun c4 => ?_) (fun c4 => ?_)
          · exact absurd ⟨bI_t c, Or.inr (Or.inr (Or.inr c4))⟩ h
          · exact tail
theorem m_sheetW (v b n : Int32) (h : uT v 3 = true ∧ (b = 0 ∨ b = 8 ∨ b = 16 ∨ b = 64)) {r : Option MV} {h' : MH} (k : GB l X 4 0 0 205 (36, [some (vR 25 0), some (vI v), some (vI b), some (vI n), none], [], (ii, jj, mj_rk kd, 108)) r h') : SK l X 4 205 [vR 25 0, vI v, vI b, vI n] (ii, jj, mj_rk kd, 108) r h' := by
  refine SK.of (by decide) (by decide) rfl ?_
  refine GB.go 9999 rfl aB0 ?_
  refine GB.cal rfl rfl (by decide) (m_isSheet _ v) ?_
  refine GB.br rfl rfl (fun c => ?_) (fun c => ?_)
  · exact absurd c (b0_of h.1)
  · refine GB.go 9999 rfl aB0 ?_
    refine GB.br rfl rfl (fun c1 => ?_) (fun c1 => ?_)
    · exact k
    · refine GB.go 9999 rfl aB0 ?_
      refine GB.br rfl rfl (fun c2 => ?_) (fun c2 => ?_)
      · exact k
      · refine GB.go 9999 rfl aB0 ?_
        refine GB.br rfl rfl (fun c3 => ?_) (fun c3 => ?_)
        · exact k
        · refine GB.go 9999 rfl aB0 ?_
          refine GB.br rfl rfl (fun c4 => ?_) (fun c4 => ?_)
          · exact k
          · exact absurd h.2 (by rintro (h | h | h | h) <;> contradiction)
theorem m_sheet1 (v b n : Int32) (h : uT v 3 = true ∧ (b = 0 ∨ b = 8 ∨ b = 16 ∨ b = 64)) (hn : n < 0) : SK l X 4 205 [vR 25 0, vI v, vI b, vI n] (ii, jj, mj_rk kd, 108) (some (vI (fA 6))) (fnm ii 6, jj, mj_rk kd, 108) := by
  refine m_sheetW v b n h ?_
  refine GB.go 9999 rfl aB0 ?_
  refine GB.br rfl rfl (fun c => ?_) (fun c => ?_)
  · exact absurd hn (Int32.not_lt.mpr c)
  · refine GB.go 9999 rfl aB0 ?_
    refine GB.cal rfl rfl (by decide) (m_finds 6 (by decide)) ?_
    exact GB.ret rfl rfl aB0
theorem m_sheet2 (v b n : Int32) (h : uT v 3 = true ∧ (b = 0 ∨ b = 8 ∨ b = 16 ∨ b = 64)) (hn : ¬ n < 0) (h40 : ¬ n ≤ 40) : SK l X 4 205 [vR 25 0, vI v, vI b, vI n] (ii, jj, mj_rk kd, 108) (some (vI (fA 0))) (fnm ii 0, jj, mj_rk kd, 108) := by
  refine m_sheetW v b n h ?_
  refine GB.go 9999 rfl aB0 ?_
  refine GB.br rfl rfl (fun c => ?_) (fun c => ?_)
  · refine GB.go 9999 rfl aB0 ?_
    refine GB.br rfl rfl (fun c2 => ?_) (fun c2 => ?_)
    · exact absurd c2 h40
    · refine GB.go 9999 rfl aB0 ?_
      refine GB.cal rfl rfl (by decide) (m_finds 0 (by decide)) ?_
      exact GB.ret rfl rfl aB0
  · exact absurd (Int32.not_lt.mp hn) c
/-- the size that a sheet comes to have -/
def szO (b n : Int32) : Int32 := if b = 0 then 0 else n
theorem m_sheet (s : Nat) (b n : Int32) (hs : s < 4) (hb : b = 0 ∨ b = 8 ∨ b = 16 ∨ b = 64) (hn : ¬ n < 0) (h40 : n ≤ 40) : SK l X 4 205 [vR 25 0, vI (nI s), vI b, vI n] (ii, jj, mj_rk kd, 108) (some (vI (szO b n))) (up3 (up3 ii 31 0 s b) 32 0 s (szO b n), wL jj s 40 (fun _ => 0), mj_rk kd, 108) := by
  refine m_sheetW (nI s) b n ⟨uT_ok (show s ≤ 3 by omega) (by decide), hb⟩ ?_
  have T : GB l X 4 0 0 205 (85, [some (vR 25 0), some (vI (nI s)), some (vI b), some (vI n), some (vI (nI 0))], [], (up3 (up3 ii 31 0 s b) 32 0 s (szO b n), jj, mj_rk kd, 108)) (some (vI (szO b n))) (up3 (up3 ii 31 0 s b) 32 0 s (szO b n), wL jj s 40 (fun _ => 0), mj_rk kd, 108) := by
    refine GB.eqv (s1 := (85, [some (vR 25 0), some (vI (nI s)), some (vI b), some (vI n), some (vI (nI 0))], [], (up3 (up3 ii 31 0 s b) 32 0 s (szO b n), wL jj s 0 (fun _ => 0), mj_rk kd, 108))) (by rw [wL_0]) ?_
    refine GB.upto 40 (fun k => (85, [some (vR 25 0), some (vI (nI s)), some (vI b), some (vI n), some (vI (nI k))], [], (up3 (up3 ii 31 0 s b) 32 0 s (szO b n), wL jj s k (fun _ => 0), mj_rk kd, 108))) (fun k hk ih => ?_) ?_ 40 0 rfl
    · rw [nI_succ k, ← wL_s] at ih
      refine GB.go 9999 rfl aB0 ?_
      refine GB.br rfl rfl (fun c => ?_) (fun c => ?_)
      · exact absurd c (nI_ge hk (by decide))
      · refine GB.go 103 rfl aB0 ?_
        rw [sp_s]
        refine GB.go 105 rfl (aB1 (mn_vin (show 40 * s + k < 160 by omega) (by decide)) aB0) ?_
        rw [nI_clamp (show 40 * s + k < 2 ^ 31 by omega)]
        refine GB.go 85 rfl aB0 ?_
        exact ih
    · refine GB.go 9999 rfl aB0 ?_
      refine GB.br rfl rfl (fun c => ?_) (fun c => ?_)
      · refine GB.go 117 rfl (aB1 (mn_vin (show s < 4 by omega) (by decide)) aB0) ?_
        rw [nI_clamp (show s < 2 ^ 31 by omega)]
        rw [up3_rd]
        exact GB.ret rfl rfl aB0
      · exact absurd (Int32.le_refl _) c
  refine GB.go 9999 rfl aB0 ?_
  refine GB.br rfl rfl (fun c => ?_) (fun c => ?_)
  · refine GB.go 9999 rfl aB0 ?_
    refine GB.br rfl rfl (fun c2 => ?_) (fun c2 => ?_)
    · refine GB.go 67 rfl (aB1 (mn_vin (show s < 4 by omega) (by decide)) aB0) ?_
      rw [nI_clamp (show s < 2 ^ 31 by omega)]
      refine GB.go 9999 rfl aB0 ?_
      refine GB.br rfl rfl (fun c3 => ?_) (fun c3 => ?_)
      · rw [show szO b n = 0 from if_pos c3] at T ⊢
        refine GB.go 81 rfl aB0 ?_
        refine GB.go 82 rfl (aB1 (mn_vin (show s < 4 by omega) (by decide)) aB0) ?_
        rw [nI_clamp (show s < 2 ^ 31 by omega)]
        refine GB.go 85 rfl aB0 ?_
        exact T
      · rw [show szO b n = n from if_neg c3] at T ⊢
        refine GB.go 81 rfl aB0 ?_
        refine GB.go 82 rfl (aB1 (mn_vin (show s < 4 by omega) (by decide)) aB0) ?_
        rw [nI_clamp (show s < 2 ^ 31 by omega)]
        refine GB.go 85 rfl aB0 ?_
        exact T
    · exact absurd h40 c2
  · exact absurd (Int32.not_lt.mp hn) c
theorem m_write0 (v i : Int32) (x : Int64) (h : uT v 3 = false) : SK l X 4 208 [vR 25 0, vI v, vI i, vL x] (ii, jj, mj_rk kd, 108) (some (vL (fA 0).toInt64)) (fnm ii 0, jj, mj_rk kd, 108) := by
  refine SK.of (by decide) (by decide) rfl ?_
  refine GB.go 9999 rfl aB0 ?_
  refine GB.cal rfl rfl (by decide) (m_noSh0 v h) ?_
  refine GB.go 9999 rfl aB0 ?_
  refine GB.br rfl rfl (fun c => ?_) (fun c => ?_)
  · exact absurd c (by decide)
  · refine GB.go 9999 rfl aB0 ?_
    refine GB.br rfl rfl (fun c2 => ?_) (fun c2 => ?_)
    · exact absurd c2 (by decide)
    · refine GB.go 9999 rfl aB0 ?_
      refine GB.cal rfl rfl (by decide) (m_finds 0 (by decide)) ?_
      refine GB.go 9999 rfl aB0 ?_
      exact GB.ret rfl rfl aB0
theorem m_write1 (s : Nat) (i : Int32) (x : Int64) (hs : s < 4) (hb : ii 31 0 s = 0) : SK l X 4 208 [vR 25 0, vI (nI s), vI i, vL x] (ii, jj, mj_rk kd, 108) (some (vL (fA 5).toInt64)) (fnm ii 5, jj, mj_rk kd, 108) := by
  refine SK.of (by decide) (by decide) rfl ?_
  refine GB.go 9999 rfl aB0 ?_
  refine GB.cal rfl rfl (by decide) (m_noSh1 s hs hb) ?_
  refine GB.go 9999 rfl aB0 ?_
  refine GB.br rfl rfl (fun c => ?_) (fun c => ?_)
  · exact absurd c (by decide)
  · refine GB.go 9999 rfl aB0 ?_
    refine GB.br rfl rfl (fun c2 => ?_) (fun c2 => ?_)
    · exact absurd c2 (by decide)
    · refine GB.go 9999 rfl aB0 ?_
      refine GB.cal rfl rfl (by decide) (m_finds 5 (by decide)) ?_
      refine GB.go 9999 rfl aB0 ?_
      exact GB.ret rfl rfl aB0
theorem m_write2 (s z : Nat) (i : Int32) (x : Int64) (hs : s < 4) (hb : ¬ ii 31 0 s = 0) (hz : ii 32 0 s = nI z) (hzl : z ≤ 40) (hi : ¬ (¬ i < 0 ∧ ¬ nI z ≤ i)) : SK l X 4 208 [vR 25 0, vI (nI s), vI i, vL x] (ii, jj, mj_rk kd, 108) (some (vL (fA 0).toInt64)) (fnm ii 0, jj, mj_rk kd, 108) := by
  refine SK.of (by decide) (by decide) rfl ?_
  refine GB.go 9999 rfl aB0 ?_
  refine GB.cal rfl rfl (by decide) (m_noSh s hs hb) ?_
  refine GB.go 9999 rfl aB0 ?_
  refine GB.br rfl rfl (fun c => ?_) (fun c => ?_)
  · refine GB.go 21 rfl (aB1 (mn_vin (show s < 4 by omega) (by decide)) aB0) ?_
    rw [nI_clamp (show s < 2 ^ 31 by omega)]
    rw [hz]
    refine GB.go 9999 rfl aB0 ?_
    refine GB.cal rfl rfl (by decide) (m_in _ i 0 _) ?_
    rw [show decide (¬ i < 0 ∧ ¬ nI z - 1 < i) = decide (¬ i < 0 ∧ ¬ nI z ≤ i) from decide_eq_decide.mpr (by rw [n1_lt (by omega)])]
    refine GB.br rfl rfl (fun c2 => ?_) (fun c2 => ?_)
    · refine GB.go 9999 rfl aB0 ?_
      refine GB.br rfl rfl (fun c3 => ?_) (fun c3 => ?_)
      · exact absurd c3 (by decide)
      · refine GB.go 9999 rfl aB0 ?_
        refine GB.cal rfl rfl (by decide) (m_finds 0 (by decide)) ?_
        refine GB.go 9999 rfl aB0 ?_
        exact GB.ret rfl rfl aB0
    · exact absurd (bd_t c2) hi
  · exact absurd rfl c
theorem m_write (s z i : Nat) (x : Int64) (hs : s < 4) (hb : ¬ ii 31 0 s = 0) (hz : ii 32 0 s = nI z) (hzl : z ≤ 40) (hi : i < z) : SK l X 4 208 [vR 25 0, vI (nI s), vI (nI i), vL x] (ii, jj, mj_rk kd, 108) (some (vL (jj 33 0 (40 * s + i)))) (ii, up3 jj 33 0 (40 * s + i) (ctO (ii 31 0 s) x), mj_rk kd, 108) := by
  refine SK.of (by decide) (by decide) rfl ?_
  refine GB.go 9999 rfl aB0 ?_
  refine GB.cal rfl rfl (by decide) (m_noSh s hs hb) ?_
  refine GB.go 9999 rfl aB0 ?_
  refine GB.br rfl rfl (fun c => ?_) (fun c => ?_)
  · refine GB.go 21 rfl (aB1 (mn_vin (show s < 4 by omega) (by decide)) aB0) ?_
    rw [nI_clamp (show s < 2 ^ 31 by omega)]
    rw [hz]
    refine GB.go 9999 rfl aB0 ?_
    refine GB.cal rfl rfl (by decide) (m_in _ _ 0 _) ?_
    rw [show decide (¬ nI i < 0 ∧ ¬ nI z - 1 < nI i) = decide (¬ nI i < 0 ∧ ¬ nI z ≤ nI i) from decide_eq_decide.mpr (by rw [n1_lt (by omega)])]
    refine GB.br rfl rfl (fun c2 => ?_) (fun c2 => ?_)
    · exact absurd (in_ok hi (by omega) rfl) (bd_f c2)
    · refine GB.go 9999 rfl aB0 ?_
      refine GB.br rfl rfl (fun c3 => ?_) (fun c3 => ?_)
      · refine GB.go 56 rfl aB0 ?_
        rw [sp_s]
        refine GB.go 57 rfl (aB1 (mn_vin (show 40 * s + i < 160 by omega) (by decide)) aB0) ?_
        rw [nI_clamp (show 40 * s + i < 2 ^ 31 by omega)]
        refine GB.go 69 rfl aB0 ?_
        rw [sp_s]
        refine GB.go 75 rfl (aB1 (mn_vin (show s < 4 by omega) (by decide)) aB0) ?_
        rw [nI_clamp (show s < 2 ^ 31 by omega)]
        refine GB.go 9999 rfl aB0 ?_
        refine GB.cal rfl rfl (by decide) (m_cut _ _ _) ?_
        refine GB.go 80 rfl (aB1 (mn_vin (show 40 * s + i < 160 by omega) (by decide)) aB0) ?_
        rw [nI_clamp (show 40 * s + i < 2 ^ 31 by omega)]
        refine GB.go 9999 rfl aB0 ?_
        exact GB.ret rfl rfl aB0
      · exact absurd rfl c3
  · exact absurd rfl c
theorem m_lays0 (v : Int32) (h : uT v 3 = false) : SK l X 4 211 [vR 25 0, vI v] (ii, jj, mj_rk kd, 108) (some (vI (fA 0))) (fnm ii 0, jj, mj_rk kd, 108) := by
  refine SK.of (by decide) (by decide) rfl ?_
  refine GB.go 9999 rfl aB0 ?_
  refine GB.cal rfl rfl (by decide) (m_noSh0 v h) ?_
  refine GB.go 9999 rfl aB0 ?_
  refine GB.br rfl rfl (fun c2 => ?_) (fun c2 => ?_)
  · exact absurd c2 (by decide)
  · refine GB.go 9999 rfl aB0 ?_
    refine GB.cal rfl rfl (by decide) (m_finds 0 (by decide)) ?_
    exact GB.ret rfl rfl aB0
theorem m_lays1 (s : Nat) (hs : s < 4) (hb : ii 31 0 s = 0) : SK l X 4 211 [vR 25 0, vI (nI s)] (ii, jj, mj_rk kd, 108) (some (vI (fA 5))) (fnm ii 5, jj, mj_rk kd, 108) := by
  refine SK.of (by decide) (by decide) rfl ?_
  refine GB.go 9999 rfl aB0 ?_
  refine GB.cal rfl rfl (by decide) (m_noSh1 s hs hb) ?_
  refine GB.go 9999 rfl aB0 ?_
  refine GB.br rfl rfl (fun c2 => ?_) (fun c2 => ?_)
  · exact absurd c2 (by decide)
  · refine GB.go 9999 rfl aB0 ?_
    refine GB.cal rfl rfl (by decide) (m_finds 5 (by decide)) ?_
    exact GB.ret rfl rfl aB0
/-- numbers that are pledges -/
def lyB (v : Int64) : Bool := decide (¬ v < Int32.toInt64 0 ∧ ¬ Int32.toInt64 99 < v)
def lyM (ii : Nat → Nat → Nat → Int32) (f : Nat → Int64) : Nat → Nat → Nat → Nat → Int32
  | 0 => ii
  | k + 1 => cond (lyB (f k)) (up3 (lyM ii f k) 26 0 (5 + 14 * k) (f k).toInt32) (lyM ii f k)
def lyN (f : Nat → Int64) : Nat → Int32
  | 0 => 0
  | k + 1 => cond (lyB (f k)) (lyN f k + 1) (lyN f k)
theorem lyM_tag {f : Nat → Int64} {a : Nat} (h : a ≠ 26) : ∀ k, lyM ii f k a = ii a
  | 0 => rfl
  | k + 1 => by
    unfold lyM
    cases lyB (f k)
    · exact lyM_tag h k
    · exact (up3_tag h).trans (lyM_tag h k)
theorem lyM_out {f : Nat → Int64} {x : Nat} (h : ∀ i, x ≠ 5 + 14 * i) : ∀ k, lyM ii f k 26 0 x = ii 26 0 x
  | 0 => rfl
  | k + 1 => by
    unfold lyM
    cases lyB (f k)
    · exact lyM_out h k
    · exact (up3_pl (h k)).trans (lyM_out h k)
def lsL (f : Nat → Int64) (k : Nat) : Option MV := match k with
  | 0 => none
  | k + 1 => some (vL (f k))
theorem m_lays (s z n : Nat) (hs : s < 4) (hb : ¬ ii 31 0 s = 0) (hz : ii 32 0 s = nI z) (hzl : z ≤ 40) (hn : n ≤ 8) (h0 : ii 26 0 2 = nI n) : SK l X 4 211 [vR 25 0, vI (nI s)] (ii, jj, mj_rk kd, 108) (some (vI (lyN (fun k => jj 33 0 (40 * s + k)) (min z n)))) (lyM ii (fun k => jj 33 0 (40 * s + k)) (min z n), jj, mj_rk kd, 108) := by
  refine SK.of (by decide) (by decide) rfl ?_
  refine GB.go 9999 rfl aB0 ?_
  refine GB.cal rfl rfl (by decide) (m_noSh s hs hb) ?_
  refine GB.go 9999 rfl aB0 ?_
  refine GB.br rfl rfl (fun c => ?_) (fun c => ?_)
  · refine GB.go 21 rfl aB0 ?_
    refine GB.upto (min z n) (fun k => (21, [some (vR 25 0), some (vI (nI s)), some (vI 0), some (vI (lyN (fun k => jj 33 0 (40 * s + k)) k)), some (vI (nI k)), lsL (fun k => jj 33 0 (40 * s + k)) k, none], [], (lyM ii (fun k => jj 33 0 (40 * s + k)) k, jj, mj_rk kd, 108))) (fun k hk ih => ?_) ?_ (min z n) 0 (by omega)
    · rw [nI_succ k] at ih
      refine GB.go 29 rfl (aB1 (mn_vin (show s < 4 by omega) (by decide)) aB0) ?_
      rw [nI_clamp (show s < 2 ^ 31 by omega)]
      rw [lyM_tag (by decide), hz]
      refine GB.br rfl rfl (fun c2 => ?_) (fun c2 => ?_)
      · exact absurd c2 (nI_ge (show k < z by omega) (by omega))
      · refine GB.go 40 rfl (aB1 (by decide) aB0) ?_
        rw [show lyM ii (fun k => jj 33 0 (40 * s + k)) k 26 0 (Int32.toNatClampNeg 2) = nI n from (lyM_out (fun i => by show (2 : Nat) ≠ _; omega) k).trans h0]
        refine GB.br rfl rfl (fun c3 => ?_) (fun c3 => ?_)
        · exact absurd c3 (nI_ge (show k < n by omega) (by omega))
        · refine GB.go 54 rfl aB0 ?_
          rw [sp_s]
          refine GB.go 55 rfl (aB1 (mn_vin (show 40 * s + k < 160 by omega) (by decide)) aB0) ?_
          rw [nI_clamp (show 40 * s + k < 2 ^ 31 by omega)]
          refine GB.go 9999 rfl aB0 ?_
          refine GB.cal rfl rfl (by decide) (m_inL _ _ 0 99) ?_
          refine GB.br rfl rfl (fun c4 => ?_) (fun c4 => ?_)
          · rw [show lyN (fun k => jj 33 0 (40 * s + k)) (k + 1) = lyN (fun k => jj 33 0 (40 * s + k)) k by rw [lyN, show lyB (jj 33 0 (40 * s + k)) = false from bI_f c4]; rfl, show lyM ii (fun k => jj 33 0 (40 * s + k)) (k + 1) = lyM ii (fun k => jj 33 0 (40 * s + k)) k by rw [lyM, show lyB (jj 33 0 (40 * s + k)) = false from bI_f c4]; rfl] at ih
            refine GB.go 21 rfl aB0 ?_
            exact ih
          · rw [show lyN (fun k => jj 33 0 (40 * s + k)) (k + 1) = lyN (fun k => jj 33 0 (40 * s + k)) k + 1 by rw [lyN, show lyB (jj 33 0 (40 * s + k)) = true from bI_t c4]; rfl, show lyM ii (fun k => jj 33 0 (40 * s + k)) (k + 1) = up3 (lyM ii (fun k => jj 33 0 (40 * s + k)) k) 26 0 (5 + 14 * k) (jj 33 0 (40 * s + k)).toInt32 by rw [lyM, show lyB (jj 33 0 (40 * s + k)) = true from bI_t c4]; rfl] at ih
            refine GB.go 81 rfl aB0 ?_
            rw [sp_p]
            refine GB.go 85 rfl (aB1 (mn_vin (show 5 + 14 * k < 134 by omega) (by decide)) aB0) ?_
            rw [nI_clamp (show 5 + 14 * k < 2 ^ 31 by omega)]
            refine GB.go 21 rfl aB0 ?_
            exact ih
    · refine GB.go 29 rfl (aB1 (mn_vin (show s < 4 by omega) (by decide)) aB0) ?_
      rw [nI_clamp (show s < 2 ^ 31 by omega)]
      rw [lyM_tag (by decide), hz]
      refine GB.br rfl rfl (fun c2 => ?_) (fun c2 => ?_)
      · refine GB.go 9999 rfl aB0 ?_
        exact GB.ret rfl rfl aB0
      · refine GB.go 40 rfl (aB1 (by decide) aB0) ?_
        rw [show lyM ii (fun k => jj 33 0 (40 * s + k)) (min z n) 26 0 (Int32.toNatClampNeg 2) = nI n from (lyM_out (fun i => by show (2 : Nat) ≠ _; omega) _).trans h0]
        refine GB.br rfl rfl (fun c3 => ?_) (fun c3 => ?_)
        · refine GB.go 9999 rfl aB0 ?_
          exact GB.ret rfl rfl aB0
        · exact absurd (nI_le (show n ≤ min z n from Nat.le_of_not_lt (fun q => c2 (nI_le (show z ≤ min z n by omega) (by omega)))) (by omega)) c3
  · exact absurd rfl c
end MQ
