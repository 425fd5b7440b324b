/-! THE MODEL'S CALLS: redeem, blend, stack, weeks, now; what is put back -/
/-- weeks of the model, one behind another -/
def mS1 (K : Nat → Nat) (n : Nat) (ii : Nat → Nat → Nat → Int32) : Nat → Nat → Nat → Int32 := up3 (mWs ii K (ii 26 0 0) (ii 26 0 1) n) 26 0 0 (ii 26 0 0 + 1)
def mSk (K : Nat → Nat) (n : Nat) (ii : Nat → Nat → Nat → Int32) : Nat → Nat → Nat → Nat → Int32
  | 0 => ii
  | k + 1 => mS1 K n (mSk K n ii k)
/-- what a week needs -/
def mI (ii : Nat → Nat → Nat → Int32) (n w : Nat) (K : Nat → Nat) : Prop := n ≤ 8 ∧ ii 26 0 2 = nI n ∧ ii 26 0 0 = nI w ∧ (∀ i, i < n → K i < 6 ∧ ii 26 0 (4 + 14 * i) = nI (K i)) ∧ rNs ii n
section MI
variable {ii : Nat → Nat → Nat → Int32} {n w : Nat} {K : Nat → Nat}
theorem mS1_out {x : Nat} (h0 : x ≠ 0) (h : ∀ i t, t < 12 → x ≠ 6 + 14 * i + t) : mS1 K n ii 26 0 x = ii 26 0 x := by
  unfold mS1
  rw [up3_pl h0, mWs_out h]
theorem mS1_at {i : Nat} (hi : i < n) : eqR (mR (mS1 K n ii) i) (wkR (K i) (ii 26 0 0) (ii 26 0 1) (mR ii i)) := by
  refine eqR.tr (fun t ht => ?_) (mR_mWs n hi)
  unfold mR mS1
  exact up3_pl (by omega)
theorem mI_s (h : mI ii n w K) (hw : w + 1 < 2 ^ 31) : mI (mS1 K n ii) n (w + 1) K := by
  obtain ⟨h1, h2, h3, h4, h5⟩ := h
  refine ⟨h1, ?_, ?_, fun i hi => ⟨(h4 i hi).1, ?_⟩, fun i hi => ?_⟩
  · rw [mS1_out (by decide) (fun i t ht => by omega), h2]
  · unfold mS1
    rw [up3_rd, h3, nI_1]
  · rw [mS1_out (by omega) (fun j t ht => by omega)]
    exact (h4 i hi).2
  · refine rN_c (mS1_at hi).sy ?_
    rw [h3]
    exact rN_wkR (by omega) (h5 i hi)
theorem mSk_I (h : mI ii n w K) : ∀ k, w + k < 2 ^ 31 → mI (mSk K n ii k) n (w + k) K
  | 0, _ => h
  | k + 1, hk => mI_s (mSk_I h k (by omega)) (by omega)
theorem mS1_tag {a : Nat} (h : a ≠ 26) : mS1 K n ii a = ii a := by
  unfold mS1
  rw [up3_tag h, mWs_tag h]
theorem mSk_tag {a : Nat} (h : a ≠ 26) : ∀ k, mSk K n ii k a = ii a
  | 0 => rfl
  | k + 1 => (mS1_tag h).trans (mSk_tag h k)
theorem mSk_out {x : Nat} (h0 : x ≠ 0) (h : ∀ i t, t < 12 → x ≠ 6 + 14 * i + t) : ∀ k, mSk K n ii k 26 0 x = ii 26 0 x
  | 0 => rfl
  | k + 1 => (mS1_out h0 h).trans (mSk_out h0 h k)
theorem mSk_at (h : mI ii n w K) {i : Nat} (hi : i < n) : ∀ k, w + k < 2 ^ 31 → eqR (mR (mSk K n ii k) i) (wkRs (K i) w (ii 26 0 1) (mR ii i) k)
  | 0, _ => eqR.rf
  | k + 1, hk => by
    refine (mS1_at hi).tr ?_
    rw [(mSk_I h k (by omega)).2.2.1, mSk_out (by decide) (fun i t ht => by omega)]
    exact wkR_c (mSk_at h hi k (by omega))
/-- places that aren't the week nor freshness of a hat -/
theorem mSk_row {x : Nat} (h0 : x ≠ 0) (h : 4 + 14 * n ≤ x) : ∀ k, mSk K n ii k 26 0 x = ii 26 0 x
  | 0 => rfl
  | k + 1 => by
    rw [mSk, mS1, up3_pl h0, mWs_row n h]
    exact mSk_row h0 h k
end MI
section MQ
variable {l : Launch} {X : FX} {ii : Nat → Nat → Nat → Int32} {jj : Nat → Nat → Nat → Int64} {kd : Nat → Nat}
theorem m_wk {n w : Nat} {K : Nat → Nat} (h : mI ii n w K) (hw : w < 2 ^ 31) : SK l X 5 172 [vR 25 0] (ii, jj, mj_rk kd, 108) none (mS1 K n ii, jj, mj_rk kd, 108) := m_week h.1 h.2.1 h.2.2.1 hw h.2.2.2.1 h.2.2.2.2
theorem m_goesOn {n w : Nat} {K : Nat → Nat} (h : mI ii n w K) (N : Nat) (hN : w + N < 2 ^ 31) : SK l X 6 173 [vR 25 0, vI (nI N)] (ii, jj, mj_rk kd, 108) none (mSk K n ii N, jj, mj_rk kd, 108) := by
  refine SK.of (by decide) (by decide) rfl ?_
  refine GB.go 2 rfl aB0 ?_
  refine GB.upto N (fun k => (2, [some (vR 25 0), some (vI (nI N)), some (vI (nI k))], [], (mSk K n ii k, jj, mj_rk kd, 108))) (fun k hk ih => ?_) ?_ N 0 (by omega)
  · rw [nI_succ k] at ih
    refine GB.go 9999 rfl aB0 ?_
    refine GB.br rfl rfl (fun c => ?_) (fun c => ?_)
    · exact absurd c (nI_ge hk (by omega))
    · refine GB.go 9999 rfl aB0 ?_
      refine GB.cal rfl rfl (by decide) (m_wk (mSk_I h k (by omega)) (by omega)) ?_
      refine GB.go 2 rfl aB0 ?_
      exact ih
  · refine GB.go 9999 rfl aB0 ?_
    refine GB.br rfl rfl (fun c => ?_) (fun c => ?_)
    · exact GB.ret rfl rfl aB0
    · exact absurd (Int32.le_refl _) c
theorem m_allFresh {n : Nat} (hn : n ≤ 8) (h0 : ii 26 0 2 = nI n) : SK l X 3 174 [vR 25 0] (ii, jj, mj_rk kd, 108) (some (vI (aF (fun k => aF (mR ii k) 12) n))) (ii, jj, mj_rk kd, 108) := by
  refine SK.of (by decide) (by decide) rfl ?_
  refine GB.go 4 rfl aB0 ?_
  refine GB.upto n (fun k => (4, [some (vR 25 0), some (vI (aF (fun k => aF (mR ii k) 12) k)), some (vI (nI k))], [], (ii, jj, mj_rk kd, 108))) (fun k hk ih => ?_) ?_ n 0 (by omega)
  · rw [nI_succ k] at ih
    refine GB.go 11 rfl (aB1 (by decide) aB0) ?_
    rw [show ii 26 0 (Int32.toNatClampNeg 2) = nI n from h0]
    refine GB.br rfl rfl (fun c => ?_) (fun c => ?_)
    · exact absurd c (nI_ge hk (by omega))
    · refine GB.go 9999 rfl aB0 ?_
      refine GB.cal rfl rfl (by decide) (m_freshOf k (by omega)) ?_
      refine GB.go 4 rfl aB0 ?_
      exact ih
  · refine GB.go 11 rfl (aB1 (by decide) aB0) ?_
    rw [show ii 26 0 (Int32.toNatClampNeg 2) = nI n from h0]
    refine GB.br rfl rfl (fun c => ?_) (fun c => ?_)
    · refine GB.go 9999 rfl aB0 ?_
      exact GB.ret rfl rfl aB0
    · exact absurd (Int32.le_refl _) c
theorem m_weeks0 (v : Int32) (h : v < 1 ∨ ¬ v ≤ 60) : SK l X 8 175 [vR 25 0, vI v] (ii, jj, mj_rk kd, 108) (some (vI (fA 0))) (fnm ii 0, jj, mj_rk kd, 108) := by
  refine SK.of (by decide) (by decide) rfl ?_
  refine GB.go 9999 rfl aB0 ?_
  refine GB.cal rfl rfl (by decide) (m_in _ v 1 60) ?_
  refine GB.br rfl rfl (fun c => ?_) (fun c => ?_)
  · refine GB.go 9999 rfl aB0 ?_
    refine GB.cal rfl rfl (by decide) (m_finds 0 (by decide)) ?_
    exact GB.ret rfl rfl aB0
  · exact absurd (bd_t c) (by rintro ⟨h1, h2⟩; rcases h with h | h; exact h1 h; exact h (Int32.not_lt.mp h2))
theorem m_weeks1 (v : Int32) (h : ¬ v < 1 ∧ v ≤ 60) (hw : ¬ ii 26 0 0 + v ≤ 9999) : SK l X 8 175 [vR 25 0, vI v] (ii, jj, mj_rk kd, 108) (some (vI (fA 4))) (fnm ii 4, jj, mj_rk kd, 108) := by
  refine SK.of (by decide) (by decide) rfl ?_
  refine GB.go 9999 rfl aB0 ?_
  refine GB.cal rfl rfl (by decide) (m_in _ v 1 60) ?_
  refine GB.br rfl rfl (fun c => ?_) (fun c => ?_)
  · exact absurd ⟨h.1, Int32.not_lt.mpr h.2⟩ (bd_f c)
  · refine GB.go 24 rfl (aB1 (by decide) aB0) ?_
    rw [show ii 26 0 (Int32.toNatClampNeg 0) = ii 26 0 0 from rfl]
    refine GB.go 9999 rfl aB0 ?_
    refine GB.br rfl rfl (fun c2 => ?_) (fun c2 => ?_)
    · exact absurd c2 hw
    · refine GB.go 9999 rfl aB0 ?_
      refine GB.cal rfl rfl (by decide) (m_finds 4 (by decide)) ?_
      exact GB.ret rfl rfl aB0
theorem m_weeks (N n w : Nat) {K : Nat → Nat} (h : mI ii n w K) (h1 : 1 ≤ N) (h2 : N ≤ 60) (hw : w + N < 2 ^ 31) (hl : ii 26 0 0 + nI N ≤ 9999) : SK l X 8 175 [vR 25 0, vI (nI N)] (ii, jj, mj_rk kd, 108) (some (vI (aF (fun k => aF (mR (mSk K n ii N) k) 12) n))) (mSk K n ii N, jj, mj_rk kd, 108) := by
  refine SK.of (by decide) (by decide) rfl ?_
  refine GB.go 9999 rfl aB0 ?_
  refine GB.cal rfl rfl (by decide) (m_in _ _ 1 60) ?_
  refine GB.br rfl rfl (fun c => ?_) (fun c => ?_)
  · exact absurd ⟨nI_nlt h1 (by omega), nI_nlt h2 (by decide)⟩ (bd_f c)
  · refine GB.go 24 rfl (aB1 (by decide) aB0) ?_
    rw [show ii 26 0 (Int32.toNatClampNeg 0) = ii 26 0 0 from rfl]
    refine GB.go 9999 rfl aB0 ?_
    refine GB.br rfl rfl (fun c2 => ?_) (fun c2 => ?_)
    · refine GB.go 9999 rfl aB0 ?_
      refine GB.cal rfl rfl (by decide) (m_goesOn h N hw) ?_
      refine GB.go 9999 rfl aB0 ?_
      refine GB.cal rfl rfl (by decide) (m_allFresh h.1 (mSk_I h N hw).2.1) ?_
      exact GB.ret rfl rfl aB0
    · exact absurd hl c2
theorem m_now0 (w : Int32) (hw : uT w 5 = false) : SK l X 5 176 [vR 25 0, vI w] (ii, jj, mj_rk kd, 108) (some (vI (fA 0))) (fnm ii 0, jj, mj_rk kd, 108) := by
  have q : ∀ b, b ≤ 5 → w ≠ nI b := fun b hb e => by
    rw [e, show (5 : Int32) = nI 5 from rfl, uT_ok hb (by decide)] at hw
    cases hw
  refine SK.of (by decide) (by decide) rfl ?_
  refine GB.go 9999 rfl aB0 ?_
  refine GB.sw rfl rfl ?_
  rw [show mj_swt [(0, 40), (1, 47), (2, 52), (3, 81), (4, 110), (5, 117)] 146 w = 146 by
    simp only [mj_swt]
    rw [if_neg (show w ≠ 0 from q 0 (by decide)), if_neg (show w ≠ 1 from q 1 (by decide)), if_neg (show w ≠ 2 from q 2 (by decide)), if_neg (show w ≠ 3 from q 3 (by decide)), if_neg (show w ≠ 4 from q 4 (by decide)), if_neg (show w ≠ 5 from q 5 (by decide))]]
  refine GB.go 9999 rfl aB0 ?_
  refine GB.cal rfl rfl (by decide) (m_finds 0 (by decide)) ?_
  exact GB.ret rfl rfl aB0
theorem m_now (w n m : Nat) (hw : w ≤ 5) (hn : n ≤ 8) (h0 : ii 26 0 2 = nI n) (hm : m ≤ 6) (h1 : ii 26 0 3 = nI m) : SK l X 5 176 [vR 25 0, vI (nI w)] (ii, jj, mj_rk kd, 108) (some (vI (match w with
    | 0 => ii 26 0 0
    | 1 => aF (fun k => aF (mR ii k) 12) n
    | 2 => oF (fun k => hF (mR ii k) 1 12) n
    | 3 => oF (fun k => ii 26 0 (116 + 3 * k)) m
    | 4 => ii 26 0 1
    | _ => aF (fun k => ii 26 0 (116 + 3 * k + 2)) m))) (ii, jj, mj_rk kd, 108) := by
  refine SK.of (by decide) (by decide) rfl ?_
  refine GB.go 9999 rfl aB0 ?_
  refine GB.sw rfl rfl ?_
  match w, hw with
  | 0, _ =>
    refine GB.go 46 rfl (aB1 (by decide) aB0) ?_
    exact GB.ret rfl rfl aB0
  | 1, _ =>
    refine GB.go 9999 rfl aB0 ?_
    refine GB.cal rfl rfl (by decide) (m_allFresh hn h0) ?_
    exact GB.ret rfl rfl aB0
  | 2, _ =>
    refine GB.go 54 rfl aB0 ?_
    refine GB.upto n (fun k => (54, [some (vR 25 0), some (vI (nI 2)), some (vI (oF (fun k => hF (mR ii k) 1 12) k)), some (vI (nI k))], [], (ii, jj, mj_rk kd, 108))) (fun k hk ih => ?_) ?_ n 0 (by omega)
    · rw [nI_succ k] at ih
      refine GB.go 61 rfl (aB1 (by decide) aB0) ?_
      rw [show ii 26 0 (Int32.toNatClampNeg 2) = nI n from h0]
      refine GB.br rfl rfl (fun c => ?_) (fun c => ?_)
      · exact absurd c (nI_ge hk (by omega))
      · refine GB.go 9999 rfl aB0 ?_
        refine GB.cal rfl rfl (by decide) (m_holds k (by omega) 1) ?_
        refine GB.go 54 rfl aB0 ?_
        exact ih
    · refine GB.go 61 rfl (aB1 (by decide) aB0) ?_
      rw [show ii 26 0 (Int32.toNatClampNeg 2) = nI n from h0]
      refine GB.br rfl rfl (fun c => ?_) (fun c => ?_)
      · refine GB.go 9999 rfl aB0 ?_
        exact GB.ret rfl rfl aB0
      · exact absurd (Int32.le_refl _) c
  | 3, _ =>
    refine GB.go 83 rfl aB0 ?_
    refine GB.upto m (fun k => (83, [some (vR 25 0), some (vI (nI 3)), some (vI (oF (fun k => ii 26 0 (116 + 3 * k)) k)), some (vI (nI k))], [], (ii, jj, mj_rk kd, 108))) (fun k hk ih => ?_) ?_ m 0 (by omega)
    · rw [nI_succ k] at ih
      refine GB.go 90 rfl (aB1 (by decide) aB0) ?_
      rw [show ii 26 0 (Int32.toNatClampNeg 3) = nI m from h1]
      refine GB.br rfl rfl (fun c => ?_) (fun c => ?_)
      · exact absurd c (nI_ge hk (by omega))
      · refine GB.go 9999 rfl aB0 ?_
        refine GB.cal rfl rfl (by decide) (m_has k 0 (by omega) (by decide)) ?_
        refine GB.go 83 rfl aB0 ?_
        exact ih
    · refine GB.go 90 rfl (aB1 (by decide) aB0) ?_
      rw [show ii 26 0 (Int32.toNatClampNeg 3) = nI m from h1]
      refine GB.br rfl rfl (fun c => ?_) (fun c => ?_)
      · refine GB.go 9999 rfl aB0 ?_
        exact GB.ret rfl rfl aB0
      · exact absurd (Int32.le_refl _) c
  | 4, _ =>
    refine GB.go 116 rfl (aB1 (by decide) aB0) ?_
    exact GB.ret rfl rfl aB0
  | 5, _ =>
    refine GB.go 119 rfl aB0 ?_
    refine GB.upto m (fun k => (119, [some (vR 25 0), some (vI (nI 5)), some (vI (aF (fun k => ii 26 0 (116 + 3 * k + 2)) k)), some (vI (nI k))], [], (ii, jj, mj_rk kd, 108))) (fun k hk ih => ?_) ?_ m 0 (by omega)
    · rw [nI_succ k] at ih
      refine GB.go 126 rfl (aB1 (by decide) aB0) ?_
      rw [show ii 26 0 (Int32.toNatClampNeg 3) = nI m from h1]
      refine GB.br rfl rfl (fun c => ?_) (fun c => ?_)
      · exact absurd c (nI_ge hk (by omega))
      · refine GB.go 9999 rfl aB0 ?_
        refine GB.cal rfl rfl (by decide) (m_has k 2 (by omega) (by decide)) ?_
        refine GB.go 119 rfl aB0 ?_
        exact ih
    · refine GB.go 126 rfl (aB1 (by decide) aB0) ?_
      rw [show ii 26 0 (Int32.toNatClampNeg 3) = nI m from h1]
      refine GB.br rfl rfl (fun c => ?_) (fun c => ?_)
      · refine GB.go 9999 rfl aB0 ?_
        exact GB.ret rfl rfl aB0
      · exact absurd (Int32.le_refl _) c
  | w + 6, hw => exact absurd hw (by omega)
theorem m_redeem0 (v w : Int32) {n m : Nat} (hn : n ≤ 8) (h0 : ii 26 0 2 = nI n) (hm : m ≤ 6) (h1 : ii 26 0 3 = nI m) (h : ¬ ((¬ v < 0 ∧ ¬ nI n ≤ v) ∧ ¬ w < 0 ∧ ¬ nI m ≤ w)) : SK l X 5 168 [vR 25 0, vI v, vI w] (ii, jj, mj_rk kd, 108) (some (vI (fA 0))) (fnm ii 0, jj, mj_rk kd, 108) := by
  refine SK.of (by decide) (by decide) rfl ?_
  have tail : GB l X 5 0 0 168 (16, [some (vR 25 0), some (vI v), some (vI w), none], [], (ii, jj, mj_rk kd, 108)) (some (vI (fA 0))) (fnm ii 0, jj, mj_rk kd, 108) := by
    refine GB.go 9999 rfl aB0 ?_
    refine GB.cal rfl rfl (by decide) (m_finds 0 (by decide)) ?_
    exact GB.ret rfl rfl aB0
  refine GB.go 9999 rfl aB0 ?_
  refine GB.cal rfl rfl (by decide) (m_isHat v hn h0) ?_
  refine GB.br rfl rfl (fun c => ?_) (fun c => ?_)
  · exact tail
  · refine GB.go 9999 rfl aB0 ?_
    refine GB.cal rfl rfl (by decide) (m_isHead w hm h1) ?_
    refine GB.br rfl rfl (fun c2 => ?_) (fun c2 => ?_)
    · exact tail
    · exact absurd ⟨bd_t c, bd_t c2⟩ h
/-- what is left behind a redeeming -/
def rdL (ii : Nat → Nat → Nat → Int32) (i d : Nat) : Int32 := ii 26 0 (116 + 3 * d + 2) - ii 26 0 (5 + 14 * i)
theorem m_redeemW (i n d m : Nat) (hi : i < n) (hn : n ≤ 8) (h0 : ii 26 0 2 = nI n) (hd : d < m) (hm : m ≤ 6) (h1 : ii 26 0 3 = nI m) {r : Option MV} {h' : MH} (k : GB l X 5 0 0 168 (44, [some (vR 25 0), some (vI (nI i)), some (vI (nI d)), some (vI (rdL ii i d))], [], (ii, jj, mj_rk kd, 108)) r h') : SK l X 5 168 [vR 25 0, vI (nI i), vI (nI d)] (ii, jj, mj_rk kd, 108) r h' := by
  refine SK.of (by decide) (by decide) rfl ?_
  refine GB.go 9999 rfl aB0 ?_
  refine GB.cal rfl rfl (by decide) (m_isHat _ hn h0) ?_
  refine GB.br rfl rfl (fun c => ?_) (fun c => ?_)
  · exact absurd (in_ok hi (by omega) rfl) (bd_f c)
  · refine GB.go 9999 rfl aB0 ?_
    refine GB.cal rfl rfl (by decide) (m_isHead _ hm h1) ?_
    refine GB.br rfl rfl (fun c2 => ?_) (fun c2 => ?_)
    · exact absurd (in_ok hd (by omega) rfl) (bd_f c2)
    · refine GB.go 9999 rfl aB0 ?_
      refine GB.cal rfl rfl (by decide) (m_has d 2 (by omega) (by decide)) ?_
      refine GB.go 41 rfl aB0 ?_
      rw [sp_p]
      refine GB.go 42 rfl (aB1 (mn_vin (show 5 + 14 * i < 134 by omega) (by decide)) aB0) ?_
      rw [nI_clamp (show 5 + 14 * i < 2 ^ 31 by omega)]
      refine GB.go 44 rfl aB0 ?_
      exact k
theorem m_redeem1 (i n d m : Nat) (hi : i < n) (hn : n ≤ 8) (h0 : ii 26 0 2 = nI n) (hd : d < m) (hm : m ≤ 6) (h1 : ii 26 0 3 = nI m) (hp : rdL ii i d < 0) : SK l X 5 168 [vR 25 0, vI (nI i), vI (nI d)] (ii, jj, mj_rk kd, 108) (some (vI (fA 4))) (fnm ii 4, jj, mj_rk kd, 108) := by
  refine m_redeemW i n d m hi hn h0 hd hm h1 ?_
  refine GB.go 9999 rfl aB0 ?_
  refine GB.br rfl rfl (fun c => ?_) (fun c => ?_)
  · exact absurd hp (Int32.not_lt.mpr c)
  · refine GB.go 9999 rfl aB0 ?_
    refine GB.cal rfl rfl (by decide) (m_finds 4 (by decide)) ?_
    exact GB.ret rfl rfl aB0
theorem m_redeem (i n d m : Nat) (hi : i < n) (hn : n ≤ 8) (h0 : ii 26 0 2 = nI n) (hd : d < m) (hm : m ≤ 6) (h1 : ii 26 0 3 = nI m) (hp : ¬ rdL ii i d < 0) : SK l X 5 168 [vR 25 0, vI (nI i), vI (nI d)] (ii, jj, mj_rk kd, 108) (some (vI (rdL ii i d))) (up3 (up3 ii 26 0 (116 + 3 * d + 2) (rdL ii i d)) 26 0 (5 + 14 * i) 0, jj, mj_rk kd, 108) := by
  refine m_redeemW i n d m hi hn h0 hd hm h1 ?_
  refine GB.go 9999 rfl aB0 ?_
  refine GB.br rfl rfl (fun c => ?_) (fun c => ?_)
  · refine GB.go 65 rfl aB0 ?_
    rw [sp_d]
    refine GB.go 67 rfl aB0 ?_
    rw [show nI (116 + 3 * d) + 2 = nI (116 + 3 * d + 2) from nI_add _ 2]
    refine GB.go 69 rfl (aB1 (mn_vin (show 116 + 3 * d + 2 < 134 by omega) (by decide)) aB0) ?_
    rw [nI_clamp (show 116 + 3 * d + 2 < 2 ^ 31 by omega)]
    refine GB.go 81 rfl aB0 ?_
    rw [sp_p]
    refine GB.go 83 rfl (aB1 (mn_vin (show 5 + 14 * i < 134 by omega) (by decide)) aB0) ?_
    rw [nI_clamp (show 5 + 14 * i < 2 ^ 31 by omega)]
    refine GB.go 9999 rfl aB0 ?_
    exact GB.ret rfl rfl aB0
  · exact absurd (Int32.not_le.mp c) hp
theorem m_blend0 (v w : Int32) {n : Nat} (hn : n ≤ 8) (h0 : ii 26 0 2 = nI n) (h : ¬ ((¬ v < 0 ∧ ¬ nI n ≤ v) ∧ (¬ w < 0 ∧ ¬ nI n ≤ w) ∧ v ≠ w)) : SK l X 5 169 [vR 25 0, vI v, vI w] (ii, jj, mj_rk kd, 108) (some (vI (fA 0))) (fnm ii 0, jj, mj_rk kd, 108) := by
  refine SK.of (by decide) (by decide) rfl ?_
  refine GB.go 9999 rfl aB0 ?_
  refine GB.cal rfl rfl (by decide) (m_areTwo v w hn h0) ?_
  refine GB.br rfl rfl (fun c => ?_) (fun c => ?_)
  · refine GB.go 9999 rfl aB0 ?_
    refine GB.cal rfl rfl (by decide) (m_finds 0 (by decide)) ?_
    exact GB.ret rfl rfl aB0
  · exact absurd (bd_t c) h
theorem m_two {i j n : Nat} (hi : i < n) (hj : j < n) (hij : i ≠ j) (hn : n ≤ 8) : (¬ nI i < 0 ∧ ¬ nI n ≤ nI i) ∧ (¬ nI j < 0 ∧ ¬ nI n ≤ nI j) ∧ nI i ≠ nI j := ⟨in_ok hi (by omega) rfl, in_ok hj (by omega) rfl, fun e => hij ((nI_eq (by omega) (by omega)).mp e)⟩
def blF (f g : Nat → Int32) (t : Nat) : Int32 := (f t + g t) / 2
theorem m_blend (i j n : Nat) (hi : i < n) (hj : j < n) (hij : i ≠ j) (hn : n ≤ 8) (h0 : ii 26 0 2 = nI n) : SK l X 5 169 [vR 25 0, vI (nI i), vI (nI j)] (ii, jj, mj_rk kd, 108) (some (vI (hF (mR (wR ii i 12 (blF (mR ii i) (mR ii j))) i) 1 12))) (wR ii i 12 (blF (mR ii i) (mR ii j)), jj, mj_rk kd, 108) := by
  refine SK.of (by decide) (by decide) rfl ?_
  refine GB.go 9999 rfl aB0 ?_
  refine GB.cal rfl rfl (by decide) (m_areTwo _ _ hn h0) ?_
  refine GB.br rfl rfl (fun c => ?_) (fun c => ?_)
  · exact absurd (m_two hi hj hij hn) (bd_f c)
  · refine GB.go 18 rfl aB0 ?_
    refine GB.eqv (s1 := (18, [some (vR 25 0), some (vI (nI i)), some (vI (nI j)), some (vI (nI 0))], [], (wR ii i 0 (blF (mR ii i) (mR ii j)), jj, mj_rk kd, 108))) (by rw [wR_0]; rfl) ?_
    refine GB.upto 12 (fun k => (18, [some (vR 25 0), some (vI (nI i)), some (vI (nI j)), some (vI (nI k))], [], (wR ii i k (blF (mR ii i) (mR ii j)), jj, mj_rk kd, 108))) (fun k hk ih => ?_) ?_ 12 0 rfl
    · rw [nI_succ k, ← wR_s] at ih
      refine GB.go 9999 rfl aB0 ?_
      refine GB.br rfl rfl (fun c2 => ?_) (fun c2 => ?_)
      · exact absurd c2 (nI_ge hk (by decide))
      · refine GB.go 9999 rfl aB0 ?_
        refine GB.cal rfl rfl (by decide) (m_spot _ i k) ?_
        refine GB.go 9999 rfl aB0 ?_
        refine GB.cal rfl rfl (by decide) (m_spot _ i k) ?_
        refine GB.go 43 rfl (aB1 (mn_vin (show 6 + 14 * i + k < 134 by omega) (by decide)) aB0) ?_
        rw [nI_clamp (show 6 + 14 * i + k < 2 ^ 31 by omega)]
        rw [wR_rd]
        refine GB.go 9999 rfl aB0 ?_
        refine GB.cal rfl rfl (by decide) (m_spot _ j k) ?_
        refine GB.go 53 rfl (aB1 (mn_vin (show 6 + 14 * j + k < 134 by omega) (by decide)) aB0) ?_
        rw [nI_clamp (show 6 + 14 * j + k < 2 ^ 31 by omega)]
        rw [wR_out (show 6 + 14 * j + k < 6 + 14 * i ∨ 6 + 14 * i + k ≤ 6 + 14 * j + k by omega)]
        refine GB.go 56 rfl (aB1 (by decide) aB0) ?_
        refine GB.go 57 rfl (aB1 (mn_vin (show 6 + 14 * i + k < 134 by omega) (by decide)) aB0) ?_
        rw [nI_clamp (show 6 + 14 * i + k < 2 ^ 31 by omega)]
        refine GB.go 18 rfl aB0 ?_
        exact ih
    · refine GB.go 9999 rfl aB0 ?_
      refine GB.br rfl rfl (fun c2 => ?_) (fun c2 => ?_)
      · refine GB.go 9999 rfl aB0 ?_
        refine GB.cal rfl rfl (by decide) (m_holds i (by omega) 1) ?_
        exact GB.ret rfl rfl aB0
      · exact absurd (Int32.le_refl _) c2
theorem m_stack0 (v w : Int32) {n : Nat} (hn : n ≤ 8) (h0 : ii 26 0 2 = nI n) (h : ¬ ((¬ v < 0 ∧ ¬ nI n ≤ v) ∧ (¬ w < 0 ∧ ¬ nI n ≤ w) ∧ v ≠ w)) : SK l X 5 170 [vR 25 0, vI v, vI w] (ii, jj, mj_rk kd, 108) (some (vI (fA 0))) (fnm ii 0, jj, mj_rk kd, 108) := by
  refine SK.of (by decide) (by decide) rfl ?_
  refine GB.go 9999 rfl aB0 ?_
  refine GB.cal rfl rfl (by decide) (m_areTwo v w hn h0) ?_
  refine GB.br rfl rfl (fun c => ?_) (fun c => ?_)
  · refine GB.go 9999 rfl aB0 ?_
    refine GB.cal rfl rfl (by decide) (m_finds 0 (by decide)) ?_
    exact GB.ret rfl rfl aB0
  · exact absurd (bd_t c) h
/-- the model's way of stacking -/
def stB (x : Int32) (k : Nat) : Bool := decide ((x >>> (nI k &&& 31)) &&& 1 = 1 ∧ (x >>> (nI ((k + 1) % 12) &&& 31)) &&& 1 = 0)
def stM (x : Int32) : Nat → Int32
  | 0 => 0
  | k + 1 => stM x k ||| cond (stB x k) (bT k) 0
theorem m_stack (i j n : Nat) (hi : i < n) (hj : j < n) (hij : i ≠ j) (hn : n ≤ 8) (h0 : ii 26 0 2 = nI n) : SK l X 5 170 [vR 25 0, vI (nI i), vI (nI j)] (ii, jj, mj_rk kd, 108) (some (vI (stM (hF (mR ii i) 1 12 ^^^ hF (mR ii j) 1 12) 12))) (ii, jj, mj_rk kd, 108) := by
  refine SK.of (by decide) (by decide) rfl ?_
  refine GB.go 9999 rfl aB0 ?_
  refine GB.cal rfl rfl (by decide) (m_areTwo _ _ hn h0) ?_
  refine GB.br rfl rfl (fun c => ?_) (fun c => ?_)
  · exact absurd (m_two hi hj hij hn) (bd_f c)
  · refine GB.go 9999 rfl aB0 ?_
    refine GB.cal rfl rfl (by decide) (m_holds i (by omega) 1) ?_
    refine GB.go 9999 rfl aB0 ?_
    refine GB.cal rfl rfl (by decide) (m_holds j (by omega) 1) ?_
    refine GB.go 36 rfl aB0 ?_
    generalize hF (mR ii i) 1 12 ^^^ hF (mR ii j) 1 12 = x
    refine GB.upto 12 (fun k => (36, [some (vR 25 0), some (vI (nI i)), some (vI (nI j)), some (vI x), some (vI (stM x k)), some (vI (nI k)), lsV (fun k => bI (stB x k)) k], [], (ii, jj, mj_rk kd, 108))) (fun k hk ih => ?_) ?_ 12 0 rfl
    · rw [nI_succ k] at ih
      have tl : GB l X 5 0 0 170 (74, [some (vR 25 0), some (vI (nI i)), some (vI (nI j)), some (vI x), some (vI (stM x k)), some (vI (nI k)), some (vI (bI (stB x k)))], [], (ii, jj, mj_rk kd, 108)) (some (vI (stM x 12))) (ii, jj, mj_rk kd, 108) := by
        refine GB.go 9999 rfl aB0 ?_
        refine GB.br rfl rfl (fun d => ?_) (fun d => ?_)
        · rw [show stM x (k + 1) = stM x k ||| 0 by rw [stM, bI_f d]; rfl] at ih
          refine GB.go 36 rfl aB0 ?_
          exact ih
        · rw [show stM x (k + 1) = stM x k ||| bT k by rw [stM, bI_t d]; rfl] at ih
          refine GB.go 36 rfl aB0 ?_
          exact ih
      refine GB.go 9999 rfl aB0 ?_
      refine GB.br rfl rfl (fun c2 => ?_) (fun c2 => ?_)
      · exact absurd c2 (nI_ge hk (by decide))
      · refine GB.go 9999 rfl aB0 ?_
        refine GB.br rfl rfl (fun c3 => ?_) (fun c3 => ?_)
        · refine GB.go 58 rfl aB0 ?_
          rw [nI_1]
          refine GB.go 61 rfl (aB1 (by decide) aB0) ?_
          rw [show nI (k + 1) - nI (k + 1) / 12 * 12 = nI ((k + 1) % 12) from pk_rem (by omega) (by decide) (by decide)]
          refine GB.go 9999 rfl aB0 ?_
          refine GB.br rfl rfl (fun c4 => ?_) (fun c4 => ?_)
          · have e : stB x k = true := decide_eq_true ⟨c3, c4⟩
            rw [e] at tl
            refine GB.go 74 rfl aB0 ?_
            exact tl
          · have e : stB x k = false := decide_eq_false (fun h => c4 h.2)
            rw [e] at tl
            refine GB.go 74 rfl aB0 ?_
            exact tl
        · have e : stB x k = false := decide_eq_false (fun h => c3 h.1)
          rw [e] at tl
          refine GB.go 74 rfl aB0 ?_
          exact tl
    · refine GB.go 9999 rfl aB0 ?_
      refine GB.br rfl rfl (fun c2 => ?_) (fun c2 => ?_)
      · refine GB.go 9999 rfl aB0 ?_
        exact GB.ret rfl rfl aB0
      · exact absurd (Int32.le_refl _) c2
theorem m_cpy2628 : SK l X 1 135 [vR 26 0, vR 28 0] (ii, jj, mj_rk kd, 108) none (wA ii 28 0 134 (ii 26 0), jj, mj_rk kd, 108) := by
  refine SK.of (by decide) (by decide) rfl ?_
  refine GB.go 2 rfl aB0 ?_
  refine GB.eqv (s1 := (2, [some (vR 26 0), some (vR 28 0), some (vI (nI 0))], [], (wA ii 28 0 0 (ii 26 0), jj, mj_rk kd, 108))) (by rw [wA_0]; rfl) ?_
  refine GB.upto 134 (fun k => (2, [some (vR 26 0), some (vR 28 0), some (vI (nI k))], [], (wA ii 28 0 k (ii 26 0), jj, mj_rk kd, 108))) (fun k hk ih => ?_) ?_ 134 0 rfl
  · rw [nI_succ k, ← wA_s] at ih
    refine GB.go 9999 rfl aB0 ?_
    refine GB.br rfl rfl (fun c => ?_) (fun c => ?_)
    · exact absurd c (nI_ge hk (by decide))
    · refine GB.go 14 rfl (aB1 (mn_vin (show k < 134 by omega) (by decide)) aB0) ?_
      rw [nI_clamp (show k < 2 ^ 31 by omega)]
      rw [wA_ne (fun h => absurd h.1 (by decide))]
      refine GB.go 15 rfl (aB1 (mn_vin (show k < 134 by omega) (by decide)) aB0) ?_
      rw [nI_clamp (show k < 2 ^ 31 by omega)]
      refine GB.go 2 rfl aB0 ?_
      exact ih
  · refine GB.go 9999 rfl aB0 ?_
    refine GB.br rfl rfl (fun c => ?_) (fun c => ?_)
    · exact GB.ret rfl rfl aB0
    · exact absurd (Int32.le_refl _) c
theorem m_cpy2826 : SK l X 1 135 [vR 28 0, vR 26 0] (ii, jj, mj_rk kd, 108) none (wA ii 26 0 134 (ii 28 0), jj, mj_rk kd, 108) := by
  refine SK.of (by decide) (by decide) rfl ?_
  refine GB.go 2 rfl aB0 ?_
  refine GB.eqv (s1 := (2, [some (vR 28 0), some (vR 26 0), some (vI (nI 0))], [], (wA ii 26 0 0 (ii 28 0), jj, mj_rk kd, 108))) (by rw [wA_0]; rfl) ?_
  refine GB.upto 134 (fun k => (2, [some (vR 28 0), some (vR 26 0), some (vI (nI k))], [], (wA ii 26 0 k (ii 28 0), jj, mj_rk kd, 108))) (fun k hk ih => ?_) ?_ 134 0 rfl
  · rw [nI_succ k, ← wA_s] at ih
    refine GB.go 9999 rfl aB0 ?_
    refine GB.br rfl rfl (fun c => ?_) (fun c => ?_)
    · exact absurd c (nI_ge hk (by decide))
    · refine GB.go 14 rfl (aB1 (mn_vin (show k < 134 by omega) (by decide)) aB0) ?_
      rw [nI_clamp (show k < 2 ^ 31 by omega)]
      rw [wA_ne (fun h => absurd h.1 (by decide))]
      refine GB.go 15 rfl (aB1 (mn_vin (show k < 134 by omega) (by decide)) aB0) ?_
      rw [nI_clamp (show k < 2 ^ 31 by omega)]
      refine GB.go 2 rfl aB0 ?_
      exact ih
  · refine GB.go 9999 rfl aB0 ?_
    refine GB.br rfl rfl (fun c => ?_) (fun c => ?_)
    · exact GB.ret rfl rfl aB0
    · exact absurd (Int32.le_refl _) c
theorem m_cpy2627 : SK l X 1 135 [vR 26 0, vR 27 0] (ii, jj, mj_rk kd, 108) none (wA ii 27 0 134 (ii 26 0), jj, mj_rk kd, 108) := by
  refine SK.of (by decide) (by decide) rfl ?_
  refine GB.go 2 rfl aB0 ?_
  refine GB.eqv (s1 := (2, [some (vR 26 0), some (vR 27 0), some (vI (nI 0))], [], (wA ii 27 0 0 (ii 26 0), jj, mj_rk kd, 108))) (by rw [wA_0]; rfl) ?_
  refine GB.upto 134 (fun k => (2, [some (vR 26 0), some (vR 27 0), some (vI (nI k))], [], (wA ii 27 0 k (ii 26 0), jj, mj_rk kd, 108))) (fun k hk ih => ?_) ?_ 134 0 rfl
  · rw [nI_succ k, ← wA_s] at ih
    refine GB.go 9999 rfl aB0 ?_
    refine GB.br rfl rfl (fun c => ?_) (fun c => ?_)
    · exact absurd c (nI_ge hk (by decide))
    · refine GB.go 14 rfl (aB1 (mn_vin (show k < 134 by omega) (by decide)) aB0) ?_
      rw [nI_clamp (show k < 2 ^ 31 by omega)]
      rw [wA_ne (fun h => absurd h.1 (by decide))]
      refine GB.go 15 rfl (aB1 (mn_vin (show k < 134 by omega) (by decide)) aB0) ?_
      rw [nI_clamp (show k < 2 ^ 31 by omega)]
      refine GB.go 2 rfl aB0 ?_
      exact ih
  · refine GB.go 9999 rfl aB0 ?_
    refine GB.br rfl rfl (fun c => ?_) (fun c => ?_)
    · exact GB.ret rfl rfl aB0
    · exact absurd (Int32.le_refl _) c
theorem m_cpy2726 : SK l X 1 135 [vR 27 0, vR 26 0] (ii, jj, mj_rk kd, 108) none (wA ii 26 0 134 (ii 27 0), jj, mj_rk kd, 108) := by
  refine SK.of (by decide) (by decide) rfl ?_
  refine GB.go 2 rfl aB0 ?_
  refine GB.eqv (s1 := (2, [some (vR 27 0), some (vR 26 0), some (vI (nI 0))], [], (wA ii 26 0 0 (ii 27 0), jj, mj_rk kd, 108))) (by rw [wA_0]; rfl) ?_
  refine GB.upto 134 (fun k => (2, [some (vR 27 0), some (vR 26 0), some (vI (nI k))], [], (wA ii 26 0 k (ii 27 0), jj, mj_rk kd, 108))) (fun k hk ih => ?_) ?_ 134 0 rfl
  · rw [nI_succ k, ← wA_s] at ih
    refine GB.go 9999 rfl aB0 ?_
    refine GB.br rfl rfl (fun c => ?_) (fun c => ?_)
    · exact absurd c (nI_ge hk (by decide))
    · refine GB.go 14 rfl (aB1 (mn_vin (show k < 134 by omega) (by decide)) aB0) ?_
      rw [nI_clamp (show k < 2 ^ 31 by omega)]
      rw [wA_ne (fun h => absurd h.1 (by decide))]
      refine GB.go 15 rfl (aB1 (mn_vin (show k < 134 by omega) (by decide)) aB0) ?_
      rw [nI_clamp (show k < 2 ^ 31 by omega)]
      refine GB.go 2 rfl aB0 ?_
      exact ih
  · refine GB.go 9999 rfl aB0 ?_
    refine GB.br rfl rfl (fun c => ?_) (fun c => ?_)
    · exact GB.ret rfl rfl aB0
    · exact absurd (Int32.le_refl _) c
theorem m_thinks : SK l X 2 177 [vR 25 0] (ii, jj, mj_rk kd, 108) none (wA ii 28 0 134 (ii 26 0), jj, mj_rk kd, 108) := by
  refine SK.of (by decide) (by decide) rfl ?_
  refine GB.go 9999 rfl aB0 ?_
  refine GB.cal rfl rfl (by decide) (m_cpy2628) ?_
  exact GB.ret rfl rfl aB0
theorem m_putsBack : SK l X 2 178 [vR 25 0] (ii, jj, mj_rk kd, 108) none (wA ii 26 0 134 (ii 28 0), jj, mj_rk kd, 108) := by
  refine SK.of (by decide) (by decide) rfl ?_
  refine GB.go 9999 rfl aB0 ?_
  refine GB.cal rfl rfl (by decide) (m_cpy2826) ?_
  exact GB.ret rfl rfl aB0
/-- the model as it was, but for what it thought -/
def smM (ii i2 : Nat → Nat → Nat → Int32) : Prop := (∀ k, k < 134 → i2 26 0 k = ii 26 0 k) ∧ ∀ a, a ≠ 26 → a ≠ 28 → i2 a = ii a
theorem wA_tg {f : Nat → Nat → Nat → Int32} {T i n a : Nat} {F : Nat → Int32} (h : a ≠ T) : wA f T i n F a = f a := by
  funext b c
  exact wA_ne (fun h2 => h h2.1)
theorem smM_back {i2 : Nat → Nat → Nat → Int32} (h : ∀ a, a ≠ 26 → i2 a = wA ii 28 0 134 (ii 26 0) a) : smM ii (wA i2 26 0 134 (i2 28 0)) := by
  refine ⟨fun k hk => ?_, fun a h1 h2 => ?_⟩
  · rw [wA_lt hk, h 28 (by decide), wA_lt hk]
  · rw [wA_tg h1, h a h1, wA_tg h2]
theorem mI_th {n w : Nat} {K : Nat → Nat} (h : mI ii n w K) {F : Nat → Int32} : mI (wA ii 28 0 134 F) n w K := by
  have e : wA ii 28 0 134 F 26 = ii 26 := wA_tg (by decide)
  unfold mI rNs mR
  rw [e]
  exact h
end MQ
