/-! THE MODEL'S CALLS: kind, lasting, count, status, image, undo, tear, wipe, feed -/
theorem up3_up3 {α : Type} {f : Nat → Nat → Nat → α} {t i k : Nat} {v w : α} : up3 (up3 f t i k v) t i k w = up3 f t i k w := by
  funext a b c
  unfold up3
  split <;> rfl
theorem mR_kind {ii : Nat → Nat → Nat → Int32} {i j : Nat} {v : Int32} {t : Nat} (ht : t < 12) : mR (up3 ii 26 0 (4 + 14 * j) v) i t = mR ii i t := up3_pl (by omega)
/-- the row as it was, and thought of -/
def tqM (ii i2 : Nat → Nat → Nat → Int32) : Prop := (∀ x, x < 134 → i2 26 0 x = ii 26 0 x) ∧ (∀ x, x < 134 → i2 28 0 x = ii 26 0 x) ∧ ∀ a, a ≠ 26 → a ≠ 28 → i2 a = ii a
theorem tqM_th {ii : Nat → Nat → Nat → Int32} : tqM ii (wA ii 28 0 134 (ii 26 0)) := ⟨fun x _ => by rw [wA_tg (by decide)], fun x hx => wA_lt hx, fun a _ h2 => wA_tg h2⟩
theorem tqM_sm {ii i2 : Nat → Nat → Nat → Int32} (h : tqM ii i2) : smM ii i2 := ⟨h.1, h.2.2⟩
theorem tqM_back {ii i2 i3 : Nat → Nat → Nat → Int32} (h : tqM ii i2) (h3 : ∀ a, a ≠ 26 → i3 a = i2 a) : tqM ii (wA i3 26 0 134 (i3 28 0)) := by
  refine ⟨fun x hx => ?_, fun x hx => ?_, fun a h1 h2 => ?_⟩
  · rw [wA_lt hx, h3 28 (by decide), h.2.1 x hx]
  · rw [wA_tg (by decide), h3 28 (by decide), h.2.1 x hx]
  · rw [wA_tg h1, h3 a h1, h.2.2 a h1 h2]
theorem mI_eq {ii i2 : Nat → Nat → Nat → Int32} {n w : Nat} {K : Nat → Nat} (h : mI ii n w K) (e : ∀ x, x < 134 → i2 26 0 x = ii 26 0 x) : mI i2 n w K := by
  obtain ⟨h1, h2, h3, h4, h5⟩ := h
  refine ⟨h1, by rw [e 2 (by decide), h2], by rw [e 0 (by decide), h3], fun i hi => ⟨(h4 i hi).1, ?_⟩, fun i hi t ht => ?_⟩
  · rw [e _ (by omega)]
    exact (h4 i hi).2
  · unfold mR
    rw [e _ (by omega)]
    exact h5 i hi t ht
theorem mI_kd {ii : Nat → Nat → Nat → Int32} {n w i k : Nat} {K : Nat → Nat} (h : mI ii n w K) (hk : k < 6) : mI (up3 ii 26 0 (4 + 14 * i) (nI k)) n w (kU K i k) := by
  obtain ⟨h1, h2, h3, h4, h5⟩ := h
  refine ⟨h1, by rw [up3_pl (by omega), h2], by rw [up3_pl (by omega), h3], fun j hj => ?_, fun j hj t ht => ?_⟩
  · by_cases e : j = i
    · rw [e, kU_at, up3_rd]
      exact ⟨hk, rfl⟩
    · rw [kU_ne e, up3_pl (by omega)]
      exact h4 j hj
  · rw [mR_kind ht]
    exact h5 j hj t ht
section MQ
variable {l : Launch} {X : FX} {ii : Nat → Nat → Nat → Int32} {jj : Nat → Nat → Nat → Int64} {kd : Nat → Nat}
theorem m_best1 (d m : Nat) (hd : d < m) (hm : m ≤ 6) (h1 : ii 26 0 3 = nI m) (h0 : ii 26 0 2 = nI 0) (hs : sT (ii 26 0 (116 + 3 * d))) : SK l X 8 182 [vR 25 0, vI (nI d)] (ii, jj, mj_rk kd, 108) (some (vI (fA 3))) (fnm ii 3, jj, mj_rk kd, 108) := by
  refine m_bestW (K := fun _ => 0) d m 0 hd hm h1 (by decide) h0 (fun i hi => absurd hi (Nat.not_lt_zero _)) hs (fun v5 v6 => ?_)
  refine GB.go 9999 rfl aB0 ?_
  refine GB.cal rfl rfl (by decide) (m_orNone1) ?_
  exact GB.ret rfl rfl aB0
theorem bsJ_I {F : Nat → Int32} (h : ¬ F 0 ≤ -1) : ∀ n, bsJ F (n + 1) = bsI F (n + 1)
  | 0 => by
    show (if F 0 ≤ -1 then -1 else nI 0) = (if F 0 ≤ -1 then 0 else nI 0)
    rw [if_neg h, if_neg h]
  | n + 1 => by
    rw [bsJ, bsI, bsJ_I h n]
theorem bsI_n {F : Nat → Int32} : ∀ n, ∃ a, a ≤ n ∧ bsI F n = nI a
  | 0 => ⟨0, Nat.le_refl _, rfl⟩
  | n + 1 => by
    obtain ⟨a, ha, e⟩ := bsI_n (F := F) n
    unfold bsI
    split
    · exact ⟨a, by omega, e⟩
    · exact ⟨n, by omega, rfl⟩
theorem m_best (d m n : Nat) {K : Nat → Nat} (hd : d < m) (hm : m ≤ 6) (h1 : ii 26 0 3 = nI m) (hn0 : 0 < n) (hn : n ≤ 8) (h0 : ii 26 0 2 = nI n) (hK : ∀ i, i < n → K i < 6 ∧ ii 26 0 (4 + 14 * i) = nI (K i)) (hs : sT (ii 26 0 (116 + 3 * d))) : SK l X 8 182 [vR 25 0, vI (nI d)] (ii, jj, mj_rk kd, 108) (some (vI (bsI (fun k => mN ii (K k) k (ii 26 0 (116 + 3 * d))) n))) (ii, jj, mj_rk kd, 108) := by
  refine m_bestW (K := K) d m n hd hm h1 hn h0 hK hs (fun v5 v6 => ?_)
  have e : bsJ (fun k => mN ii (K k) k (ii 26 0 (116 + 3 * d))) n = bsI (fun k => mN ii (K k) k (ii 26 0 (116 + 3 * d))) n := by
    match n, hn0 with
    | n + 1, _ =>
      refine bsJ_I ?_ n
      obtain ⟨q, hq, e⟩ := bC_n (sT_or hs (sT_tk (c := K 0) (b := hF (mR ii 0) 3 12) (x := ii 26 0 (116 + 3 * d)) (sT_hF (f := mR ii 0) (a := 1) 12 (by decide))))
      show ¬ bC (ii 26 0 (116 + 3 * d) ||| tkO (K 0) (hF (mR ii 0) 1 12) (hF (mR ii 0) 3 12) (ii 26 0 (116 + 3 * d))) ≤ -1
      rw [e, Int32.le_iff_toInt_le, nI_toInt (by omega)]
      show ¬ (q : Int) ≤ -1
      omega
  rw [e]
  obtain ⟨a, ha, e2⟩ := bsI_n (F := fun k => mN ii (K k) k (ii 26 0 (116 + 3 * d))) n
  rw [e2]
  refine GB.go 9999 rfl aB0 ?_
  refine GB.cal rfl rfl (by decide) (m_orNone _ a (by omega)) ?_
  exact GB.ret rfl rfl aB0
theorem m_kind0 (v w : Int32) {n m : Nat} (hn : n ≤ 8) (h0 : ii 26 0 2 = nI n) (hm : m ≤ 6) (h1 : ii 26 0 3 = nI m) (h : ¬ ((¬ v < 0 ∧ ¬ nI n ≤ v) ∧ ¬ w < 0 ∧ ¬ nI m ≤ w)) : SK l X 8 187 [vR 25 0, vI v, vI w] (ii, jj, mj_rk kd, 108) (some (vI (fA 0))) (fnm ii 0, jj, mj_rk kd, 108) := by
  refine SK.of (by decide) (by decide) rfl ?_
  have tail : GB l X 8 0 0 187 (16, [some (vR 25 0), some (vI v), some (vI w), none, none, none, none, none, none, none], [], (ii, jj, mj_rk kd, 108)) (some (vI (fA 0))) (fnm ii 0, jj, mj_rk kd, 108) := by
    refine GB.go 9999 rfl aB0 ?_
    refine GB.cal rfl rfl (by decide) (m_finds 0 (by decide)) ?_
    exact GB.ret rfl rfl aB0
  refine GB.go 9999 rfl aB0 ?_
  refine GB.cal rfl rfl (by decide) (m_isHat v hn h0) ?_
  refine GB.br rfl rfl (fun c => ?_) (fun c => ?_)
  · exact tail
  · refine GB.go 9999 rfl aB0 ?_
    refine GB.cal rfl rfl (by decide) (m_isHead w hm h1) ?_
    refine GB.br rfl rfl (fun c2 => ?_) (fun c2 => ?_)
    · exact tail
    · exact absurd ⟨bd_t c, bd_t c2⟩ h
/-- the model's picture ahead of turn k -/
def kqM (ii : Nat → Nat → Nat → Int32) (i : Nat) : Nat → Nat → Nat → Nat → Int32
  | 0 => ii
  | k + 1 => up3 ii 26 0 (4 + 14 * i) (nI k)
theorem kqM_up {i k : Nat} {v : Int32} : up3 (kqM ii i k) 26 0 (4 + 14 * i) v = up3 ii 26 0 (4 + 14 * i) v := by
  cases k with
  | zero => rfl
  | succ k => exact up3_up3
theorem m_kindL (i d : Nat) (hi : i < 8) (has : Int32) (hs : sT has) : ∀ N k, k + N = 6 → GB l X 8 0 0 187 (55, [some (vR 25 0), some (vI (nI i)), some (vI (nI d)), some (vI (nI (4 + 14 * i))), some (vI (ii 26 0 (4 + 14 * i))), some (vI has), some (vI (bsI (fun k => mN ii k i has) k)), some (vI (bsM (fun k => mN ii k i has) k)), some (vI (nI k)), lsV (fun k => mN ii k i has) k], [], (kqM ii i k, jj, mj_rk kd, 108)) (some (vI (bsI (fun k => mN ii k i has) 6))) (ii, jj, mj_rk kd, 108)
  | 0, k, e => by
    rw [show k = 6 by omega]
    refine GB.go 9999 rfl aB0 ?_
    refine GB.br rfl rfl (fun c => ?_) (fun c => ?_)
    · refine GB.go 130 rfl (aB1 (mn_vin (show 4 + 14 * i < 134 by omega) (by decide)) aB0) ?_
      rw [nI_clamp (show 4 + 14 * i < 2 ^ 31 by omega)]
      rw [kqM_up, up3_self]
      refine GB.go 9999 rfl aB0 ?_
      exact GB.ret rfl rfl aB0
    · exact absurd (by decide) c
  | N + 1, k, e => by
    have ih := m_kindL i d hi has hs N (k + 1) (by omega)
    rw [nI_succ k] at ih
    refine GB.go 9999 rfl aB0 ?_
    refine GB.br rfl rfl (fun c => ?_) (fun c => ?_)
    · exact absurd c (nI_nlt (show k ≤ 5 by omega) (by decide))
    · refine GB.go 69 rfl (aB1 (mn_vin (show 4 + 14 * i < 134 by omega) (by decide)) aB0) ?_
      rw [nI_clamp (show 4 + 14 * i < 2 ^ 31 by omega)]
      rw [kqM_up]
      refine GB.go 9999 rfl aB0 ?_
      refine GB.cal rfl rfl (by decide) (m_takesOf i k hi (by omega) up3_rd has) ?_
      rw [show mT (up3 ii 26 0 (4 + 14 * i) (nI k)) k i has = mT ii k i has by
        unfold mT
        rw [hF_c (fun t ht => mR_kind ht) 12 (by decide), hF_c (fun t ht => mR_kind ht) 12 (by decide)]]
      refine GB.go 9999 rfl aB0 ?_
      refine GB.cal rfl rfl (by decide) (m_bits _ (sT_or hs (sT_tk (sT_hF 12 (by decide))))) ?_
      refine GB.go 9999 rfl aB0 ?_
      refine GB.br rfl rfl (fun c3 => ?_) (fun c3 => ?_)
      · rw [show bsI (fun k => mN ii k i has) (k + 1) = bsI (fun k => mN ii k i has) k from if_pos c3, show bsM (fun k => mN ii k i has) (k + 1) = bsM (fun k => mN ii k i has) k from if_pos c3] at ih
        refine GB.go 9999 rfl aB0 ?_
        refine GB.br rfl rfl (fun c4 => ?_) (fun c4 => ?_)
        · refine GB.go 55 rfl aB0 ?_
          exact ih
        · exact absurd c3 c4
      · rw [show bsI (fun k => mN ii k i has) (k + 1) = nI k from if_neg c3, show bsM (fun k => mN ii k i has) (k + 1) = mN ii k i has from if_neg c3] at ih
        refine GB.go 9999 rfl aB0 ?_
        refine GB.br rfl rfl (fun c4 => ?_) (fun c4 => ?_)
        · exact absurd c4 c3
        · refine GB.go 55 rfl aB0 ?_
          exact ih
theorem m_kind (i n d m : Nat) (hi : i < n) (hn : n ≤ 8) (h0 : ii 26 0 2 = nI n) (hd : d < m) (hm : m ≤ 6) (h1 : ii 26 0 3 = nI m) (hs : sT (ii 26 0 (116 + 3 * d))) : SK l X 8 187 [vR 25 0, vI (nI i), vI (nI d)] (ii, jj, mj_rk kd, 108) (some (vI (bsI (fun k => mN ii k i (ii 26 0 (116 + 3 * d))) 6))) (ii, jj, mj_rk kd, 108) := by
  refine SK.of (by decide) (by decide) rfl ?_
  refine GB.go 9999 rfl aB0 ?_
  refine GB.cal rfl rfl (by decide) (m_isHat _ hn h0) ?_
  refine GB.br rfl rfl (fun c => ?_) (fun c => ?_)
  · exact absurd (in_ok hi (by omega) rfl) (bd_f c)
  · refine GB.go 9999 rfl aB0 ?_
    refine GB.cal rfl rfl (by decide) (m_isHead _ hm h1) ?_
    refine GB.br rfl rfl (fun c2 => ?_) (fun c2 => ?_)
    · exact absurd (in_ok hd (by omega) rfl) (bd_f c2)
    · refine GB.go 29 rfl aB0 ?_
      rw [sp_k]
      refine GB.go 36 rfl (aB1 (mn_vin (show 4 + 14 * i < 134 by omega) (by decide)) aB0) ?_
      rw [nI_clamp (show 4 + 14 * i < 2 ^ 31 by omega)]
      refine GB.go 9999 rfl aB0 ?_
      refine GB.cal rfl rfl (by decide) (m_has d 0 (by omega) (by decide)) ?_
      rw [show 116 + 3 * d + 0 = 116 + 3 * d from rfl]
      refine GB.go 55 rfl aB0 ?_
      exact m_kindL i d (by omega) _ hs 6 0 rfl
theorem m_lasting0 (v w : Int32) {n : Nat} (hn : n ≤ 8) (h0 : ii 26 0 2 = nI n) (h : ¬ ((¬ v < 0 ∧ ¬ nI n ≤ v) ∧ uT w 60 = true)) : SK l X 8 188 [vR 25 0, vI v, vI w] (ii, jj, mj_rk kd, 108) (some (vI (fA 0))) (fnm ii 0, jj, mj_rk kd, 108) := by
  refine SK.of (by decide) (by decide) rfl ?_
  have tail : GB l X 8 0 0 188 (19, [some (vR 25 0), some (vI v), some (vI w), none, none, none, none], [], (ii, jj, mj_rk kd, 108)) (some (vI (fA 0))) (fnm ii 0, jj, mj_rk kd, 108) := by
    refine GB.go 9999 rfl aB0 ?_
    refine GB.cal rfl rfl (by decide) (m_finds 0 (by decide)) ?_
    exact GB.ret rfl rfl aB0
  refine GB.go 9999 rfl aB0 ?_
  refine GB.cal rfl rfl (by decide) (m_isHat v hn h0) ?_
  refine GB.br rfl rfl (fun c => ?_) (fun c => ?_)
  · exact tail
  · refine GB.go 9999 rfl aB0 ?_
    refine GB.cal rfl rfl (by decide) (m_up _ w 60) ?_
    refine GB.br rfl rfl (fun c2 => ?_) (fun c2 => ?_)
    · exact tail
    · exact absurd ⟨bd_t c, bI_t c2⟩ h
def lsG (ii : Nat → Nat → Nat → Int32) (i w N k : Nat) : Int32 := aF (wkRs k w (ii 26 0 1) (mR ii i) N) 12
theorem m_lastingL (i n w N : Nat) {K : Nat → Nat} (hi : i < n) (h : mI ii n w K) (hN : N ≤ 60) (hw : w + N < 2 ^ 31) : ∀ M k i2, k + M = 6 → tqM ii i2 → ∃ i3, GB l X 8 0 0 188 (38, [some (vR 25 0), some (vI (nI i)), some (vI (nI N)), some (vI (bsI (lsG ii i w N) k)), some (vI (bsM (lsG ii i w N) k)), some (vI (nI k)), lsV (lsG ii i w N) k], [], (i2, jj, mj_rk kd, 108)) (some (vI (bsI (lsG ii i w N) 6))) (i3, jj, mj_rk kd, 108) ∧ smM ii i3
  | 0, k, i2, e, hq => by
    refine ⟨i2, ?_, tqM_sm hq⟩
    rw [show k = 6 by omega]
    refine GB.go 9999 rfl aB0 ?_
    refine GB.br rfl rfl (fun c => ?_) (fun c => ?_)
    · refine GB.go 9999 rfl aB0 ?_
      exact GB.ret rfl rfl aB0
    · exact absurd (by decide) c
  | M + 1, k, i2, e, hq => by
    have n8 := h.1
    have T := mI_kd (i := i) (k := k) (mI_eq h hq.1) (by omega)
    have A := mSk_at T hi N hw
    have E : aF (mR (mSk (kU K i k) n (up3 i2 26 0 (4 + 14 * i) (nI k)) N) i) 12 = lsG ii i w N k := by
      refine aF_c 12 (eqR.tr A ?_)
      rw [kU_at, show up3 i2 26 0 (4 + 14 * i) (nI k) 26 0 1 = ii 26 0 1 by rw [up3_pl (by omega), hq.1 1 (by decide)]]
      refine wkRs_c (fun t ht => ?_) N
      rw [mR_kind ht]
      exact hq.1 _ (by omega)
    obtain ⟨i3, G, S⟩ := m_lastingL i n w N hi h hN hw M (k + 1) (wA (mSk (kU K i k) n (up3 i2 26 0 (4 + 14 * i) (nI k)) N) 26 0 134 (mSk (kU K i k) n (up3 i2 26 0 (4 + 14 * i) (nI k)) N 28 0)) (by omega) (tqM_back hq (fun a ha => by rw [mSk_tag ha, up3_tag ha]))
    refine ⟨i3, ?_, S⟩
    rw [nI_succ k] at G
    refine GB.go 9999 rfl aB0 ?_
    refine GB.br rfl rfl (fun c => ?_) (fun c => ?_)
    · exact absurd c (nI_nlt (show k ≤ 5 by omega) (by decide))
    · refine GB.go 54 rfl aB0 ?_
      rw [sp_k]
      refine GB.go 57 rfl (aB1 (mn_vin (show 4 + 14 * i < 134 by omega) (by decide)) aB0) ?_
      rw [nI_clamp (show 4 + 14 * i < 2 ^ 31 by omega)]
      refine GB.go 9999 rfl aB0 ?_
      refine GB.cal rfl rfl (by decide) (m_goesOn T N hw) ?_
      refine GB.go 9999 rfl aB0 ?_
      refine GB.cal rfl rfl (by decide) (m_freshOf i (by omega)) ?_
      rw [E]
      refine GB.go 9999 rfl aB0 ?_
      refine GB.cal rfl rfl (by decide) (m_putsBack) ?_
      refine GB.go 9999 rfl aB0 ?_
      refine GB.br rfl rfl (fun c3 => ?_) (fun c3 => ?_)
      · rw [show bsI (lsG ii i w N) (k + 1) = bsI (lsG ii i w N) k from if_pos c3, show bsM (lsG ii i w N) (k + 1) = bsM (lsG ii i w N) k from if_pos c3] at G
        refine GB.go 9999 rfl aB0 ?_
        refine GB.br rfl rfl (fun c4 => ?_) (fun c4 => ?_)
        · refine GB.go 38 rfl aB0 ?_
          exact G
        · exact absurd c3 c4
      · rw [show bsI (lsG ii i w N) (k + 1) = nI k from if_neg c3, show bsM (lsG ii i w N) (k + 1) = lsG ii i w N k from if_neg c3] at G
        refine GB.go 9999 rfl aB0 ?_
        refine GB.br rfl rfl (fun c4 => ?_) (fun c4 => ?_)
        · exact absurd c4 c3
        · refine GB.go 38 rfl aB0 ?_
          exact G
theorem m_lasting (i n w N : Nat) {K : Nat → Nat} (hi : i < n) (h : mI ii n w K) (hN : N ≤ 60) (hw : w + N < 2 ^ 31) : ∃ i2, SK l X 8 188 [vR 25 0, vI (nI i), vI (nI N)] (ii, jj, mj_rk kd, 108) (some (vI (bsI (lsG ii i w N) 6))) (i2, jj, mj_rk kd, 108) ∧ smM ii i2 := by
  obtain ⟨i2, L, S⟩ := m_lastingL (l := l) (X := X) (jj := jj) (kd := kd) i n w N hi h hN hw 6 0 _ rfl tqM_th
  refine ⟨i2, ?_, S⟩
  refine SK.of (by decide) (by decide) rfl ?_
  refine GB.go 9999 rfl aB0 ?_
  refine GB.cal rfl rfl (by decide) (m_isHat _ h.1 h.2.1) ?_
  refine GB.br rfl rfl (fun c => ?_) (fun c => ?_)
  · exact absurd (in_ok hi (by have := h.1; omega) rfl) (bd_f c)
  · refine GB.go 9999 rfl aB0 ?_
    refine GB.cal rfl rfl (by decide) (m_up _ _ 60) ?_
    refine GB.br rfl rfl (fun c2 => ?_) (fun c2 => ?_)
    · exact absurd c2 (b0_of (uT_ok hN (by decide)))
    · refine GB.go 9999 rfl aB0 ?_
      refine GB.cal rfl rfl (by decide) (m_thinks) ?_
      refine GB.go 38 rfl aB0 ?_
      exact L
theorem m_count0 (w : Int32) (hw : uT w 3 = false) : SK l X 5 219 [vR 25 0, vI w] (ii, jj, mj_rk kd, 108) (some (vI (fA 0))) (fnm ii 0, jj, mj_rk kd, 108) := by
  have q : ∀ b, b ≤ 3 → w ≠ nI b := fun b hb e => by
    rw [e, show (3 : Int32) = nI 3 from rfl, uT_ok hb (by decide)] at hw
    cases hw
  refine SK.of (by decide) (by decide) rfl ?_
  refine GB.go 9999 rfl aB0 ?_
  refine GB.sw rfl rfl ?_
  rw [show mj_swt [(0, 32), (1, 39), (2, 44), (3, 51)] 87 w = 87 by
    simp only [mj_swt]
    rw [if_neg (show w ≠ 0 from q 0 (by decide)), if_neg (show w ≠ 1 from q 1 (by decide)), if_neg (show w ≠ 2 from q 2 (by decide)), if_neg (show w ≠ 3 from q 3 (by decide))]]
  refine GB.go 9999 rfl aB0 ?_
  refine GB.cal rfl rfl (by decide) (m_finds 0 (by decide)) ?_
  exact GB.ret rfl rfl aB0
theorem m_count (w n : Nat) (hw : w ≤ 3) (hn : n ≤ 8) (h0 : ii 26 0 2 = nI n) : SK l X 5 219 [vR 25 0, vI (nI w)] (ii, jj, mj_rk kd, 108) (some (vI (match w with
    | 0 => ii 26 0 2
    | 1 => ii 25 0 6
    | 2 => ii 26 0 3
    | _ => aF (fun k => ii 26 0 (5 + 14 * k)) n))) (ii, jj, mj_rk kd, 108) := by
  refine SK.of (by decide) (by decide) rfl ?_
  refine GB.go 9999 rfl aB0 ?_
  refine GB.sw rfl rfl ?_
  match w, hw with
  | 0, _ =>
    refine GB.go 38 rfl (aB1 (by decide) aB0) ?_
    exact GB.ret rfl rfl aB0
  | 1, _ =>
    refine GB.go 9999 rfl aB0 ?_
    exact GB.ret rfl rfl aB0
  | 2, _ =>
    refine GB.go 50 rfl (aB1 (by decide) aB0) ?_
    exact GB.ret rfl rfl aB0
  | 3, _ =>
    refine GB.go 53 rfl aB0 ?_
    refine GB.upto n (fun k => (53, [some (vR 25 0), some (vI (nI 3)), some (vI (aF (fun k => ii 26 0 (5 + 14 * k)) k)), some (vI (nI k))], [], (ii, jj, mj_rk kd, 108))) (fun k hk ih => ?_) ?_ n 0 (by omega)
    · rw [nI_succ k] at ih
      refine GB.go 60 rfl (aB1 (by decide) aB0) ?_
      rw [show ii 26 0 (Int32.toNatClampNeg 2) = nI n from h0]
      refine GB.br rfl rfl (fun c => ?_) (fun c => ?_)
      · exact absurd c (nI_ge hk (by omega))
      · refine GB.go 76 rfl aB0 ?_
        rw [sp_p]
        refine GB.go 77 rfl (aB1 (mn_vin (show 5 + 14 * k < 134 by omega) (by decide)) aB0) ?_
        rw [nI_clamp (show 5 + 14 * k < 2 ^ 31 by omega)]
        refine GB.go 53 rfl aB0 ?_
        exact ih
    · refine GB.go 60 rfl (aB1 (by decide) aB0) ?_
      rw [show ii 26 0 (Int32.toNatClampNeg 2) = nI n from h0]
      refine GB.br rfl rfl (fun c => ?_) (fun c => ?_)
      · refine GB.go 9999 rfl aB0 ?_
        exact GB.ret rfl rfl aB0
      · exact absurd (Int32.le_refl _) c
  | w + 4, hw => exact absurd hw (by omega)
theorem m_status0 (w : Int32) (hw : w < -1 ∨ 6 < w) : SK l X 5 220 [vR 25 0, vI w] (ii, jj, mj_rk kd, 108) (some (vI (fA 0))) (fnm ii 0, jj, mj_rk kd, 108) := by
  refine SK.of (by decide) (by decide) rfl ?_
  refine GB.go 9999 rfl aB0 ?_
  refine GB.cal rfl rfl (by decide) (m_in _ w (-1) 6) ?_
  refine GB.br rfl rfl (fun c => ?_) (fun c => ?_)
  · refine GB.go 9999 rfl aB0 ?_
    refine GB.cal rfl rfl (by decide) (m_finds 0 (by decide)) ?_
    exact GB.ret rfl rfl aB0
  · exact absurd (bd_t c) (by rintro ⟨h1, h2⟩; rcases hw with h | h; exact h1 h; exact h2 h)
/-- the findings asked for, added up -/
def stS (f : Nat → Int32) (w : Int32) : Nat → Int32
  | 0 => 0
  | n + 1 => stS f w n + (if w < 0 ∨ w = nI n then f n else 0)
theorem m_status (w : Int32) (hw : ¬ w < -1 ∧ ¬ 6 < w) : SK l X 5 220 [vR 25 0, vI w] (ii, jj, mj_rk kd, 108) (some (vI (stS (ii 29 0) w 7))) (ii, jj, mj_rk kd, 108) := by
  refine SK.of (by decide) (by decide) rfl ?_
  refine GB.go 9999 rfl aB0 ?_
  refine GB.cal rfl rfl (by decide) (m_in _ w (-1) 6) ?_
  refine GB.br rfl rfl (fun c => ?_) (fun c => ?_)
  · exact absurd hw (bd_f c)
  · refine GB.go 22 rfl aB0 ?_
    refine GB.upto 7 (fun k => (22, [some (vR 25 0), some (vI w), some (vI (stS (ii 29 0) w k)), some (vI (nI k))], [], (ii, jj, mj_rk kd, 108))) (fun k hk ih => ?_) ?_ 7 0 rfl
    · rw [nI_succ k] at ih
      refine GB.go 9999 rfl aB0 ?_
      refine GB.br rfl rfl (fun c2 => ?_) (fun c2 => ?_)
      · exact absurd c2 (nI_ge hk (by decide))
      · refine GB.go 9999 rfl aB0 ?_
        refine GB.br rfl rfl (fun c3 => ?_) (fun c3 => ?_)
        · rw [show stS (ii 29 0) w (k + 1) = stS (ii 29 0) w k + ii 29 0 k by rw [stS, if_pos (Or.inl c3)]] at ih
          refine GB.go 44 rfl (aB1 (mn_vin (show k < 7 by omega) (by decide)) aB0) ?_
          rw [nI_clamp (show k < 2 ^ 31 by omega)]
          refine GB.go 22 rfl aB0 ?_
          exact ih
        · refine GB.go 9999 rfl aB0 ?_
          refine GB.br rfl rfl (fun c4 => ?_) (fun c4 => ?_)
          · rw [show stS (ii 29 0) w (k + 1) = stS (ii 29 0) w k + ii 29 0 k by rw [stS, if_pos (Or.inr c4)]] at ih
            refine GB.go 44 rfl (aB1 (mn_vin (show k < 7 by omega) (by decide)) aB0) ?_
            rw [nI_clamp (show k < 2 ^ 31 by omega)]
            refine GB.go 22 rfl aB0 ?_
            exact ih
          · rw [show stS (ii 29 0) w (k + 1) = stS (ii 29 0) w k + 0 by rw [stS, if_neg (by rintro (h | h); exact c3 h; exact c4 h)]] at ih
            refine GB.go 22 rfl aB0 ?_
            exact ih
    · refine GB.go 9999 rfl aB0 ?_
      refine GB.br rfl rfl (fun c2 => ?_) (fun c2 => ?_)
      · refine GB.go 9999 rfl aB0 ?_
        exact GB.ret rfl rfl aB0
      · exact absurd (Int32.le_refl _) c2
theorem m_image : SK l X 5 216 [vR 25 0] (ii, jj, mj_rk kd, 108) (some (vI 1)) (up3 (wA ii 27 0 134 (ii 26 0)) 25 0 3 1, jj, mj_rk kd, 108) := by
  refine SK.of (by decide) (by decide) rfl ?_
  refine GB.go 9999 rfl aB0 ?_
  refine GB.cal rfl rfl (by decide) (m_cpy2627) ?_
  refine GB.go 9999 rfl (aB1 (by decide) aB0) ?_
  exact GB.ret rfl rfl aB0
theorem m_undo0 (h : ii 25 0 3 = 0) : SK l X 5 217 [vR 25 0] (ii, jj, mj_rk kd, 108) (some (vI (fA 3))) (fnm ii 3, jj, mj_rk kd, 108) := by
  refine SK.of (by decide) (by decide) rfl ?_
  refine GB.go 9999 rfl aB0 ?_
  refine GB.br rfl rfl (fun c => ?_) (fun c => ?_)
  · refine GB.go 9999 rfl aB0 ?_
    refine GB.cal rfl rfl (by decide) (m_finds 3 (by decide)) ?_
    exact GB.ret rfl rfl aB0
  · exact absurd h c
theorem m_undo (h : ¬ ii 25 0 3 = 0) : SK l X 5 217 [vR 25 0] (ii, jj, mj_rk kd, 108) (some (vI (ii 27 0 2))) (wA ii 26 0 134 (ii 27 0), jj, mj_rk kd, 108) := by
  refine SK.of (by decide) (by decide) rfl ?_
  refine GB.go 9999 rfl aB0 ?_
  refine GB.br rfl rfl (fun c => ?_) (fun c => ?_)
  · exact absurd c h
  · refine GB.go 9999 rfl aB0 ?_
    refine GB.cal rfl rfl (by decide) (m_cpy2726) ?_
    refine GB.go 31 rfl (aB1 (by decide) aB0) ?_
    rw [show Int32.toNatClampNeg 2 = 2 from by decide, wA_lt (by decide)]
    exact GB.ret rfl rfl aB0
theorem m_tear : SK l X 5 218 [vR 25 0] (ii, jj, mj_rk kd, 108) (some (vI (if ii 25 0 3 = 0 then 0 else 1))) (up3 ii 25 0 3 0, jj, mj_rk kd, 108) := by
  refine SK.of (by decide) (by decide) rfl ?_
  refine GB.go 9999 rfl aB0 ?_
  refine GB.br rfl rfl (fun c => ?_) (fun c => ?_)
  · rw [if_pos c]
    refine GB.go 9999 rfl (aB1 (by decide) aB0) ?_
    exact GB.ret rfl rfl aB0
  · rw [if_neg c]
    refine GB.go 9999 rfl (aB1 (by decide) aB0) ?_
    exact GB.ret rfl rfl aB0
theorem m_wipe : SK l X 5 192 [vR 25 0] (ii, jj, mj_rk kd, 108) (some (vI (ii 25 0 6))) (up3 ii 25 0 6 0, jj, mj_rk kd, 108) := by
  refine SK.of (by decide) (by decide) rfl ?_
  refine GB.go 9999 rfl aB0 ?_
  exact GB.ret rfl rfl aB0
theorem m_feed0 (b v : Int32) (h : v < 1 ∨ 4 < v) : SK l X 5 191 [vR 25 0, vI b, vI v] (ii, jj, mj_rk kd, 108) (some (vI (fA 0))) (fnm ii 0, jj, mj_rk kd, 108) := by
  refine SK.of (by decide) (by decide) rfl ?_
  refine GB.go 9999 rfl aB0 ?_
  refine GB.cal rfl rfl (by decide) (m_in _ v 1 4) ?_
  refine GB.br rfl rfl (fun c => ?_) (fun c => ?_)
  · refine GB.go 9999 rfl aB0 ?_
    refine GB.cal rfl rfl (by decide) (m_finds 0 (by decide)) ?_
    exact GB.ret rfl rfl aB0
  · exact absurd (bd_t c) (by rintro ⟨h1, h2⟩; rcases h with h | h; exact h1 h; exact h2 h)
theorem m_feed1 (b v : Int32) (h : ¬ v < 1 ∧ ¬ 4 < v) (hf : ¬ ii 25 0 6 + v ≤ 120) : SK l X 5 191 [vR 25 0, vI b, vI v] (ii, jj, mj_rk kd, 108) (some (vI (fA 1))) (fnm ii 1, jj, mj_rk kd, 108) := by
  refine SK.of (by decide) (by decide) rfl ?_
  refine GB.go 9999 rfl aB0 ?_
  refine GB.cal rfl rfl (by decide) (m_in _ v 1 4) ?_
  refine GB.br rfl rfl (fun c => ?_) (fun c => ?_)
  · exact absurd h (bd_f c)
  · refine GB.go 9999 rfl aB0 ?_
    refine GB.br rfl rfl (fun c2 => ?_) (fun c2 => ?_)
    · exact absurd c2 hf
    · refine GB.go 9999 rfl aB0 ?_
      refine GB.cal rfl rfl (by decide) (m_finds 1 (by decide)) ?_
      exact GB.ret rfl rfl aB0
/-- bytes put on the model's tape, k of them from place z on -/
def fdM (b : Int32) (ii : Nat → Nat → Nat → Int32) : Nat → Nat → Nat → Nat → Nat → Int32
  | 0, _ => ii
  | k + 1, z => fdM b (up3 (up3 ii 30 0 z (b >>> (8 * nI k &&& 31) &&& 255)) 25 0 6 (nI (z + 1))) k (z + 1)
theorem m_feedL (b v : Int32) : ∀ k z ii, k ≤ 4 → z + k ≤ 120 → ii 25 0 6 = nI z → GB l X 5 0 0 191 (39, [some (vR 25 0), some (vI b), some (vI v), some (vI (nI k + -1))], [], (ii, jj, mj_rk kd, 108)) (some (vI (nI (z + k)))) (fdM b ii k z, jj, mj_rk kd, 108)
  | 0, z, ii, _, _, hz => by
    refine GB.go 9999 rfl aB0 ?_
    refine GB.br rfl rfl (fun c => ?_) (fun c => ?_)
    · refine GB.go 9999 rfl aB0 ?_
      rw [hz]
      exact GB.ret rfl rfl aB0
    · exact absurd (by decide) c
  | k + 1, z, ii, hk, hl, hz => by
    have ih := m_feedL b v k (z + 1) (up3 (up3 ii 30 0 z (b >>> (8 * nI k &&& 31) &&& 255)) 25 0 6 (nI (z + 1))) (by omega) (by omega) up3_rd
    rw [show z + 1 + k = z + (k + 1) by omega] at ih
    rw [pk_m1]
    refine GB.go 9999 rfl aB0 ?_
    refine GB.br rfl rfl (fun c => ?_) (fun c => ?_)
    · exact absurd c (nI_pos (by omega))
    · refine GB.go 51 rfl aB0 ?_
      rw [hz]
      refine GB.go 62 rfl (aB1 (mn_vin (show z < 120 by omega) (by decide)) aB0) ?_
      rw [nI_clamp (show z < 2 ^ 31 by omega)]
      refine GB.go 67 rfl aB0 ?_
      rw [up3_tag (by decide), hz]
      refine GB.go 69 rfl aB0 ?_
      rw [nI_1]
      refine GB.go 39 rfl aB0 ?_
      exact ih
theorem m_feed (b : Int32) (k z : Nat) (h4 : k + 1 ≤ 4) (hz : ii 25 0 6 = nI z) (hl : z + (k + 1) ≤ 120) : SK l X 5 191 [vR 25 0, vI b, vI (nI (k + 1))] (ii, jj, mj_rk kd, 108) (some (vI (nI (z + (k + 1))))) (fdM b ii (k + 1) z, jj, mj_rk kd, 108) := by
  have L := m_feedL (l := l) (X := X) (jj := jj) (kd := kd) b (nI (k + 1)) (k + 1) z ii h4 hl hz
  rw [pk_m1] at L
  refine SK.of (by decide) (by decide) rfl ?_
  refine GB.go 9999 rfl aB0 ?_
  refine GB.cal rfl rfl (by decide) (m_in _ _ 1 4) ?_
  refine GB.br rfl rfl (fun c => ?_) (fun c => ?_)
  · exact absurd ⟨nI_nlt (show 1 ≤ k + 1 by omega) (by omega), nI_nlt h4 (by decide)⟩ (bd_f c)
  · refine GB.go 9999 rfl aB0 ?_
    rw [hz, nI_add]
    refine GB.br rfl rfl (fun c2 => ?_) (fun c2 => ?_)
    · refine GB.go 39 rfl aB0 ?_
      rw [nI_pred]
      exact L
    · exact absurd (nI_le hl (by decide)) c2
end MQ
