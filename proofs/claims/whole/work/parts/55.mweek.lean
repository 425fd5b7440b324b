/-! THE MODEL'S WEEKS -/
theorem bT_bit : ∀ t, t < 12 → ∀ i, i < 32 → (bT t).toBitVec.getLsbD i = decide (t = i) := by decide +kernel
theorem and_bT {x : Int32} {t : Nat} (ht : t < 12) : x &&& bT t = 0 ↔ x.toBitVec.getLsbD t = false := by
  constructor
  · intro h
    have h2 := congrArg (fun z => z.toBitVec.getLsbD t) h
    simp only [Int32.toBitVec_and, BitVec.getLsbD_and, bT_bit t ht t (by omega)] at h2
    simpa using h2
  · intro h
    refine i32_ext (fun i hi => ?_)
    rw [Int32.toBitVec_and, BitVec.getLsbD_and, bT_bit t ht i hi]
    by_cases e : t = i
    · subst e
      rw [h]
      simp
    · rw [decide_eq_false e, Bool.and_false]
      simp
theorem hF_get {f : Nat → Int32} {a : Int32} {t : Nat} (ht : t < 12) : ∀ n, n ≤ 12 → (hF f a n).toBitVec.getLsbD t = (decide (t < n) && decide (¬ f t < a))
  | 0, _ => by simp [hF]
  | n + 1, hn => by
    have ih := hF_get (f := f) (a := a) ht n (by omega)
    unfold hF
    by_cases h : f n < a
    · rw [if_pos h, ih]
      by_cases e : t = n
      · subst e
        rw [decide_eq_false (Nat.lt_irrefl t), decide_eq_false (not_not_intro h), Bool.and_false, Bool.and_false]
      · rw [show decide (t < n + 1) = decide (t < n) from decide_eq_decide.mpr (by omega)]
    · rw [if_neg h, Int32.toBitVec_or, BitVec.getLsbD_or, ih, bT_bit n (by omega) t (by omega)]
      by_cases e : t = n
      · subst e
        rw [decide_eq_true rfl, decide_eq_true (Nat.lt_succ_self t), decide_eq_true h]
        simp
      · rw [show decide (n = t) = false from decide_eq_false (fun q => e q.symm), Bool.or_false, show decide (t < n + 1) = decide (t < n) from decide_eq_decide.mpr (by omega)]
theorem hF_bit {f : Nat → Int32} {a : Int32} {t : Nat} (ht : t < 12) : (hF f a 12 >>> (nI t &&& 31)) &&& 1 = 1 ↔ ¬ f t < a := by
  rw [bit_iff (sT_hF 12 (by decide)) ht, and_bT ht, hF_get ht 12 (by decide), decide_eq_true ht, Bool.true_and]
  by_cases h : f t < a <;> simp [h]
theorem le0_lt1 {x : Int32} : x ≤ 0 ↔ x < 1 := by
  rw [Int32.le_iff_toInt_le, Int32.lt_iff_toInt_lt]
  show x.toInt ≤ 0 ↔ x.toInt < 1
  omega
theorem up3_self {α : Type} {f : Nat → Nat → Nat → α} {t i k : Nat} : up3 f t i k (f t i k) = f := by
  funext a b c
  unfold up3
  split
  · next h => rw [h.1, h.2.1, h.2.2]
  · rfl
/-- what the moths do in the model -/
def lmX (ii : Nat → Nat → Nat → Int32) (i : Nat) (o : Option Nat) : Nat → Nat → Nat → Int32 := match o with
  | none => ii
  | some p => up3 ii 26 0 (6 + 14 * i + p) 0
def eaM (ii : Nat → Nat → Nat → Int32) (i : Nat) : Nat → Nat → Nat → Int32 := if 3 ≤ bC (hF (mR ii i) 1 12) then lmX ii i (lmP (mR ii i) 12 0 ((bC (hF (mR ii i) 1 12) - 1) / 2)) else ii
theorem bC_n {x : Int32} (h : sT x) : ∃ q, q ≤ 12 ∧ bC x = nI q := by
  obtain ⟨a, ha, rfl⟩ := sT_of h
  obtain ⟨h1, h2⟩ := bC_le a ha
  obtain ⟨q, hq, e⟩ := nI_of2 (M := 12) (n := 12) (by decide) (Int32.not_lt.mpr h1) h2
  exact ⟨q, hq, e⟩
section MQ
variable {l : Launch} {X : FX} {ii : Nat → Nat → Nat → Int32} {jj : Nat → Nat → Nat → Int64} {kd : Nat → Nat}
theorem m_eatsN (i : Nat) (hi : i < 8) (set many : Int32) : ∀ (n k : Nat) (a : Int32), k + n = 12 → a.toInt < 0 → (-100 : Int) + (n : Int) ≤ a.toInt → GB l X 3 0 0 171 (28, [some (vR 25 0), some (vI (nI i)), some (vI set), some (vI many), some (vI a), some (vI (nI k))], [], (ii, jj, mj_rk kd, 108)) none (ii, jj, mj_rk kd, 108)
  | 0, k, a, h, _, _ => by
    cases (show k = 12 by omega)
    refine GB.go 9999 rfl aB0 ?_
    refine GB.br rfl rfl (fun c => ?_) (fun c => ?_)
    · exact GB.ret rfl rfl aB0
    · exact absurd (Int32.le_refl _) c
  | n + 1, k, a, h, ha, hb => by
    have hk : k < 12 := by omega
    have e1 : (a + -1).toInt = a.toInt - 1 := by
      rw [Int32.toInt_add, show Int32.toInt (-1) = -1 by decide, Int.bmod_eq_of_le (by omega) (by omega)]
      omega
    refine GB.go 9999 rfl aB0 ?_
    refine GB.br rfl rfl (fun c => ?_) (fun c => ?_)
    · exact absurd c (nI_ge hk (by decide))
    · refine GB.go 9999 rfl aB0 ?_
      refine GB.br rfl rfl (fun c2 => ?_) (fun c2 => ?_)
      · refine GB.go 9999 rfl aB0 ?_
        refine GB.cal rfl rfl (by decide) (m_spot _ i k) ?_
        refine GB.go 9999 rfl aB0 ?_
        refine GB.br rfl rfl (fun c3 => ?_) (fun c3 => ?_)
        · exact absurd ha (by rw [c3]; decide)
        · refine GB.go 9999 rfl aB0 ?_
          refine GB.cal rfl rfl (by decide) (m_spot _ i k) ?_
          refine GB.go 75 rfl (aB1 (mn_vin (show 6 + 14 * i + k < 134 by omega) (by decide)) aB0) ?_
          rw [nI_clamp (show 6 + 14 * i + k < 2 ^ 31 by omega)]
          refine GB.go 76 rfl (aB1 (mn_vin (show 6 + 14 * i + k < 134 by omega) (by decide)) aB0) ?_
          rw [nI_clamp (show 6 + 14 * i + k < 2 ^ 31 by omega)]
          rw [up3_self]
          have ih := m_eatsN i hi set many n (k + 1) (a + -1) (by omega) (by omega) (by omega)
          rw [nI_succ] at ih
          refine GB.go 28 rfl aB0 ?_
          exact ih
      · have ih := m_eatsN i hi set many n (k + 1) a (by omega) ha (by omega)
        rw [nI_succ] at ih
        refine GB.go 28 rfl aB0 ?_
        exact ih
theorem m_eatsL (i : Nat) (hi : i < 8) (many : Int32) : ∀ (n k a : Nat), k + n = 12 → a ≤ 12 → GB l X 3 0 0 171 (28, [some (vR 25 0), some (vI (nI i)), some (vI (hF (mR ii i) 1 12)), some (vI many), some (vI (nI a)), some (vI (nI k))], [], (ii, jj, mj_rk kd, 108)) none (lmX ii i (lmP (mR ii i) n k (nI a)), jj, mj_rk kd, 108)
  | 0, k, a, h, _ => by
    cases (show k = 12 by omega)
    refine GB.go 9999 rfl aB0 ?_
    refine GB.br rfl rfl (fun c => ?_) (fun c => ?_)
    · exact GB.ret rfl rfl aB0
    · exact absurd (Int32.le_refl _) c
  | n + 1, k, a, h, ha => by
    have hk : k < 12 := by omega
    refine GB.go 9999 rfl aB0 ?_
    refine GB.br rfl rfl (fun c => ?_) (fun c => ?_)
    · exact absurd c (nI_ge hk (by decide))
    · refine GB.go 9999 rfl aB0 ?_
      refine GB.br rfl rfl (fun c2 => ?_) (fun c2 => ?_)
      · have q : ¬ mR ii i k ≤ 0 := fun z => (hF_bit hk).mp c2 (le0_lt1.mp z)
        refine GB.go 9999 rfl aB0 ?_
        refine GB.cal rfl rfl (by decide) (m_spot _ i k) ?_
        refine GB.go 9999 rfl aB0 ?_
        refine GB.br rfl rfl (fun c3 => ?_) (fun c3 => ?_)
        · rw [show lmP (mR ii i) (n + 1) k (nI a) = some k from (if_neg q).trans (if_pos c3)]
          refine GB.go 75 rfl aB0 ?_
          refine GB.go 76 rfl (aB1 (mn_vin (show 6 + 14 * i + k < 134 by omega) (by decide)) aB0) ?_
          rw [nI_clamp (show 6 + 14 * i + k < 2 ^ 31 by omega)]
          have ih := m_eatsN (l := l) (X := X) (ii := up3 ii 26 0 (6 + 14 * i + k) 0) (jj := jj) (kd := kd) i hi (hF (mR ii i) 1 12) many n (k + 1) (nI a + -1) (by omega) (by rw [c3]; decide) (by rw [c3, show Int32.toInt (0 + -1) = -1 by decide]; omega)
          rw [nI_succ] at ih
          refine GB.go 28 rfl aB0 ?_
          exact ih
        · rw [show lmP (mR ii i) (n + 1) k (nI a) = lmP (mR ii i) n (k + 1) (nI a + -1) from (if_neg q).trans (if_neg c3)]
          refine GB.go 9999 rfl aB0 ?_
          refine GB.cal rfl rfl (by decide) (m_spot _ i k) ?_
          refine GB.go 75 rfl (aB1 (mn_vin (show 6 + 14 * i + k < 134 by omega) (by decide)) aB0) ?_
          rw [nI_clamp (show 6 + 14 * i + k < 2 ^ 31 by omega)]
          refine GB.go 76 rfl (aB1 (mn_vin (show 6 + 14 * i + k < 134 by omega) (by decide)) aB0) ?_
          rw [nI_clamp (show 6 + 14 * i + k < 2 ^ 31 by omega)]
          rw [up3_self]
          match a, c3, ha with
          | 0, c3, _ => exact absurd rfl c3
          | a + 1, _, ha =>
            have ih := m_eatsL i hi many n (k + 1) a (by omega) (by omega)
            rw [nI_succ] at ih
            rw [pk_m1]
            refine GB.go 79 rfl aB0 ?_
            rw [pk_m1]
            refine GB.go 28 rfl aB0 ?_
            exact ih
      · have q : mR ii i k ≤ 0 := le0_lt1.mpr (Classical.not_not.mp (fun z => c2 ((hF_bit hk).mpr z)))
        rw [show lmP (mR ii i) (n + 1) k (nI a) = lmP (mR ii i) n (k + 1) (nI a) from if_pos q]
        have ih := m_eatsL i hi many n (k + 1) a (by omega) ha
        rw [nI_succ] at ih
        refine GB.go 28 rfl aB0 ?_
        exact ih
theorem m_eats (i : Nat) (hi : i < 8) : SK l X 3 171 [vR 25 0, vI (nI i)] (ii, jj, mj_rk kd, 108) none (eaM ii i, jj, mj_rk kd, 108) := by
  obtain ⟨q, hq, e⟩ := bC_n (sT_hF (f := mR ii i) (a := 1) 12 (by decide))
  unfold eaM
  refine SK.of (by decide) (by decide) rfl ?_
  refine GB.go 9999 rfl aB0 ?_
  refine GB.cal rfl rfl (by decide) (m_holds i hi 1) ?_
  refine GB.go 9999 rfl aB0 ?_
  refine GB.cal rfl rfl (by decide) (m_bits _ (sT_hF 12 (by decide))) ?_
  rw [e]
  refine GB.go 9999 rfl aB0 ?_
  refine GB.br rfl rfl (fun c => ?_) (fun c => ?_)
  · rw [if_pos c]
    have h3 : 3 ≤ q := (nI_leI (a := 3) (by decide) (by omega)).mp c
    have e2 : (nI q - 1) / 2 = nI ((q - 1) / 2) := by
      rw [show (1 : Int32) = nI 1 from rfl, pk_sub (by omega), show (2 : Int32) = nI 2 from rfl, pk_div (by omega) (by decide) (by decide)]
    rw [e2]
    refine GB.go 23 rfl (aB1 (by decide) aB0) ?_
    rw [e2]
    refine GB.go 28 rfl aB0 ?_
    exact m_eatsL i hi _ 12 0 _ rfl (by omega)
  · rw [if_neg c]
    exact GB.ret rfl rfl aB0
/-- a hat's week in the model -/
def mW (ii : Nat → Nat → Nat → Int32) (i c : Nat) (w mo : Int32) : Nat → Nat → Nat → Int32 := if mo = 1 then eaM (wR ii i 12 (wkF (mR ii i) (fdO c w))) i else wR ii i 12 (wkF (mR ii i) (fdO c w))
def mWs (ii : Nat → Nat → Nat → Int32) (K : Nat → Nat) (w mo : Int32) : Nat → Nat → Nat → Nat → Int32
  | 0 => ii
  | n + 1 => mW (mWs ii K w mo n) n (K n) w mo
theorem lmX_tag {i a : Nat} {o : Option Nat} (h : a ≠ 26) : lmX ii i o a = ii a := by
  cases o with
  | none => rfl
  | some k => exact up3_tag h
theorem eaM_tag {i a : Nat} (h : a ≠ 26) : eaM ii i a = ii a := by
  unfold eaM
  split
  · exact lmX_tag h
  · rfl
theorem mW_tag {i c a : Nat} {w mo : Int32} (h : a ≠ 26) : mW ii i c w mo a = ii a := by
  unfold mW
  split
  · rw [eaM_tag h, wR_tag h]
  · rw [wR_tag h]
theorem mWs_tag {a : Nat} {K : Nat → Nat} {w mo : Int32} (h : a ≠ 26) : ∀ n, mWs ii K w mo n a = ii a
  | 0 => rfl
  | n + 1 => (mW_tag h).trans (mWs_tag h n)
theorem lmP_lt {f : Nat → Int32} : ∀ n k a p, lmP f n k a = some p → k ≤ p ∧ p < k + n
  | 0, k, a, p, h => by cases h
  | n + 1, k, a, p, h => by
    unfold lmP at h
    split at h
    · have := lmP_lt n (k + 1) _ p h
      omega
    · split at h
      · cases h
        omega
      · have := lmP_lt n (k + 1) _ p h
        omega
theorem eaM_out {i c : Nat} (h : c < 6 + 14 * i ∨ 18 + 14 * i ≤ c) : eaM ii i 26 0 c = ii 26 0 c := by
  unfold eaM
  split
  · cases hp : lmP (mR ii i) 12 0 ((bC (hF (mR ii i) 1 12) - 1) / 2) with
    | none => rfl
    | some p =>
      have := lmP_lt _ _ _ _ hp
      exact up3_pl (by omega)
  · rfl
theorem mW_out {i c x : Nat} {w mo : Int32} (h : x < 6 + 14 * i ∨ 18 + 14 * i ≤ x) : mW ii i c w mo 26 0 x = ii 26 0 x := by
  unfold mW
  split
  · rw [eaM_out h, wR_out (by omega)]
  · rw [wR_out (by omega)]
/-- places that no week changes, in the hats below n -/
theorem mWs_out {K : Nat → Nat} {w mo : Int32} {x : Nat} (h : ∀ i t, t < 12 → x ≠ 6 + 14 * i + t) : ∀ n, mWs ii K w mo n 26 0 x = ii 26 0 x
  | 0 => rfl
  | n + 1 => by
    rw [mWs, mW_out, mWs_out h n]
    rcases Nat.lt_or_ge x (6 + 14 * n) with h1 | h1
    · exact Or.inl h1
    · refine Or.inr (Nat.le_of_not_lt (fun h2 => ?_))
      exact h n (x - (6 + 14 * n)) (by omega) (by omega)
theorem mWs_row {K : Nat → Nat} {w mo : Int32} {x : Nat} : ∀ n, 4 + 14 * n ≤ x → mWs ii K w mo n 26 0 x = ii 26 0 x
  | 0, _ => rfl
  | n + 1, h => by rw [mWs, mW_out (Or.inr (by omega)), mWs_row n (by omega)]
/-- freshness from 0 to 9 -/
def rN (f : Nat → Int32) : Prop := ∀ t, t < 12 → ∃ x, x ≤ 9 ∧ f t = nI x
theorem fdO_n {c w : Nat} (hw : w < 2 ^ 31) : ∃ z, z ≤ 2 ∧ fdO c (nI w) = nI z := by
  have r2 : iR (nI w) 2 = nI (w % 2) := pk_rem hw (by decide) (by decide)
  have r3 : iR (nI w) 3 = nI (w % 3) := pk_rem hw (by decide) (by decide)
  unfold fdO
  split
  · exact ⟨w % 2, by omega, r2⟩
  · exact ⟨2, by omega, rfl⟩
  · rw [r2, r3]
    split
    · exact ⟨w % 2 + 1, by omega, nI_1 _⟩
    · exact ⟨w % 2, by omega, nI_add _ 0⟩
  · exact ⟨1, by omega, rfl⟩
theorem wk_hd {x z : Nat} (hx : x ≤ 9) (hz : z ≤ 2) : hdO (nI x - nI z) 0 9 = if 0 < nI x - nI z then nI x - nI z else 0 := by
  have : ∀ x, x ≤ 9 → ∀ z, z ≤ 2 → hdO (nI x - nI z) 0 9 = if 0 < nI x - nI z then nI x - nI z else 0 := by decide +kernel
  exact this x hx z hz
theorem wk_n {x z : Nat} (hx : x ≤ 9) (hz : z ≤ 2) : (if 0 < nI x - nI z then nI x - nI z else 0) = nI (x - z) := by
  have : ∀ x, x ≤ 9 → ∀ z, z ≤ 2 → (if 0 < nI x - nI z then nI x - nI z else 0) = nI (x - z) := by decide +kernel
  exact this x hx z hz
theorem m_hatWeek (i c0 : Nat) (hi : i < 8) (z : Int32) (hz : ∃ y, y ≤ 2 ∧ z = nI y) (hr : rN (mR ii i)) {r : Option MV} {h' : MH} (fin : ∀ i2, i2 = (if ii 26 0 1 = 1 then eaM (wR ii i 12 (wkF (mR ii i) z)) i else wR ii i 12 (wkF (mR ii i) z)) → GB l X 5 0 0 172 (75, [some (vR 25 0), some (vI (nI i)), some (vI z), some (vI (nI 12))], [], (i2, jj, mj_rk kd, 108)) r h') : GB l X 5 0 0 172 (20, [some (vR 25 0), some (vI (nI i)), some (vI z), some (vI (nI 0))], [], (ii, jj, mj_rk kd, 108)) r h' := by
  refine GB.eqv (s1 := (20, [some (vR 25 0), some (vI (nI i)), some (vI z), some (vI (nI 0))], [], (wR ii i 0 (wkF (mR ii i) z), jj, mj_rk kd, 108))) (by rw [wR_0]) ?_
  refine GB.upto 12 (fun k => (20, [some (vR 25 0), some (vI (nI i)), some (vI z), some (vI (nI k))], [], (wR ii i k (wkF (mR ii i) z), jj, mj_rk kd, 108))) (fun k hk ih => ?_) ?_ 12 0 rfl
  · rw [nI_succ, ← wR_s] at ih
    refine GB.go 9999 rfl aB0 ?_
    refine GB.br rfl rfl (fun c => ?_) (fun c => ?_)
    · exact absurd c (nI_ge hk (by decide))
    · refine GB.go 9999 rfl aB0 ?_
      refine GB.cal rfl rfl (by decide) (m_spot _ i k) ?_
      refine GB.go 9999 rfl aB0 ?_
      refine GB.cal rfl rfl (by decide) (m_spot _ i k) ?_
      refine GB.go 45 rfl (aB1 (mn_vin (show 6 + 14 * i + k < 134 by omega) (by decide)) aB0) ?_
      rw [nI_clamp (show 6 + 14 * i + k < 2 ^ 31 by omega)]
      rw [wR_rd]
      refine GB.go 9999 rfl aB0 ?_
      refine GB.cal rfl rfl (by decide) (m_held _ _ _ _) ?_
      rw [show wkF (mR ii i) z k = hdO (ii 26 0 (6 + 14 * i + k) - z) 0 9 by
        obtain ⟨x, hx, e⟩ := hr k hk
        obtain ⟨y, hy, e2⟩ := hz
        unfold wkF
        rw [show ii 26 0 (6 + 14 * i + k) = nI x from e, e, e2, wk_hd hx hy]] at ih
      refine GB.go 54 rfl (aB1 (mn_vin (show 6 + 14 * i + k < 134 by omega) (by decide)) aB0) ?_
      rw [nI_clamp (show 6 + 14 * i + k < 2 ^ 31 by omega)]
      refine GB.go 20 rfl aB0 ?_
      exact ih
  · refine GB.go 9999 rfl aB0 ?_
    refine GB.br rfl rfl (fun c => ?_) (fun c => ?_)
    · refine GB.go 66 rfl (aB1 (by decide) aB0) ?_
      rw [show Int32.toNatClampNeg 1 = 1 from by decide, wR_out (Or.inl (by omega))]
      refine GB.go 9999 rfl aB0 ?_
      refine GB.br rfl rfl (fun c2 => ?_) (fun c2 => ?_)
      · refine GB.go 9999 rfl aB0 ?_
        refine GB.cal rfl rfl (by decide) (m_eats i hi) ?_
        exact fin _ (by rw [if_pos c2])
      · exact fin _ (by rw [if_neg c2])
    · exact absurd (Int32.le_refl _) c
/-- the rows of the hats below n are in range -/
def rNs (ii : Nat → Nat → Nat → Int32) (n : Nat) : Prop := ∀ i, i < n → rN (mR ii i)
theorem mWs_mR {K : Nat → Nat} {w mo : Int32} {n i : Nat} (h : n ≤ i) {t : Nat} (ht : t < 12) : mR (mWs ii K w mo n) i t = mR ii i t := mWs_row n (by omega)
theorem m_week {n w : Nat} {K : Nat → Nat} (hn : n ≤ 8) (h0 : ii 26 0 2 = nI n) (hw : ii 26 0 0 = nI w) (hwl : w < 2 ^ 31) (hK : ∀ i, i < n → K i < 6 ∧ ii 26 0 (4 + 14 * i) = nI (K i)) (hr : rNs ii n) : SK l X 5 172 [vR 25 0] (ii, jj, mj_rk kd, 108) none (up3 (mWs ii K (ii 26 0 0) (ii 26 0 1) n) 26 0 0 (ii 26 0 0 + 1), jj, mj_rk kd, 108) := by
  refine SK.of (by decide) (by decide) rfl ?_
  refine GB.go 2 rfl aB0 ?_
  have L : ∀ m k v2 v3, k + m = n → GB l X 5 0 0 172 (2, [some (vR 25 0), some (vI (nI k)), v2, v3], [], (mWs ii K (ii 26 0 0) (ii 26 0 1) k, jj, mj_rk kd, 108)) none (up3 (mWs ii K (ii 26 0 0) (ii 26 0 1) n) 26 0 0 (ii 26 0 0 + 1), jj, mj_rk kd, 108) := by
    intro m
    induction m with
    | zero =>
      intro k v2 v3 h
      rw [show k = n by omega]
      refine GB.go 9 rfl (aB1 (by decide) aB0) ?_
      rw [show mWs ii K (ii 26 0 0) (ii 26 0 1) n 26 0 (Int32.toNatClampNeg 2) = nI n by
        rw [show Int32.toNatClampNeg 2 = 2 from by decide, mWs_out (fun i t ht => by omega), h0]]
      refine GB.br rfl rfl (fun c => ?_) (fun c => ?_)
      · refine GB.go 88 rfl (aB1 (by decide) aB0) ?_
        rw [show mWs ii K (ii 26 0 0) (ii 26 0 1) n 26 0 (Int32.toNatClampNeg 0) = ii 26 0 0 by
          rw [show Int32.toNatClampNeg 0 = 0 from by decide, mWs_out (fun i t ht => by omega)]]
        refine GB.go 9999 rfl (aB1 (by decide) aB0) ?_
        exact GB.ret rfl rfl aB0
      · exact absurd (Int32.le_refl _) c
    | succ m ih =>
      intro k v2 v3 h
      have ih := ih (k + 1)
      rw [nI_succ] at ih
      refine GB.go 9 rfl (aB1 (by decide) aB0) ?_
      rw [show mWs ii K (ii 26 0 0) (ii 26 0 1) k 26 0 (Int32.toNatClampNeg 2) = nI n by
        rw [show Int32.toNatClampNeg 2 = 2 from by decide, mWs_out (fun i t ht => by omega), h0]]
      refine GB.br rfl rfl (fun c => ?_) (fun c => ?_)
      · exact absurd c (nI_ge (show k < n by omega) (by omega))
      · refine GB.go 9999 rfl aB0 ?_
        refine GB.cal rfl rfl (by decide) (m_fadesOf k (K k) (by omega) (hK k (by omega)).1 (by rw [mWs_out (fun i t ht => by omega)]; exact (hK k (by omega)).2)) ?_
        refine GB.go 20 rfl aB0 ?_
        rw [show mWs ii K (ii 26 0 0) (ii 26 0 1) k 26 0 0 = ii 26 0 0 from mWs_out (fun i t ht => by omega) k]
        refine m_hatWeek k (K k) (by omega) _ (by rw [hw]; exact fdO_n hwl) (fun t ht => by rw [mWs_mR (Nat.le_refl k) ht]; exact hr k (by omega) t ht) (fun i2 e2 => ?_)
        rw [show mWs ii K (ii 26 0 0) (ii 26 0 1) k 26 0 1 = ii 26 0 1 from mWs_out (fun i t ht => by omega) k] at e2
        rw [show i2 = mWs ii K (ii 26 0 0) (ii 26 0 1) (k + 1) from e2]
        refine GB.go 2 rfl aB0 ?_
        exact ih _ _ (by omega)
  exact L n 0 _ _ (by omega)
end MQ
