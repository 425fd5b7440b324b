/-! SETS: what both ways of counting say -/
theorem i32_ext {x y : Int32} (h : ∀ i, i < 32 → x.toBitVec.getLsbD i = y.toBitVec.getLsbD i) : x = y := by
  rw [← Int32.toBitVec_inj]
  exact BitVec.eq_of_getLsbD_eq h
/-- a set of thoughts -/
def sT (x : Int32) : Prop := x &&& 4095 = x
theorem sT_of {x : Int32} (h : sT x) : ∃ a, a < 4096 ∧ x = nI a := by
  refine ⟨x.toBitVec.toNat, ?_, ?_⟩
  · have h2 := congrArg (fun z => z.toBitVec.toNat) h
    simp only [Int32.toBitVec_and, BitVec.toNat_and] at h2
    rw [← h2]
    exact Nat.lt_of_le_of_lt Nat.and_le_right (by decide)
  · rw [← Int32.toBitVec_inj]
    unfold nI
    rw [Int32.toBitVec_ofNat', BitVec.ofNat_toNat, BitVec.setWidth_eq]
theorem sT_nI {a : Nat} (h : a < 4096) : sT (nI a) := by
  unfold sT
  rw [← Int32.toBitVec_inj]
  apply BitVec.eq_of_toNat_eq
  unfold nI
  simp only [Int32.toBitVec_and, Int32.toBitVec_ofNat', BitVec.toNat_and, BitVec.toNat_ofNat]
  rw [Nat.mod_eq_of_lt (show a < 2 ^ 32 by omega)]
  exact (Nat.and_two_pow_sub_one_eq_mod a 12).trans (Nat.mod_eq_of_lt h)
theorem sT_or {x y : Int32} (hx : sT x) (hy : sT y) : sT (x ||| y) := by
  unfold sT at *
  refine i32_ext (fun i hi => ?_)
  have h1 := congrArg (fun z => z.toBitVec.getLsbD i) hx
  have h2 := congrArg (fun z => z.toBitVec.getLsbD i) hy
  simp only [Int32.toBitVec_and, Int32.toBitVec_or, BitVec.getLsbD_and, BitVec.getLsbD_or] at *
  revert h1 h2
  cases x.toBitVec.getLsbD i <;> cases y.toBitVec.getLsbD i <;> simp
theorem sT_and {x y : Int32} (hx : sT x) : sT (x &&& y) := by
  unfold sT at *
  refine i32_ext (fun i hi => ?_)
  have h1 := congrArg (fun z => z.toBitVec.getLsbD i) hx
  simp only [Int32.toBitVec_and, BitVec.getLsbD_and] at *
  revert h1
  cases x.toBitVec.getLsbD i <;> cases y.toBitVec.getLsbD i <;> simp
theorem bT_all : ∀ t, t < 12 → bT t &&& 4095 = bT t := by decide +kernel
theorem sT_hF {f : Nat → Int32} {a : Int32} : ∀ n, n ≤ 12 → sT (hF f a n)
  | 0, _ => by unfold sT hF; decide
  | n + 1, h => by
    unfold hF
    split
    · exact sT_hF n (by omega)
    · exact sT_or (sT_hF n (by omega)) (bT_all n (by omega))
/-- firm is held -/
theorem hF_sub {f : Nat → Int32} {a b : Int32} (h : a ≤ b) : ∀ n, hF f a n &&& hF f b n = hF f b n
  | 0 => by unfold hF; decide
  | n + 1 => by
    have ih := hF_sub (f := f) h n
    unfold hF
    by_cases h1 : f n < b
    · rw [if_pos h1]
      by_cases h2 : f n < a
      · rw [if_pos h2, ih]
      · rw [if_neg h2]
        refine i32_ext (fun i hi => ?_)
        have h3 := congrArg (fun z => z.toBitVec.getLsbD i) ih
        simp only [Int32.toBitVec_and, Int32.toBitVec_or, BitVec.getLsbD_and, BitVec.getLsbD_or] at *
        revert h3
        cases (hF f a n).toBitVec.getLsbD i <;> cases (hF f b n).toBitVec.getLsbD i <;> cases (bT n).toBitVec.getLsbD i <;> simp
    · rw [if_neg h1, if_neg (fun h2 => h1 (Int32.lt_of_lt_of_le h2 h))]
      refine i32_ext (fun i hi => ?_)
      have h3 := congrArg (fun z => z.toBitVec.getLsbD i) ih
      simp only [Int32.toBitVec_and, Int32.toBitVec_or, BitVec.getLsbD_and, BitVec.getLsbD_or] at *
      revert h3
      cases (hF f a n).toBitVec.getLsbD i <;> cases (hF f b n).toBitVec.getLsbD i <;> cases (bT n).toBitVec.getLsbD i <;> simp
section MQ
variable {l : Launch} {X : FX} {ii : Nat → Nat → Nat → Int32} {jj : Nat → Nat → Nat → Int64} {kd : Nat → Nat}
theorem m_bits (h : MH) {v : Int32} (hv : sT v) : SK l X 1 137 [vI v] h (some (vI (bC v))) h := by
  obtain ⟨a, ha, rfl⟩ := sT_of hv
  refine SK.of (by decide) (by decide) rfl ?_
  have q := m_bitsL (l := l) (X := X) h (nI a) 12 (nI a) 0 _ (kC_all a ha)
  obtain ⟨ii, jj, rr, n⟩ := h
  refine GB.go 4 rfl aB0 ?_
  exact q
theorem m_great (h : MH) {v : Int32} (hv : sT v) : SK l X 1 147 [vI v] h (some (vI (topB 12 v))) h := by
  obtain ⟨a, ha, rfl⟩ := sT_of hv
  refine SK.of (by decide) (by decide) rfl ?_
  have q := m_greatL (l := l) (X := X) h (nI a) 12 (nI a) _ (gR_all a ha)
  obtain ⟨ii, jj, rr, n⟩ := h
  refine GB.go 2 rfl aB0 ?_
  exact q
/-- what a hat of the model gives -/
def mT (ii : Nat → Nat → Nat → Int32) (c i : Nat) (a : Int32) : Int32 := tkO c (hF (mR ii i) 1 12) (hF (mR ii i) 3 12) a
theorem m_takesOf (i c : Nat) (hi : i < 8) (hc : c < 6) (hk : ii 26 0 (4 + 14 * i) = nI c) (a : Int32) : SK l X 3 148 [vR 25 0, vI (nI i), vI a] (ii, jj, mj_rk kd, 108) (some (vI (mT ii c i a))) (ii, jj, mj_rk kd, 108) := by
  refine SK.of (by decide) (by decide) rfl ?_
  refine GB.go 9999 rfl aB0 ?_
  refine GB.cal rfl rfl (by decide) (m_holds i hi 1) ?_
  refine GB.go 9999 rfl aB0 ?_
  refine GB.cal rfl rfl (by decide) (m_holds i hi 3) ?_
  refine GB.go 9999 rfl aB0 ?_
  refine GB.cal rfl rfl (by decide) (m_kindOf i hi) ?_
  rw [hk]
  refine GB.sw rfl rfl ?_
  have e13 := hF_sub (f := mR ii i) (show (1 : Int32) ≤ 3 by decide) 12
  rcases six hc with rfl | rfl | rfl | rfl | rfl | rfl
  · refine GB.go 9999 rfl aB0 ?_
    exact GB.ret rfl rfl aB0
  · refine GB.go 9999 rfl aB0 ?_
    rw [show mT ii 1 i a = hF (mR ii i) 1 12 &&& hF (mR ii i) 3 12 from rfl, e13]
    exact GB.ret rfl rfl aB0
  · refine GB.go 9999 rfl aB0 ?_
    exact GB.ret rfl rfl aB0
  · refine GB.go 9999 rfl aB0 ?_
    exact GB.ret rfl rfl aB0
  · refine GB.go 9999 rfl aB0 ?_
    rw [show mT ii 4 i a = if hF (mR ii i) 1 12 &&& hF (mR ii i) 3 12 = 0 then 0 else hF (mR ii i) 1 12 &&& hF (mR ii i) 3 12 ||| 1 from rfl, e13]
    refine GB.br rfl rfl (fun e => ?_) (fun e => ?_)
    · rw [if_pos e]
      refine GB.go 9999 rfl aB0 ?_
      exact GB.ret rfl rfl aB0
    · rw [if_neg e]
      refine GB.go 9999 rfl aB0 ?_
      exact GB.ret rfl rfl aB0
  · refine GB.go 9999 rfl aB0 ?_
    refine GB.cal rfl rfl (by decide) (m_great _ (sT_and (sT_hF 12 (by decide)))) ?_
    exact GB.ret rfl rfl aB0
theorem hd_kep {a : Int32} (ha : sT a) : hdO (9 - bC a) 1 9 = if (1 : Int32) < 9 - bC a then 9 - bC a else 1 := by
  obtain ⟨k, hk, rfl⟩ := sT_of ha
  obtain ⟨h1, h2⟩ := bC_le k hk
  generalize bC (nI k) = z at *
  unfold hdO
  have h3 : (9 - z).toInt = 9 - z.toInt := by
    rw [Int32.le_iff_toInt_le] at h1 h2
    rw [Int32.toInt_sub, show (9 : Int32).toInt = 9 by decide, Int.bmod_eq_of_le (by change 0 ≤ z.toInt at h1; change z.toInt ≤ 12 at h2; omega) (by change 0 ≤ z.toInt at h1; change z.toInt ≤ 12 at h2; omega)]
  rw [Int32.le_iff_toInt_le] at h1 h2
  change 0 ≤ z.toInt at h1
  change z.toInt ≤ 12 at h2
  by_cases c1 : 9 - z < 1
  · rw [if_pos c1, if_neg (fun c2 => by
      rw [Int32.lt_iff_toInt_lt, h3] at c1 c2
      change 9 - z.toInt < 1 at c1
      change 1 < 9 - z.toInt at c2
      omega)]
  · rw [if_neg c1, if_neg (fun c2 => by
      rw [Int32.lt_iff_toInt_lt, h3] at c2
      change 9 < 9 - z.toInt at c2
      omega)]
    by_cases c3 : 1 < 9 - z
    · rw [if_pos c3]
    · rw [if_neg c3]
      exact Int32.toInt_inj.mp (by
        rw [Int32.lt_iff_toInt_lt, h3] at c1 c3
        change ¬ (9 - z.toInt < 1) at c1
        change ¬ (1 < 9 - z.toInt) at c3
        rw [h3]
        show _ = (1 : Int)
        omega)
theorem m_keepsOf (i c : Nat) (hi : i < 8) (hc : c < 6) (hk : ii 26 0 (4 + 14 * i) = nI c) {a : Int32} (ha : sT a) : SK l X 2 149 [vR 25 0, vI (nI i), vI a] (ii, jj, mj_rk kd, 108) (some (vI (kpO c a))) (ii, jj, mj_rk kd, 108) := by
  refine SK.of (by decide) (by decide) rfl ?_
  refine GB.go 9999 rfl aB0 ?_
  refine GB.cal rfl rfl (by decide) (m_kindOf i hi) ?_
  rw [hk]
  refine GB.sw rfl rfl ?_
  rcases six hc with rfl | rfl | rfl | rfl | rfl | rfl
  · refine GB.go 9999 rfl aB0 ?_
    exact GB.ret rfl rfl aB0
  · refine GB.go 9999 rfl aB0 ?_
    exact GB.ret rfl rfl aB0
  · refine GB.go 9999 rfl aB0 ?_
    exact GB.ret rfl rfl aB0
  · refine GB.go 9999 rfl aB0 ?_
    refine GB.cal rfl rfl (by decide) (m_bits _ ha) ?_
    refine GB.go 9999 rfl aB0 ?_
    refine GB.cal rfl rfl (by decide) (m_held _ _ _ _) ?_
    rw [hd_kep ha]
    exact GB.ret rfl rfl aB0
  · refine GB.go 9999 rfl aB0 ?_
    exact GB.ret rfl rfl aB0
  · refine GB.go 9999 rfl aB0 ?_
    exact GB.ret rfl rfl aB0
theorem m_fadesOf (i c : Nat) (hi : i < 8) (hc : c < 6) (hk : ii 26 0 (4 + 14 * i) = nI c) : SK l X 2 150 [vR 25 0, vI (nI i)] (ii, jj, mj_rk kd, 108) (some (vI (fdO c (ii 26 0 0)))) (ii, jj, mj_rk kd, 108) := by
  refine SK.of (by decide) (by decide) rfl ?_
  refine GB.go 9999 rfl (aB1 (by decide) aB0) ?_
  rw [show ii 26 0 (Int32.toNatClampNeg 0) = ii 26 0 0 from rfl]
  refine GB.cal rfl rfl (by decide) (m_kindOf i hi) ?_
  rw [hk]
  refine GB.sw rfl rfl ?_
  rcases six hc with rfl | rfl | rfl | rfl | rfl | rfl
  · refine GB.go 9999 rfl aB0 ?_
    exact GB.ret rfl rfl aB0
  · refine GB.go 9999 rfl (aB1 (by decide) aB0) ?_
    exact GB.ret rfl rfl aB0
  · refine GB.go 9999 rfl aB0 ?_
    exact GB.ret rfl rfl aB0
  · refine GB.go 9999 rfl aB0 ?_
    exact GB.ret rfl rfl aB0
  · refine GB.go 9999 rfl (aB1 (by decide) (aB1 (by decide) aB0)) ?_
    refine GB.br rfl rfl (fun e => ?_) (fun e => ?_)
    · rw [show fdO 4 (ii 26 0 0) = iR (ii 26 0 0) 2 + (if iR (ii 26 0 0) 3 = 0 then 1 else 0) from rfl, if_pos (show iR (ii 26 0 0) 3 = 0 from e)]
      refine GB.go 9999 rfl aB0 ?_
      exact GB.ret rfl rfl aB0
    · rw [show fdO 4 (ii 26 0 0) = iR (ii 26 0 0) 2 + (if iR (ii 26 0 0) 3 = 0 then 1 else 0) from rfl, if_neg (show ¬ iR (ii 26 0 0) 3 = 0 from e)]
      refine GB.go 9999 rfl aB0 ?_
      exact GB.ret rfl rfl aB0
  · refine GB.go 9999 rfl aB0 ?_
    exact GB.ret rfl rfl aB0
end MQ
