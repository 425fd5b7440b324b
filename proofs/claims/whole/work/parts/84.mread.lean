/-! THE TEXT: the model reads a token -/
section MT
variable {l : Launch} {X : FX} {ii : Nat → Nat → Nat → Int32} {jj : Nat → Nat → Nat → Int64} {kd : Nat → Nat} {z : Nat} {β : Nat → Nat} {t0 s0 e0 v0 w0 : Int32}
theorem tk1_iff {p : Nat} : tkc z β p = 1 ↔ p < z ∧ 97 ≤ β p ∧ β p ≤ 122 := by
  refine ⟨tkc_1, fun h => ?_⟩
  unfold tkc
  rw [if_neg (by omega), show isL (β p) = true from decide_eq_true h.2]
  rfl
theorem tk2_iff {p : Nat} : tkc z β p = 2 ↔ p < z ∧ 48 ≤ β p ∧ β p ≤ 57 := by
  refine ⟨tkc_2, fun h => ?_⟩
  unfold tkc
  rw [if_neg (by omega), show isL (β p) = false from decide_eq_false (by omega), show isD (β p) = true from decide_eq_true h.2]
  rfl
theorem tk3_iff {p : Nat} : tkc z β p = 3 ↔ p < z ∧ 59 ≤ β p ∧ β p ≤ 59 := by
  constructor
  · intro h
    have hp := tkc_lt (z := z) (β := β) (p := p) (by rw [h]; decide)
    unfold tkc at h
    rw [if_neg (by omega)] at h
    cases e : isL (β p) with
    | true => rw [e] at h; cases h
    | false =>
      cases e2 : isD (β p) with
      | true => rw [e, e2] at h; cases h
      | false =>
        rw [e, e2, cond_false, cond_false] at h
        split at h
        · next q => omega
        · cases h
  · intro h
    unfold tkc
    rw [if_neg (by omega), show isL (β p) = false from decide_eq_false (by omega), show isD (β p) = false from decide_eq_false (by omega)]
    exact if_pos (by omega)
theorem m_readA (T : TM ii z β) : ∀ f p, z ≤ p + f → p ≤ z → {r : Option MV} → {h' : MH} → (GB l X 4 0 0 196 (28, [some (vR 25 0)], [], (mF ii t0 s0 (nI (skF z β f p)) v0 w0, jj, mj_rk kd, 108)) r h') → GB l X 4 0 0 196 (0, [some (vR 25 0)], [], (mF ii t0 s0 (nI p) v0 w0, jj, mj_rk kd, 108)) r h'
  | 0, p, h1, h2, r, h', k => by
    refine GB.go 5 rfl aB0 ?_
    rw [mF_9]
    refine GB.go 9999 rfl aB0 ?_
    refine GB.cal rfl rfl (by decide) (m_isByte T p 32 32 h2 (by decide) (by decide)) ?_
    refine GB.br rfl rfl (fun c => ?_) (fun c => ?_)
    · exact k
    · exact absurd (bd_t c) (by omega)
  | f + 1, p, h1, h2, r, h', k => by
    unfold skF at k
    refine GB.go 5 rfl aB0 ?_
    rw [mF_9]
    refine GB.go 9999 rfl aB0 ?_
    refine GB.cal rfl rfl (by decide) (m_isByte T p 32 32 h2 (by decide) (by decide)) ?_
    refine GB.br rfl rfl (fun c => ?_) (fun c => ?_)
    · have q := bd_f c
      rw [if_neg (by omega)] at k
      exact k
    · have q := bd_t c
      rw [if_pos (by omega)] at k
      refine GB.go 20 rfl aB0 ?_
      rw [mF_9]
      refine GB.go 22 rfl aB0 ?_
      rw [nI_1]
      refine GB.go 25 rfl aB0 ?_
      rw [mF_u9]
      refine GB.go 0 rfl aB0 ?_
      exact m_readA T f (p + 1) (by omega) (by omega) k
theorem m_readB (T : TM ii z β) : ∀ f p, z ≤ p + f → p ≤ z → {r : Option MV} → {h' : MH} → (GB l X 4 0 0 196 (104, [some (vR 25 0)], [], (mF ii t0 s0 (nI (rnF z β 1 f p)) v0 w0, jj, mj_rk kd, 108)) r h') → GB l X 4 0 0 196 (76, [some (vR 25 0)], [], (mF ii t0 s0 (nI p) v0 w0, jj, mj_rk kd, 108)) r h'
  | 0, p, h1, h2, r, h', k => by
    refine GB.go 81 rfl aB0 ?_
    rw [mF_9]
    refine GB.go 9999 rfl aB0 ?_
    refine GB.cal rfl rfl (by decide) (m_isByte T p 97 122 h2 (by decide) (by decide)) ?_
    refine GB.br rfl rfl (fun c => ?_) (fun c => ?_)
    · exact k
    · exact absurd (bd_t c) (by omega)
  | f + 1, p, h1, h2, r, h', k => by
    unfold rnF at k
    refine GB.go 81 rfl aB0 ?_
    rw [mF_9]
    refine GB.go 9999 rfl aB0 ?_
    refine GB.cal rfl rfl (by decide) (m_isByte T p 97 122 h2 (by decide) (by decide)) ?_
    refine GB.br rfl rfl (fun c => ?_) (fun c => ?_)
    · rw [if_neg (fun q => bd_f c (tk1_iff.mp q))] at k
      exact k
    · have q := bd_t c
      rw [if_pos (tk1_iff.mpr q)] at k
      refine GB.go 96 rfl aB0 ?_
      rw [mF_9]
      refine GB.go 98 rfl aB0 ?_
      rw [nI_1]
      refine GB.go 101 rfl aB0 ?_
      rw [mF_u9]
      refine GB.go 76 rfl aB0 ?_
      exact m_readB T f (p + 1) (by omega) (by omega) k
theorem m_readC (T : TM ii z β) (s : Nat) : ∀ f j, z ≤ s + j + f → s + j ≤ z → (∀ i, i < j → 48 ≤ β (s + i) ∧ β (s + i) ≤ 57) → {r : Option MV} → {h' : MH} → (GB l X 4 0 0 196 (199, [some (vR 25 0)], [], (mF ii t0 s0 (nI (rnF z β 2 f (s + j))) (nI (vlM β s (rnF z β 2 f (s + j) - s))) w0, jj, mj_rk kd, 108)) r h') → GB l X 4 0 0 196 (130, [some (vR 25 0)], [], (mF ii t0 s0 (nI (s + j)) (nI (vlM β s j)) w0, jj, mj_rk kd, 108)) r h'
  | 0, j, h1, h2, hd, r, h', k => by
    rw [show rnF z β 2 0 (s + j) = s + j from rfl, show s + j - s = j by omega] at k
    refine GB.go 135 rfl aB0 ?_
    rw [mF_9]
    refine GB.go 9999 rfl aB0 ?_
    refine GB.cal rfl rfl (by decide) (m_isByte T (s + j) 48 57 h2 (by decide) (by decide)) ?_
    refine GB.br rfl rfl (fun c => ?_) (fun c => ?_)
    · exact k
    · exact absurd (bd_t c) (by omega)
  | f + 1, j, h1, h2, hd, r, h', k => by
    have z120 := T.2.1
    have vb := vl_b (β := β) (s := s) j (fun i hi => (hd i hi).2)
    unfold rnF at k
    refine GB.go 135 rfl aB0 ?_
    rw [mF_9]
    refine GB.go 9999 rfl aB0 ?_
    refine GB.cal rfl rfl (by decide) (m_isByte T (s + j) 48 57 h2 (by decide) (by decide)) ?_
    refine GB.br rfl rfl (fun c => ?_) (fun c => ?_)
    · rw [if_neg (fun q => bd_f c (tk2_iff.mp q)), show s + j - s = j by omega] at k
      exact k
    · have q := bd_t c
      obtain ⟨b1, b2⟩ := T.2.2 (s + j) q.1
      rw [if_pos (tk2_iff.mpr q)] at k
      have tl : GB l X 4 0 0 196 (183, [some (vR 25 0)], [vI (nI (vlM β s (j + 1))), vR 25 0], (mF ii t0 s0 (nI (s + j)) (nI (vlM β s j)) w0, jj, mj_rk kd, 108)) r h' := by
        refine GB.go 186 rfl aB0 ?_
        rw [mF_u10]
        refine GB.go 191 rfl aB0 ?_
        rw [mF_9]
        refine GB.go 193 rfl aB0 ?_
        rw [nI_1]
        refine GB.go 196 rfl aB0 ?_
        rw [mF_u9]
        refine GB.go 130 rfl aB0 ?_
        exact m_readC T s f (j + 1) (by omega) (by omega) (fun i hi => by
          by_cases e : i = j
          · rw [e]
            omega
          · exact hd i (by omega)) k
      refine GB.go 150 rfl aB0 ?_
      rw [mF_10]
      refine GB.go 9999 rfl aB0 ?_
      refine GB.br rfl rfl (fun c2 => ?_) (fun c2 => ?_)
      · have c2' : vlM β s j ≤ 9999 := (nI_leI (b := 9999) (by omega) (by decide)).mp c2
        rw [show vlM β s (j + 1) = 10 * vlM β s j + β (s + j) - 48 from if_neg (by omega)] at tl
        refine GB.go 169 rfl aB0 ?_
        rw [mF_10]
        refine GB.go 178 rfl aB0 ?_
        rw [mF_9]
        refine GB.go 179 rfl (aB1 (mn_vin (show s + j < 120 by omega) (by decide)) aB0) ?_
        rw [nI_clamp (show s + j < 2 ^ 31 by omega)]
        rw [mF_tag (by decide), b1]
        refine GB.go 183 rfl aB0 ?_
        rw [show (10 : Int32) * nI (vlM β s j) = nI (10 * vlM β s j) from nI_mul 10 _, nI_add, show nI (10 * vlM β s j + β (s + j)) - 48 = nI (10 * vlM β s j + β (s + j) - 48) from pk_sub (b := 48) (by omega)]
        exact tl
      · have c2' : 9999 < vlM β s j := Nat.lt_of_not_le (fun y => c2 (nI_le (b := 9999) y (by decide)))
        rw [show vlM β s (j + 1) = vlM β s j from if_pos c2'] at tl
        refine GB.go 160 rfl aB0 ?_
        rw [mF_10]
        refine GB.go 183 rfl aB0 ?_
        exact tl
theorem m_reads (T : TM ii z β) (p : Nat) (hp : p ≤ z) : SK l X 4 196 [vR 25 0] (mF ii t0 s0 (nI p) v0 w0, jj, mj_rk kd, 108) none (mF ii (nI (mtk z β (skp z β p))) (nI (skp z β p)) (nI (tke z β (skp z β p))) (nI (mvl z β (skp z β p))) w0, jj, mj_rk kd, 108) := by
  have z120 := T.2.1
  have hs : skp z β p ≤ z := skF_le z p hp
  refine SK.of (by decide) (by decide) rfl ?_
  refine m_readA T z p (by omega) hp ?_
  rw [show skF z β z p = skp z β p from rfl]
  generalize skp z β p = s at *
  have h5 := tkc_lt5 (z := z) (β := β) (s := s)
  refine GB.go 33 rfl aB0 ?_
  rw [mF_9]
  refine GB.go 36 rfl aB0 ?_
  rw [mF_u8]
  refine GB.go 41 rfl aB0 ?_
  rw [mF_u10]
  refine GB.go 9999 rfl aB0 ?_
  rw [mF_9, mF_lo (by decide), T.1]
  refine GB.br rfl rfl (fun c => ?_) (fun c => ?_)
  · have e : s = z := (nI_eq (by omega) (by omega)).mp c
    have e4 : tkc z β s = 4 := if_pos (by omega)
    rw [show tke z β s = s from if_pos e4, show mtk z β s = 22 from (mt_c (by omega)).mpr e4, show mvl z β s = 0 from if_neg (by omega)]
    refine GB.go 58 rfl aB0 ?_
    rw [mF_u7]
    refine GB.go 9999 rfl aB0 ?_
    exact GB.ret rfl rfl aB0
  · have hlt : s < z := by
      have : s ≠ z := fun q => c (by rw [q])
      omega
    refine GB.go 66 rfl aB0 ?_
    rw [mF_9]
    refine GB.go 9999 rfl aB0 ?_
    refine GB.cal rfl rfl (by decide) (m_isByte T s 97 122 hs (by decide) (by decide)) ?_
    refine GB.br rfl rfl (fun c1 => ?_) (fun c1 => ?_)
    · have n1 : ¬ tkc z β s = 1 := fun q => bd_f c1 (tk1_iff.mp q)
      refine GB.go 120 rfl aB0 ?_
      rw [mF_9]
      refine GB.go 9999 rfl aB0 ?_
      refine GB.cal rfl rfl (by decide) (m_isByte T s 48 57 hs (by decide) (by decide)) ?_
      refine GB.br rfl rfl (fun c2 => ?_) (fun c2 => ?_)
      · have n2 : ¬ tkc z β s = 2 := fun q => bd_f c2 (tk2_iff.mp q)
        have n4 : ¬ tkc z β s = 4 := fun q => by
          unfold tkc at q
          rw [if_neg (by omega)] at q
          cases h1 : isL (β s) <;> cases h2 : isD (β s) <;> rw [h1, h2] at q <;> simp only [cond_true, cond_false] at q <;> try omega
          split at q <;> omega
        rw [show tke z β s = s + 1 from (if_neg n4).trans (if_neg (by omega)), show mvl z β s = 0 from if_neg n2]
        refine GB.go 214 rfl aB0 ?_
        rw [mF_9]
        refine GB.go 9999 rfl aB0 ?_
        refine GB.cal rfl rfl (by decide) (m_isByte T s 59 59 hs (by decide) (by decide)) ?_
        refine GB.br rfl rfl (fun c3 => ?_) (fun c3 => ?_)
        · have n3 : ¬ tkc z β s = 3 := fun q => bd_f c3 (tk3_iff.mp q)
          have e0 : tkc z β s = 0 := by omega
          rw [show mtk z β s = 23 by unfold mtk; rw [e0]; rfl]
          refine GB.go 234 rfl aB0 ?_
          rw [mF_u7]
          refine GB.go 239 rfl aB0 ?_
          rw [mF_9]
          refine GB.go 241 rfl aB0 ?_
          rw [nI_1]
          refine GB.go 244 rfl aB0 ?_
          rw [mF_u9]
          exact GB.ret rfl rfl aB0
        · have e3 : tkc z β s = 3 := tk3_iff.mpr (bd_t c3)
          rw [show mtk z β s = 21 from (mt_c (by omega)).mpr e3]
          refine GB.go 234 rfl aB0 ?_
          rw [mF_u7]
          refine GB.go 239 rfl aB0 ?_
          rw [mF_9]
          refine GB.go 241 rfl aB0 ?_
          rw [nI_1]
          refine GB.go 244 rfl aB0 ?_
          rw [mF_u9]
          exact GB.ret rfl rfl aB0
      · have e2 : tkc z β s = 2 := tk2_iff.mpr (bd_t c2)
        have et : tke z β s = rnF z β 2 (z + 1) s := by
          rw [show tke z β s = rnF z β (tkc z β s) z (s + 1) from (if_neg (by omega)).trans (if_pos (Or.inr e2)), e2]
          exact (if_pos e2).symm
        rw [show mtk z β s = 20 from (mt_c (by omega)).mpr e2, show mvl z β s = vlM β s (tke z β s - s) from if_pos e2, et]
        refine m_readC T s (z + 1) 0 (by omega) (by omega) (fun i hi => absurd hi (Nat.not_lt_zero _)) ?_
        rw [show s + 0 = s from rfl]
        refine GB.go 205 rfl aB0 ?_
        rw [mF_u7]
        refine GB.go 9999 rfl aB0 ?_
        exact GB.ret rfl rfl aB0
    · have e1 : tkc z β s = 1 := tk1_iff.mpr (bd_t c1)
      have et : tke z β s = rnF z β 1 (z + 1) s := by
        rw [show tke z β s = rnF z β (tkc z β s) z (s + 1) from (if_neg (by omega)).trans (if_pos (Or.inl e1)), e1]
        exact (if_pos e1).symm
      have hgt := tke_gt (z := z) (β := β) (s := s) (by omega)
      have hle := tke_le (β := β) hs
      refine m_readB T (z + 1) s (by omega) hs ?_
      rw [← et]
      refine GB.go 9999 rfl aB0 ?_
      refine GB.cal rfl rfl (by decide) (m_word T s (tke z β s) hle (by omega) (fun j j1 j2 => (tkc_1 ((tke_all (Or.inl e1) j1 j2).trans e1)).2)) ?_
      refine GB.go 112 rfl aB0 ?_
      rw [mF_u7, show mtk z β s = wdX β s (tke z β s) by unfold mtk; rw [e1]; rfl, show mvl z β s = 0 from if_neg (by omega)]
      refine GB.go 9999 rfl aB0 ?_
      exact GB.ret rfl rfl aB0
end MT
