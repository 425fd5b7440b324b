/-! THE TEXT: the class's words and numbers -/
theorem sb_ok : ∀ k, k < 13 → ∀ j, j < 7 → j < mj_slen k → ((mj_sbyt k j &&& 255).toUInt32 % 65536).toInt32 = mj_sbyt k j ∧ decide (((mj_sbyt k j).toUInt32 % 65536).toInt32 = mj_sbyt k j) = true := by decide +kernel
section CT
variable {l : Launch} {X : FX} {ii : Nat → Nat → Nat → Int32} {jj : Nat → Nat → Nat → Int64} {kd : Nat → Nat} {z : Nat} {β : Nat → Nat} {t0 s0 e0 : Int32}
theorem k_coder (h : MH) (k : Nat) : SK l X 1 224 [vR 3 k] h (some (vI 0)) h := by
  refine SK.of (by decide) (by decide) rfl ?_
  obtain ⟨ii, jj, rr, n⟩ := h
  refine GB.go 9999 rfl aB0 ?_
  refine GB.br rfl rfl (fun c => ?_) (fun c => ?_)
  · exact absurd c (by decide)
  · refine GB.go 9999 rfl aB0 ?_
    exact GB.ret rfl rfl (aB1 (by decide) aB0)
theorem k_latin (h : MH) (k : Nat) : SK l X 1 225 [vR 3 k] h (some (vI 1)) h := by
  refine SK.of (by decide) (by decide) rfl ?_
  obtain ⟨ii, jj, rr, n⟩ := h
  refine GB.go 9999 rfl aB0 ?_
  refine GB.br rfl rfl (fun c => ?_) (fun c => ?_)
  · exact absurd c (by decide)
  · refine GB.go 9999 rfl aB0 ?_
    refine GB.br rfl rfl (fun c2 => ?_) (fun c2 => ?_)
    · refine GB.go 9999 rfl aB0 ?_
      exact GB.ret rfl rfl (aB1 (by decide) aB0)
    · exact absurd rfl c2
theorem k_length (h : MH) (k : Nat) (hk : k < 13) : SK l X 2 222 [vR 3 k] h (some (vI (nI (mj_slen k)))) h := by
  refine SK.of (by decide) (by decide) rfl ?_
  obtain ⟨ii, jj, rr, n⟩ := h
  refine GB.go 9999 rfl aB0 ?_
  refine GB.cal rfl rfl (by decide) (k_coder _ k) ?_
  refine GB.go 9999 rfl aB0 ?_
  rw [show nI (mj_slen k) >>> ((0 : Int32) &&& 31) = nI (mj_slen k) by
    have : ∀ k, k < 13 → nI (mj_slen k) >>> ((0 : Int32) &&& 31) = nI (mj_slen k) := by decide +kernel
    exact this k hk]
  exact GB.ret rfl rfl aB0
theorem k_prec (h : MH) (a b : Int32) (t i : Nat) (h1 : ¬ a < 0) (h2 : a < b) : SK l X 1 230 [vI a, vI b, vR t i] h (some (vI a)) h := by
  refine SK.of (by decide) (by decide) rfl ?_
  obtain ⟨ii, jj, rr, n⟩ := h
  refine GB.go 9999 rfl aB0 ?_
  refine GB.br rfl rfl (fun c => ?_) (fun c => ?_)
  · exact absurd c h1
  · refine GB.go 9999 rfl aB0 ?_
    refine GB.br rfl rfl (fun c2 => ?_) (fun c2 => ?_)
    · refine GB.go 9999 rfl aB0 ?_
      exact GB.ret rfl rfl aB0
    · exact absurd h2 c2
theorem k_check (h : MH) (a b : Int32) (h1 : ¬ a < 0) (h2 : a < b) : SK l X 2 226 [vI a, vI b] h none h := by
  refine SK.of (by decide) (by decide) rfl ?_
  obtain ⟨ii, jj, rr, n⟩ := h
  refine GB.go 9999 rfl aB0 ?_
  refine GB.cal rfl rfl (by decide) (k_prec _ a b 34 0 h1 h2) ?_
  refine GB.go 9999 rfl aB0 ?_
  exact GB.ret rfl rfl aB0
theorem k_latCh (h : MH) (k j : Nat) (hk : k < 13) (hj : j < mj_slen k) : SK l X 3 227 [vR 4 k, vI (nI j)] h (some (vI (mj_sbyt k j))) h := by
  have h7 := (nm_7 k hk).2
  obtain ⟨e1, e2⟩ := sb_ok k hk j (by omega) hj
  refine SK.of (by decide) (by decide) rfl ?_
  obtain ⟨ii, jj, rr, n⟩ := h
  refine GB.go 9999 rfl aB0 ?_
  refine GB.cal rfl rfl (by decide) (k_check _ _ _ (nI_pos (by omega)) (nI_lt hj (by omega))) ?_
  refine GB.go 9 rfl (aB1 (mn_vin hj (by omega)) aB0) ?_
  rw [nI_clamp (show j < 2 ^ 31 by omega)]
  refine GB.go 9999 rfl aB0 ?_
  rw [e1]
  exact GB.ret rfl rfl (aB1 (e2) aB0)
theorem k_charAt (h : MH) (k j : Nat) (hk : k < 13) (hj : j < mj_slen k) : SK l X 4 223 [vR 3 k, vI (nI j)] h (some (vI (mj_sbyt k j))) h := by
  have h7 := (nm_7 k hk).2
  obtain ⟨e1, e2⟩ := sb_ok k hk j (by omega) hj
  refine SK.of (by decide) (by decide) rfl ?_
  obtain ⟨ii, jj, rr, n⟩ := h
  refine GB.go 9999 rfl aB0 ?_
  refine GB.cal rfl rfl (by decide) (k_latin _ k) ?_
  refine GB.br rfl rfl (fun c => ?_) (fun c => ?_)
  · exact absurd c (by decide)
  · refine GB.go 9999 rfl aB0 ?_
    refine GB.cal rfl rfl (by decide) (k_latCh _ k j hk hj) ?_
    exact GB.ret rfl rfl (aB1 (e2) aB0)
theorem k_isWordL (T : TF ii z β) (k s e : Nat) (hk : k < 13) (he : s + mj_slen k ≤ z) : ∀ n j, j + n = mj_slen k → GB l X 5 0 0 69 (28, [some (vR 7 0), some (vR 3 k), some (vI (nI j))], [], (cF ii t0 (nI s) e0, jj, mj_rk kd, 108)) (some (vI (bI (alE β k s n j)))) (cF ii t0 (nI s) e0, jj, mj_rk kd, 108)
  | 0, j, h => by
    have z120 := T.2.1
    refine GB.go 9999 rfl aB0 ?_
    refine GB.cal rfl rfl (by decide) (k_length _ k hk) ?_
    refine GB.br rfl rfl (fun c => ?_) (fun c => ?_)
    · refine GB.go 9999 rfl aB0 ?_
      exact GB.ret rfl rfl (aB1 (by decide) aB0)
    · exact absurd (nI_le (show mj_slen k ≤ j by omega) (by omega)) c
  | n + 1, j, h => by
    have z120 := T.2.1
    obtain ⟨b1, b2⟩ := T.2.2 (s + j) (by omega)
    unfold alE
    refine GB.go 9999 rfl aB0 ?_
    refine GB.cal rfl rfl (by decide) (k_length _ k hk) ?_
    refine GB.br rfl rfl (fun c => ?_) (fun c => ?_)
    · exact absurd c (nI_ge (show j < mj_slen k by omega) (by omega))
    · refine GB.go 44 rfl aB0 ?_
      rw [cF_3]
      refine GB.go 46 rfl aB0 ?_
      rw [nI_add]
      refine GB.go 47 rfl (aB1 (mn_vin (show s + j < 120 by omega) (by decide)) aB0) ?_
      rw [nI_clamp (show s + j < 2 ^ 31 by omega)]
      rw [cF_tag (by decide), b1]
      refine GB.go 9999 rfl aB0 ?_
      refine GB.cal rfl rfl (by decide) (k_charAt _ k j hk (by omega)) ?_
      refine GB.br rfl rfl (fun c2 => ?_) (fun c2 => ?_)
      · rw [if_pos c2]
        have ih := k_isWordL T k s e hk he n (j + 1) (by omega)
        rw [nI_succ j] at ih
        refine GB.go 28 rfl aB0 ?_
        exact ih
      · rw [if_neg c2]
        refine GB.go 9999 rfl aB0 ?_
        exact GB.ret rfl rfl (aB1 (by decide) aB0)
theorem k_isWord (T : TF ii z β) (k s : Nat) (hk : k < 13) (hs : s ≤ z) : SK l X 5 69 [vR 7 0, vR 3 k] (cF ii (nI (tkc z β s)) (nI s) (nI (tke z β s)), jj, mj_rk kd, 108) (some (vI (bI (decide (mtk z β s = k))))) (cF ii (nI (tkc z β s)) (nI s) (nI (tke z β s)), jj, mj_rk kd, 108) := by
  have z120 := T.2.1
  have h5 := tkc_lt5 (z := z) (β := β) (s := s)
  have hle := tke_le (β := β) hs
  have h7 := nm_7 k hk
  have no : ¬ mtk z β s = k → GB l X 5 0 0 69 (24, [some (vR 7 0), some (vR 3 k), none], [], (cF ii (nI (tkc z β s)) (nI s) (nI (tke z β s)), jj, mj_rk kd, 108)) (some (vI (bI (decide (mtk z β s = k))))) (cF ii (nI (tkc z β s)) (nI s) (nI (tke z β s)), jj, mj_rk kd, 108) := fun h => by
    rw [bI_0 h]
    refine GB.go 9999 rfl aB0 ?_
    exact GB.ret rfl rfl (aB1 (by decide) aB0)
  refine SK.of (by decide) (by decide) rfl ?_
  refine GB.go 9999 rfl aB0 ?_
  rw [cF_2]
  refine GB.br rfl rfl (fun c => ?_) (fun c => ?_)
  · have e1 : tkc z β s = 1 := (nI_eq (b := 1) (by omega) (by decide)).mp c
    have hgt := tke_gt (z := z) (β := β) (s := s) (by rw [e1]; decide)
    refine GB.go 12 rfl aB0 ?_
    rw [cF_4]
    refine GB.go 16 rfl aB0 ?_
    rw [cF_3]
    refine GB.go 17 rfl aB0 ?_
    rw [pk_sub (show s ≤ tke z β s by omega)]
    refine GB.go 9999 rfl aB0 ?_
    refine GB.cal rfl rfl (by decide) (k_length _ k hk) ?_
    refine GB.br rfl rfl (fun c2 => ?_) (fun c2 => ?_)
    · have e2 : tke z β s - s = mj_slen k := (nI_eq (by omega) (by omega)).mp c2
      rw [show decide (mtk z β s = k) = alE β k s (mj_slen k) 0 by
        rw [show decide (mtk z β s = k) = decide (tkc z β s = 1 ∧ nmE β s (tke z β s) k = true) from decide_eq_decide.mpr (mt_wd hk)]
        unfold nmE
        rw [decide_eq_true e2, Bool.true_and]
        cases alE β k s (mj_slen k) 0
        · exact decide_eq_false (fun q => absurd q.2 (by decide))
        · exact decide_eq_true ⟨e1, rfl⟩]
      refine GB.go 28 rfl aB0 ?_
      exact k_isWordL T k s (tke z β s) hk (by omega) _ 0 (by omega)
    · refine no (fun q => c2 ?_)
      have q2 := ((mt_wd hk).mp q).2
      unfold nmE at q2
      rw [Bool.and_eq_true] at q2
      rw [of_decide_eq_true q2.1]
  · exact no (fun q => c (by rw [((mt_wd hk).mp q).1]; rfl))
theorem k_numL (T : TF ii z β) (s e : Nat) (he : e ≤ z) (hd : ∀ j, s ≤ j → j < e → 48 ≤ β j ∧ β j ≤ 57) : ∀ n j, s + j + n = e → GB l X 1 0 0 71 (7, [some (vR 7 0), some (vI (nI (vlC β s j))), some (vI (nI (s + j)))], [], (cF ii t0 s0 (nI e), jj, mj_rk kd, 108)) (some (vI (nI (vlC β s (j + n))))) (cF ii t0 s0 (nI e), jj, mj_rk kd, 108)
  | 0, j, h => by
    have z120 := T.2.1
    refine GB.go 9999 rfl aB0 ?_
    rw [cF_4]
    refine GB.br rfl rfl (fun c => ?_) (fun c => ?_)
    · refine GB.go 9999 rfl aB0 ?_
      exact GB.ret rfl rfl aB0
    · exact absurd (nI_le (show e ≤ s + j by omega) (by omega)) c
  | n + 1, j, h => by
    have z120 := T.2.1
    obtain ⟨b1, b2⟩ := T.2.2 (s + j) (by omega)
    obtain ⟨d1, d2⟩ := hd (s + j) (by omega) (by omega)
    have ih := k_numL T s e he hd n (j + 1) (by omega)
    have v1 : vlC β s j ≤ 10000 := by
      cases j with
      | zero => exact Nat.zero_le _
      | succ j => exact Nat.min_le_left _ _
    rw [show s + (j + 1) = (s + j) + 1 by omega, nI_succ (s + j), show j + 1 + n = j + (n + 1) by omega] at ih
    refine GB.go 9999 rfl aB0 ?_
    rw [cF_4]
    refine GB.br rfl rfl (fun c => ?_) (fun c => ?_)
    · exact absurd c (nI_ge (show s + j < e by omega) (by omega))
    · refine GB.go 28 rfl (aB1 (mn_vin (show s + j < 120 by omega) (by decide)) aB0) ?_
      rw [nI_clamp (show s + j < 2 ^ 31 by omega)]
      rw [cF_tag (by decide), b1]
      refine GB.go 32 rfl aB0 ?_
      rw [show (10 : Int32) * nI (vlC β s j) = nI (10 * vlC β s j) from nI_mul 10 _, nI_add, show nI (10 * vlC β s j + β (s + j)) - 48 = nI (10 * vlC β s j + β (s + j) - 48) from pk_sub (b := 48) (by omega)]
      refine GB.go 35 rfl aB0 ?_
      rw [show (if nI (10 * vlC β s j + β (s + j) - 48) < 10000 then nI (10 * vlC β s j + β (s + j) - 48) else 10000) = nI (vlC β s (j + 1)) by
        rw [show vlC β s (j + 1) = min 10000 (10 * vlC β s j + β (s + j) - 48) from rfl]
        by_cases q : 10 * vlC β s j + β (s + j) - 48 < 10000
        · rw [if_pos (show nI (10 * vlC β s j + β (s + j) - 48) < 10000 from nI_lt (b := 10000) q (by decide)), Nat.min_eq_right (by omega)]
        · rw [if_neg (show ¬ nI (10 * vlC β s j + β (s + j) - 48) < 10000 from nI_nlt (b := 10000) (by omega) (by omega)), Nat.min_eq_left (by omega)]
          rfl]
      refine GB.go 7 rfl aB0 ?_
      exact ih
theorem k_num (T : TF ii z β) (s : Nat) (hs : s ≤ z) (h2 : tkc z β s = 2) : SK l X 1 71 [vR 7 0] (cF ii t0 (nI s) (nI (tke z β s)), jj, mj_rk kd, 108) (some (vI (nI (min 10000 (mvl z β s))))) (cF ii t0 (nI s) (nI (tke z β s)), jj, mj_rk kd, 108) := by
  have hle := tke_le (β := β) hs
  have hgt := tke_gt (z := z) (β := β) (s := s) (by rw [h2]; decide)
  have hd : ∀ j, s ≤ j → j < tke z β s → 48 ≤ β j ∧ β j ≤ 57 := fun j j1 j2 => (tkc_2 ((tke_all (Or.inr h2) j1 j2).trans h2)).2
  have L := k_numL (l := l) (X := X) (jj := jj) (kd := kd) (t0 := t0) (s0 := nI s) T s (tke z β s) hle hd (tke z β s - s) 0 (by omega)
  rw [vl_cm (0 + (tke z β s - s)) (fun i hi => hd _ (by omega) (by omega)), Nat.zero_add, show vlM β s (tke z β s - s) = mvl z β s from (if_pos h2).symm] at L
  refine SK.of (by decide) (by decide) rfl ?_
  refine GB.go 6 rfl aB0 ?_
  rw [cF_3]
  refine GB.go 7 rfl aB0 ?_
  exact L
theorem k_numUp (T : TF ii z β) (s m : Nat) (hs : s ≤ z) (hm : m ≤ 9999) : SK l X 2 70 [vR 7 0, vI (nI m)] (cF ii (nI (tkc z β s)) (nI s) (nI (tke z β s)), jj, mj_rk kd, 108) (some (vI (bI (decide (mtk z β s = 20 ∧ mvl z β s ≤ m))))) (cF ii (nI (tkc z β s)) (nI s) (nI (tke z β s)), jj, mj_rk kd, 108) := by
  have h5 := tkc_lt5 (z := z) (β := β) (s := s)
  refine SK.of (by decide) (by decide) rfl ?_
  refine GB.go 9999 rfl aB0 ?_
  rw [cF_2]
  refine GB.br rfl rfl (fun c => ?_) (fun c => ?_)
  · have e2 : tkc z β s = 2 := (nI_eq (b := 2) (by omega) (by decide)).mp c
    refine GB.go 9999 rfl aB0 ?_
    refine GB.cal rfl rfl (by decide) (k_num T s hs e2) ?_
    refine GB.go 9999 rfl aB0 ?_
    refine GB.br rfl rfl (fun c2 => ?_) (fun c2 => ?_)
    · rw [bI_0 (fun q => absurd c2 (nI_nlt (show min 10000 (mvl z β s) ≤ m by omega) (by omega)))]
      refine GB.go 9999 rfl aB0 ?_
      exact GB.ret rfl rfl (aB1 (by decide) aB0)
    · have q : min 10000 (mvl z β s) ≤ m := Nat.le_of_not_lt (fun q => c2 (nI_lt q (by omega)))
      rw [bI_1 ⟨(mt_c (by omega)).mpr e2, by omega⟩]
      refine GB.go 9999 rfl aB0 ?_
      exact GB.ret rfl rfl (aB1 (by decide) aB0)
  · rw [bI_0 (fun q => c (by rw [(mt_c (c := 2) (by omega)).mp q.1]; rfl))]
    refine GB.go 9999 rfl aB0 ?_
    exact GB.ret rfl rfl (aB1 (by decide) aB0)
end CT
