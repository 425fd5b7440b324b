/-! THE CALLS, both sides: weeks to before -/
section CG
variable {ii : Nat → Nat → Nat → Int32} {kd : Nat → Nat}
theorem fstK_c {P Q : Nat → Bool} : ∀ N k, (∀ j, k ≤ j → j < k + N → P j = Q j) → fstK P N k = fstK Q N k
  | 0, _, _ => rfl
  | N + 1, k, h => by rw [fstK, fstK, h k (Nat.le_refl k) (by omega), fstK_c N (k + 1) (fun j h1 h2 => h j (by omega) (by omega))]
theorem bsM_c {F G : Nat → Int32} : ∀ n, (∀ k, k < n → F k = G k) → bsM F n = bsM G n
  | 0, _ => rfl
  | n + 1, h => by rw [bsM, bsM, h n (by omega), bsM_c n (fun k hk => h k (by omega))]
theorem bsI_c {F G : Nat → Int32} : ∀ n, (∀ k, k < n → F k = G k) → bsI F n = bsI G n
  | 0, _ => rfl
  | n + 1, h => by rw [bsI, bsI, h n (by omega), bsM_c n (fun k hk => h k (by omega)), bsI_c n (fun k hk => h k (by omega))]
theorem oB_c {P Q : Nat → Bool} : ∀ n, (∀ k, k < n → P k = Q k) → oB P n = oB Q n
  | 0, _ => rfl
  | n + 1, h => by rw [oB, oB, h n (by omega), oB_c n (fun k hk => h k (by omega))]
theorem shWs_tag {n a : Nat} (h1 : a ≠ 17) (h2 : a ≠ 21) : ∀ k, shWs kd n ii k a = ii a
  | 0 => rfl
  | k + 1 => by
    rw [shWs, shW, up3_tag h1, pWs_tag h2]
    exact shWs_tag h1 h2 k
theorem shWs_row {n i : Nat} (h : n ≤ i) : ∀ k, shWs kd n ii k 21 i = ii 21 i
  | 0 => rfl
  | k + 1 => by
    rw [shWs, shW, up3_tag (by decide), pWs_ge n h]
    exact shWs_row h k
theorem shWs_17 {n : Nat} {c : Nat} : ∀ k, shWs kd n ii k 17 1 c = ii 17 1 c
  | 0 => rfl
  | k + 1 => by
    rw [shWs, shW, up3_num (by decide), pWs_tag (by decide)]
    exact shWs_17 k
theorem tI_at {j i : Nat} : eqR (tI ii j i 21 j) (ii 21 i) := fun t ht => by
  unfold tI
  rw [wA_lt ht]
theorem smK_shWs {n k : Nat} (hn : n ≤ 8) : smK ii kd (shWs kd n ii k) kd := ⟨fun a p1 _ p3 _ _ _ => shWs_tag p1 p3 k, fun c _ => shWs_17 k, fun i p _ => ⟨by rw [shWs_tag (by decide) (by decide)], fun t _ => by rw [shWs_row (by omega)], rfl⟩, fun j _ _ c _ => by rw [shWs_tag (by decide) (by decide)]⟩
theorem jnk_fnm {i1 i2 : Nat → Nat → Nat → Int32} {k : Nat} (h : smM i1 i2) : jnk (fnm i1 k) kd (fnm i2 k) kd := by
  have e29 := h.2 29 (by decide) (by decide)
  refine ⟨fun a _ _ p3 p4 => ?_, fun i _ => ⟨?_, fun t _ => ?_, rfl⟩, fun c hc => ?_⟩
  · unfold fnm up3
    funext b c
    rw [e29, h.2 a p3 p4]
  · rw [fnm_tag (by decide), fnm_tag (by decide), h.2 20 (by decide) (by decide)]
  · rw [fnm_tag (by decide), fnm_tag (by decide), h.2 21 (by decide) (by decide)]
  · rw [fnm_tag (by decide), fnm_tag (by decide), h.1 c hc]
end CG
section T1
variable {l : Launch} {X : FX} {ii : Nat → Nat → Nat → Int32} {jj : Nat → Nat → Nat → Int64} {kd : Nat → Nat}
theorem tw_weeks (R : Rep ii jj kd) (v : Int32) : Two l X 90 175 [vI v] ii jj kd := by
  obtain ⟨n, d, S⟩ := R.1
  by_cases h : ¬ v < 1 ∧ v ≤ 60
  · have hv0 : ¬ v < 0 := fun q => h.1 (Int32.lt_trans q (by decide))
    obtain ⟨N, hN, rfl⟩ := nI_of2 (M := 60) (n := 60) (by decide) hv0 h.2
    have hN1 : 1 ≤ N := Nat.pos_of_ne_zero (fun e => h.1 (by rw [e]; decide))
    obtain ⟨w, hw, w1, w2, I⟩ := sh_mI S
    have n8 := S.n8
    by_cases hl : w + N ≤ 9999
    · have e26 : shWs kd n ii N 26 = ii 26 := shWs_tag (by decide) (by decide) N
      have I1 : mI (shWs kd n ii N) n w kd := mI_eq I (fun x _ => by rw [e26])
      have q1 : ii 17 0 4 + nI N ≤ 9999 := by rw [w1, nI_add]; exact nI_le hl (by decide)
      have hm := m_weeks (l := l) (X := X) (ii := shWs kd n ii N) (jj := jj) (kd := kd) N n w I1 hN1 hN (by omega) (by rw [e26, w2, nI_add]; exact nI_le hl (by decide))
      have er : ∀ i, i < n → eqR (mR (mSk kd n (shWs kd n ii N) N) i) (shWs kd n ii N 21 i) := fun i hi => by
        have A := mSk_at I1 hi N (by omega)
        rw [e26, mR_e e26] at A
        have B := shWs_at (kd := kd) (n := n) w1 hi N
        rw [← S.mo.eq] at B
        exact A.tr ((wkRs_c (S.row hi) N).tr B.sy)
      rw [aF_c (g := fun k => aF (shWs kd n ii N 21 k) 12) n (fun k hk => aF_c 12 (er k hk))] at hm
      have K : smK ii kd (mSk kd n (shWs kd n ii N) N) kd := (smK_shWs n8).tr (smK_t (fun a p _ => mSk_tag p N))
      refine two_of (c_weeks N n hN1 hN q1 n8 S.c2 (fun k hk => S.kd6 hk)) hm (by decide) (by decide) (Rep_S R K ⟨n, d, ?_⟩) K.one (shWs_tag (by decide) (by decide) N)
      rw [mSk_tag (show (17 : Nat) ≠ 26 by decide), mSk_tag (show (20 : Nat) ≠ 26 by decide), mSk_tag (show (21 : Nat) ≠ 26 by decide), mSk_tag (show (22 : Nat) ≠ 26 by decide), shWs_tag (show (20 : Nat) ≠ 17 by decide) (by decide), shWs_tag (show (22 : Nat) ≠ 17 by decide) (by decide)]
      have I2 := mSk_I I1 N (by omega)
      refine ShR_mk n8 S.d6 I2.2.1 ((shWs_pl (by decide) N).trans S.c2) ?_ ((shWs_pl (by decide) N).trans S.c3) (bth.of I2.2.2.1 (shWs_wk w1 N) hl) ?_ (fun i hi => I2.2.2.2.1 i hi) (fun i hi => ?_) (fun i hi t ht => ?_) (fun j hj k hk => ?_)
      · rw [mSk_out (by decide) (fun i t ht => by omega), e26]
        exact S.m3
      · rw [mSk_out (by decide) (fun i t ht => by omega), e26, shWs_pl (by decide)]
        exact S.mo
      · rw [mSk_out (by omega) (fun j t ht => by omega), e26]
        exact S.pl hi
      · obtain ⟨x, hx, ex⟩ := I2.2.2.2.2 i hi t ht
        exact bth.of ex ((er i hi t ht).symm.trans ex) hx
      · rw [mSk_row (by omega) (by omega), e26]
        exact S.hd hj hk
    · have q1 : ¬ ii 17 0 4 + nI N ≤ 9999 := by rw [w1, nI_add]; exact nI_ge (a := 9999) (by omega) (by omega)
      exact two_fail R (c_weeks1 _ h q1) (m_weeks1 _ h (by rw [fnd_tag (by decide), w2, ← w1]; exact q1)) (by decide) (by decide)
  · have h2 : v < 1 ∨ ¬ v ≤ 60 := by
      by_cases q : v < 1
      · exact Or.inl q
      · exact Or.inr (fun z => h ⟨q, z⟩)
    exact two_fail R (c_weeks0 v h2) (m_weeks0 v h2) (by decide) (by decide)
theorem tw_now (R : Rep ii jj kd) (w : Int32) : Two l X 91 176 [vI w] ii jj kd := by
  obtain ⟨n, d, S⟩ := R.1
  cases hw : uT w 5 with
  | true =>
    obtain ⟨w, hw5, rfl⟩ := uT_of (b := 5) (by decide) hw
    have hm := m_now (l := l) (X := X) (ii := ii) (jj := jj) (kd := kd) w n d hw5 S.n8 S.m2 S.d6 S.m3
    have hc := c_now (l := l) (X := X) (ii := ii) (jj := jj) (kd := kd) w n d hw5 S.n8 S.c2 S.d6 S.c3
    rw [S.wk.eq, S.mo.eq, aF_c (g := fun k => aF (ii 21 k) 12) n (fun k hk => aF_c 12 (S.row hk)), oF_c (g := fun k => hF (ii 21 k) 1 12) n (fun k hk => hF_c (S.row hk) 12 (by decide)), oF_c (g := fun k => ii 22 k 0) d (fun k hk => (S.set hk).1), aF_c (g := fun k => ii 22 k 2) d (fun k hk => (S.hd hk (show (2 : Nat) < 3 by decide)).eq)] at hm
    match w, hw5, hc, hm with
    | 0, _, hc, hm => exact two_of hc hm (by decide) (by decide) R rfl rfl
    | 1, _, hc, hm => exact two_of hc hm (by decide) (by decide) R rfl rfl
    | 2, _, hc, hm => exact two_of hc hm (by decide) (by decide) R rfl rfl
    | 3, _, hc, hm => exact two_of hc hm (by decide) (by decide) R rfl rfl
    | 4, _, hc, hm => exact two_of hc hm (by decide) (by decide) R rfl rfl
    | 5, _, hc, hm => exact two_of hc hm (by decide) (by decide) R rfl rfl
    | w + 6, h5, _, _ => exact absurd h5 (by omega)
  | false => exact two_fail R (c_now0 w hw) (m_now0 w hw) (by decide) (by decide)
theorem tr_row {i c w N : Nat} (hw : ii 17 0 4 = nI w) : eqR (trW 24 c (tI ii 24 i) N 21 24) (wkRs c w (ii 17 0 5) (ii 21 i) N) := by
  have A := trW_at (ii := tI ii 24 i) (i := 24) (c := c) (w := w) (by rw [tI_tag (by decide) (by decide)]; exact hw) N
  rw [tI_tag (by decide) (by decide)] at A
  exact A.tr (wkRs_c tI_at N)
theorem tw_on (R : Rep ii jj kd) (v w x : Int32) : Two l X 92 179 [vI v, vI w, vI x] ii jj kd := by
  obtain ⟨n, d, S⟩ := R.1
  by_cases h : (¬ v < 0 ∧ ¬ nI n ≤ v) ∧ uT w 60 = true ∧ uT x 1 = true
  · have n8 := S.n8
    obtain ⟨i, hi, rfl⟩ := in_of (by omega) rfl h.1
    obtain ⟨N, hN, rfl⟩ := uT_of (b := 60) (by decide) h.2.1
    obtain ⟨w0, hw, w1, w2, I⟩ := sh_mI S
    have hc := c_on (l := l) (X := X) (ii := ii) (jj := jj) (kd := kd) i n N x hi n8 S.c2 hN h.2.2 (S.kd6 hi)
    have J : jnk ii kd (trW 24 (kd i) (tI ii 24 i) N) (kU kd 24 (kd i)) := ((jnk_k (by decide)).tr (jnk_tI (by decide))).tr (jnk_trW (by decide) N)
    have e26 : trW 24 (kd i) (tI ii 24 i) N 26 = ii 26 := by rw [trW_tag (by decide), tI_tag (by decide) (by decide)]
    rw [hF_c (tr_row w1) 12 (by decide), aF_c 12 (tr_row w1)] at hc
    obtain ⟨i2, hm, S2⟩ := m_on (l := l) (X := X) (ii := trW 24 (kd i) (tI ii 24 i) N) (jj := jj) (kd := kU kd 24 (kd i)) i n N w0 (K := kd) x hi (mI_eq I (fun y _ => by rw [e26])) hN (by omega) h.2.2
    rw [e26, mR_e e26, S.mo.eq, hF_c (wkRs_c (S.row hi) N) 12 (by decide), aF_c 12 (wkRs_c (S.row hi) N)] at hm
    exact two_of hc hm (by decide) (by decide) (Rep_J R (J.tr (jnk_sm S2))) (J.tr (jnk_sm S2)).one J.one
  · exact two_fail R (c_on0 v w x (by rw [S.c2]; exact h)) (m_on0 v w x S.n8 (by rw [fnd_tag (by decide)]; exact S.m2) h) (by decide) (by decide)
/-- the first week, both sides -/
theorem two_fst (R : Rep ii jj kd) {y y' d d' : Nat} {as : List MV} {o : Option Nat} {f : Nat → Nat → Nat → Nat → Int32} {k1 : Nat → Nat} (J : ∀ k, jnk ii kd (f k) k1) (hc : SK l X d y (vR 5 0 :: as) (ii, jj, mj_rk kd, 108) (some (vI (anK o))) (piK f o, jj, mj_rk k1, 108)) (hm : ∀ i1, (∀ a, a ≠ 20 → a ≠ 21 → a ≠ 10 → i1 a = ii a) → ∃ i2, SK l X d' y' (vR 25 0 :: as) (i1, jj, mj_rk k1, 108) (some (vI (anK o))) (piM i2 o, jj, mj_rk k1, 108) ∧ smM i1 i2) (fe : ∀ k a, a ≠ 20 → a ≠ 21 → f k a = ii a) (hd : d ≤ 30) (hd' : d' ≤ 30) : Two l X y y' as ii jj kd := by
  cases o with
  | some k =>
    obtain ⟨i2, hm, S2⟩ := hm (f k) (fun a p1 p2 _ => fe k a p1 p2)
    exact two_of hc hm hd hd' (Rep_J R ((J k).tr (jnk_sm S2))) ((J k).tr (jnk_sm S2)).one (J k).one
  | none =>
    obtain ⟨i2, hm, S2⟩ := hm (fnd (f 61) 3) (fun a p1 p2 p3 => (fnd_tag p3).trans (fe 61 a p1 p2))
    refine two_of hc hm hd hd' (Rep_J (Rep_fnd (k := 3) (Rep_J R (J 61))) (jnk_fnm S2)) ?_ ?_
    · show fnm i2 3 1 = ii 1
      rw [fnm_tag (by decide), S2.2 1 (by decide) (by decide), fnd_tag (by decide), (J 61).one]
    · show fnd (f 61) 3 1 = ii 1
      rw [fnd_tag (by decide), (J 61).one]
theorem th_row2 {i1 : Nat → Nat → Nat → Int32} {i n w N : Nat} {K : Nat → Nat} (e26 : i1 26 = ii 26) (I : mI ii n w K) (hi : i < n) (hw : w + N < 2 ^ 31) : eqR (mR (mSk K n (wA i1 28 0 134 (i1 26 0)) N) i) (wkRs (K i) w (ii 26 0 1) (mR ii i) N) := by
  have I1 : mI (wA i1 28 0 134 (i1 26 0)) n w K := mI_th (mI_eq I (fun y _ => by rw [e26]))
  have A := mSk_at I1 hi N hw
  rw [th_row, mR_e e26, wA_tg (show (26 : Nat) ≠ 28 by decide), show i1 26 0 1 = ii 26 0 1 by rw [e26]] at A
  exact A
theorem tw_gone (R : Rep ii jj kd) (v t : Int32) : Two l X 93 180 [vI v, vI t] ii jj kd := by
  obtain ⟨n, d, S⟩ := R.1
  by_cases h : (¬ v < 0 ∧ ¬ nI n ≤ v) ∧ uT t 11 = true
  · have n8 := S.n8
    obtain ⟨i, hi, rfl⟩ := in_of (by omega) rfl h.1
    obtain ⟨t, ht, rfl⟩ := uT_of (b := 11) (by decide) h.2
    obtain ⟨w0, hw, w1, w2, I⟩ := sh_mI S
    have hc := c_gone (l := l) (X := X) (ii := ii) (jj := jj) (kd := kd) i n t hi n8 S.c2 (by omega) (S.kd6 hi)
    refine two_fst R (k1 := kU kd 24 (kd i)) (f := trW 24 (kd i) (tI ii 24 i)) (fun k => ((jnk_k (by decide)).tr (jnk_tI (by decide))).tr (jnk_trW (by decide) k)) hc (fun i1 e1 => ?_) (fun k a p1 p2 => by rw [trW_tag p2, tI_tag p1 p2]) (d' := 8) (by decide) (by decide)
    have e26 := e1 26 (by decide) (by decide) (by decide)
    obtain ⟨i2, hm, S2⟩ := m_gone (l := l) (X := X) (ii := i1) (jj := jj) (kd := kU kd 24 (kd i)) i t n w0 (K := kd) hi (by omega) (mI_eq I (fun y _ => by rw [e26])) (by omega)
    rw [fstK_c (Q := fun j => decide (trW 24 (kd i) (tI ii 24 i) j 21 24 t = 0)) 61 0 (fun j _ hj => by
      have A := th_row2 (N := j) e26 I hi (by omega)
      have B := tr_row (i := i) (c := kd i) (N := j) w1
      rw [← S.mo.eq] at B
      have C := (A.tr ((wkRs_c (S.row hi) j).tr B.sy)) t (by omega)
      obtain ⟨x, hx, ex⟩ := rN_c A.sy (rN_wkRs (S.rn hi) j (by omega)) t (by omega)
      unfold goP
      rw [C] at ex ⊢
      rw [ex]
      exact decide_eq_decide.mpr ((nle0 (by omega)).trans (ne0 (by omega)).symm))] at hm
    exact ⟨i2, hm, S2⟩
  · exact two_fail R (c_gone0 v t (by rw [S.c2]; exact h)) (m_gone0 v t S.n8 (by rw [fnd_tag (by decide)]; exact S.m2) h) (by decide) (by decide)
theorem tw_alike (R : Rep ii jj kd) (v w : Int32) : Two l X 94 181 [vI v, vI w] ii jj kd := by
  obtain ⟨n, d, S⟩ := R.1
  have n8 := S.n8
  by_cases h : (¬ v < 0 ∧ ¬ nI n ≤ v) ∧ (¬ w < 0 ∧ ¬ nI n ≤ w) ∧ v ≠ w
  · obtain ⟨i, hi, rfl⟩ := in_of (by omega) rfl h.1
    obtain ⟨j, hj, rfl⟩ := in_of (by omega) rfl h.2.1
    have hij : i ≠ j := fun e => h.2.2 (by rw [e])
    obtain ⟨w0, hw, w1, w2, I⟩ := sh_mI S
    have hc := c_alike (l := l) (X := X) (ii := ii) (jj := jj) (kd := kd) i j n hi hj hij n8 S.c2 (S.kd6 hi) (S.kd6 hj)
    refine two_fst R (k1 := kU (kU kd 24 (kd i)) 25 (kd j)) (f := trB (kd i) (kd j) (tI (tI ii 24 i) 25 j)) (fun k => ((((jnk_k (by decide)).tr (jnk_k (by decide))).tr (jnk_tI (by decide))).tr (jnk_tI (by decide))).tr (jnk_trB k)) hc (fun i1 e1 => ?_) (fun k a p1 p2 => by rw [trB_tag p2, tI_tag p1 p2, tI_tag p1 p2]) (d' := 8) (by decide) (by decide)
    have e26 := e1 26 (by decide) (by decide) (by decide)
    obtain ⟨i2, hm, S2⟩ := m_alike (l := l) (X := X) (ii := i1) (jj := jj) (kd := kU (kU kd 24 (kd i)) 25 (kd j)) i j n w0 (K := kd) hi hj hij (mI_eq I (fun y _ => by rw [e26])) (by omega)
    rw [fstK_c (Q := alP (kd i) (kd j) (tI (tI ii 24 i) 25 j)) 61 0 (fun k _ hk => by
      have A := th_row2 (N := k) e26 I hi (by omega)
      have A2 := th_row2 (N := k) e26 I hj (by omega)
      have B := trB_at (ii := tI (tI ii 24 i) 25 j) (c := kd i) (e := kd j) (w := w0) (by rw [tI_tag (by decide) (by decide), tI_tag (by decide) (by decide)]; exact w1) k
      rw [tI_tag (show (17 : Nat) ≠ 20 by decide) (by decide), tI_tag (show (17 : Nat) ≠ 20 by decide) (by decide), ← S.mo.eq] at B
      have r24 : eqR (ii 21 i) (tI (tI ii 24 i) 25 j 21 24) := fun t ht => by
        unfold tI
        rw [wA_ne (fun q => by omega), up3_tag (by decide), wA_lt ht]
      have r25 : eqR (ii 21 j) (tI (tI ii 24 i) 25 j 21 25) := fun t ht => by
        unfold tI
        rw [wA_lt ht, wA_ne (fun q => by omega), up3_tag (by decide)]
      unfold akP alP
      rw [hF_c (A.tr ((wkRs_c ((S.row hi).tr r24) k).tr B.1.sy)) 12 (by decide), hF_c (A2.tr ((wkRs_c ((S.row hj).tr r25) k).tr B.2.sy)) 12 (by decide)])] at hm
    exact ⟨i2, hm, S2⟩
  · exact two_fail R (c_alike0 v w (by rw [S.c2]; exact h)) (m_alike0 v w S.n8 (by rw [fnd_tag (by decide)]; exact S.m2) h) (by decide) (by decide)
theorem tw_best (R : Rep ii jj kd) (v : Int32) : Two l X 95 182 [vI v] ii jj kd := by
  obtain ⟨n, d, S⟩ := R.1
  by_cases h : ¬ v < 0 ∧ ¬ nI d ≤ v
  · have d6 := S.d6
    obtain ⟨j, hj, rfl⟩ := in_of (by omega) rfl h
    rcases Nat.eq_zero_or_pos n with h0 | h0
    · rw [h0] at S
      exact two_fail R (c_best1 _ (by rw [S.c3]; exact h) S.c2) (m_best1 j d hj S.d6 (by rw [fnd_tag (by decide)]; exact S.m3) (by rw [fnd_tag (by decide)]; exact S.m2) (by rw [fnd_tag (by decide), (S.set hj).1]; exact (S.set hj).2)) (by decide) (by decide)
    · have hm := m_best (l := l) (X := X) (ii := ii) (jj := jj) (kd := kd) j d n (K := kd) hj d6 S.m3 h0 S.n8 S.m2 (fun i hi => ⟨S.kd6 hi, S.mk hi⟩) (by rw [(S.set hj).1]; exact (S.set hj).2)
      rw [bsI_c (G := fun k => hvN ii (kd k) k (ii 22 j 0)) n (fun k hk => by
        unfold mN hvN
        rw [sh_mT S hk, (S.set hj).1])] at hm
      exact two_of (c_best j d n hj d6 S.c3 h0 S.n8 S.c2 (fun k hk => S.kd6 hk)) hm (by decide) (by decide) R rfl rfl
  · exact two_fail R (c_best0 v (by rw [S.c3]; exact h)) (m_best0 v S.d6 (by rw [fnd_tag (by decide)]; exact S.m3) h) (by decide) (by decide)
theorem two_pi3 (R : Rep ii jj kd) {y y' d d' : Nat} {as : List MV} {r : Int32} {o : Option Nat} (hc : SK l X d y (vR 5 0 :: as) (ii, jj, mj_rk kd, 108) (some (vI r)) (pi3 ii o, jj, mj_rk kd, 108)) (hm : ∀ i1, i1 26 = ii 26 → SK l X d' y' (vR 25 0 :: as) (i1, jj, mj_rk kd, 108) (some (vI r)) (piM i1 o, jj, mj_rk kd, 108)) (hd : d ≤ 30) (hd' : d' ≤ 30) : Two l X y y' as ii jj kd := by
  cases o with
  | some k => exact two_of hc (hm ii rfl) hd hd' R rfl rfl
  | none => exact two_fail R hc (hm (fnd ii 3) (fnd_tag (by decide))) hd hd'
theorem tw_row (R : Rep ii jj kd) (v t : Int32) : Two l X 96 185 [vI v, vI t] ii jj kd := by
  obtain ⟨n, d, S⟩ := R.1
  by_cases h : (¬ v < 0 ∧ ¬ nI d ≤ v) ∧ uT t 4095 = true
  · have d6 := S.d6
    obtain ⟨j, hj, rfl⟩ := in_of (by omega) rfl h.1
    refine two_pi3 R (c_row j d n t hj d6 S.c3 S.n8 S.c2 (fun k hk => S.kd6 hk) h.2) (fun i1 e26 => ?_) (d' := 8) (by decide) (by decide)
    have hm := m_row (l := l) (X := X) (ii := i1) (jj := jj) (kd := kd) j d n (K := kd) t hj d6 (by rw [e26]; exact S.m3) S.n8 (by rw [e26]; exact S.m2) (fun i hi => ⟨S.kd6 hi, by rw [e26]; exact S.mk hi⟩) h.2
    rw [row_eq S.n8, e26, (S.set hj).1, fstO_c (g := fun k => fRo (cT ii kd) n t k (ii 22 j 0) 0 100) 4 0 (fun k _ _ => fRo_c (fun i hi y => by
      unfold mTT mT cT
      rw [mR_e e26]
      exact sh_mT S hi) k _ _ _)] at hm
    exact hm
  · exact two_fail R (c_row0 v t (by rw [S.c3]; exact h)) (m_row0 v t S.d6 (by rw [fnd_tag (by decide)]; exact S.m3) h) (by decide) (by decide)
theorem tw_rows (R : Rep ii jj kd) (v t x : Int32) : Two l X 97 186 [vI v, vI t, vI x] ii jj kd := by
  obtain ⟨n, d, S⟩ := R.1
  by_cases h : (¬ v < 0 ∧ ¬ nI d ≤ v) ∧ uT t 4095 = true ∧ uT x 3 = true
  · have d6 := S.d6
    obtain ⟨j, hj, rfl⟩ := in_of (by omega) rfl h.1
    obtain ⟨k, hk, rfl⟩ := uT_of (b := 3) (by decide) h.2.2
    have hm := m_rows (l := l) (X := X) (ii := ii) (jj := jj) (kd := kd) j d n k (K := kd) t hj d6 S.m3 S.n8 S.m2 (fun i hi => ⟨S.kd6 hi, S.mk hi⟩) h.2.1 hk
    rw [rows_eq S.n8 hk, (S.set hj).1, cRo_c (S := cT ii kd) (fun i hi y => by
      unfold mTT cT
      exact sh_mT S hi)] at hm
    exact two_of (c_rows j d n k t hj d6 S.c3 S.n8 S.c2 (fun k hk => S.kd6 hk) h.2.1 hk) hm (by decide) (by decide) R rfl rfl
  · exact two_fail R (c_rows0 v t x (by rw [S.c3]; exact h)) (m_rows0 v t x S.d6 (by rw [fnd_tag (by decide)]; exact S.m3) h) (by decide) (by decide)
theorem tw_kind (R : Rep ii jj kd) (v w : Int32) : Two l X 98 187 [vI v, vI w] ii jj kd := by
  obtain ⟨n, d, S⟩ := R.1
  by_cases h : (¬ v < 0 ∧ ¬ nI n ≤ v) ∧ ¬ w < 0 ∧ ¬ nI d ≤ w
  · have n8 := S.n8
    have d6 := S.d6
    obtain ⟨i, hi, rfl⟩ := in_of (by omega) rfl h.1
    obtain ⟨j, hj, rfl⟩ := in_of (by omega) rfl h.2
    have e26 : tI ii 24 i 26 = ii 26 := tI_tag (by decide) (by decide)
    have hm := m_kind (l := l) (X := X) (ii := tI ii 24 i) (jj := jj) (kd := kU kd 24 5) i n j d hi n8 (by rw [e26]; exact S.m2) hj d6 (by rw [e26]; exact S.m3) (by rw [e26, (S.set hj).1]; exact (S.set hj).2)
    rw [bsI_c (G := fun k => hvN (tI ii 24 i) k 24 (ii 22 j 0)) 6 (fun k hk => by
      unfold mN hvN mT
      rw [mR_e e26, e26, (S.set hj).1, hF_c ((S.row hi).tr tI_at.sy) 12 (by decide), hF_c ((S.row hi).tr tI_at.sy) 12 (by decide)])] at hm
    have J : jnk ii kd (tI ii 24 i) (kU kd 24 5) := (jnk_k (by decide)).tr (jnk_tI (by decide))
    exact two_of (c_kind i n j d hi n8 S.c2 hj d6 S.c3 (S.kd6 hi)) hm (by decide) (by decide) (Rep_J R J) J.one J.one
  · exact two_fail R (c_kind0 v w (by rw [S.c2, S.c3]; exact h)) (m_kind0 v w S.n8 (by rw [fnd_tag (by decide)]; exact S.m2) S.d6 (by rw [fnd_tag (by decide)]; exact S.m3) h) (by decide) (by decide)
theorem jnk_lsP {i w : Nat} : ∀ k, jnk ii kd (lsP ii i w k) kd
  | 0 => jnk.rf
  | k + 1 => ((jnk_lsP k).tr (jnk_tI (by decide))).tr (jnk_trW (by decide) w)
theorem lsP_tag {i w a : Nat} (h0 : a ≠ 20) (h1 : a ≠ 21) : ∀ k, lsP ii i w k a = ii a
  | 0 => rfl
  | k + 1 => by
    rw [lsP, trW_tag h1, tI_tag h0 h1]
    exact lsP_tag h0 h1 k
theorem tw_lasting (R : Rep ii jj kd) (v w : Int32) : Two l X 99 188 [vI v, vI w] ii jj kd := by
  obtain ⟨n, d, S⟩ := R.1
  by_cases h : (¬ v < 0 ∧ ¬ nI n ≤ v) ∧ uT w 60 = true
  · have n8 := S.n8
    obtain ⟨i, hi, rfl⟩ := in_of (by omega) rfl h.1
    obtain ⟨N, hN, rfl⟩ := uT_of (b := 60) (by decide) h.2
    obtain ⟨w0, hw, w1, w2, I⟩ := sh_mI S
    have e26 : lsP ii i N 6 26 = ii 26 := lsP_tag (by decide) (by decide) 6
    have J : jnk ii kd (lsP ii i N 6) (kU kd 24 5) := (jnk_k (by decide)).tr (jnk_lsP 6)
    obtain ⟨i2, hm, S2⟩ := m_lasting (l := l) (X := X) (ii := lsP ii i N 6) (jj := jj) (kd := kU kd 24 5) i n w0 N (K := kd) hi (mI_eq I (fun y _ => by rw [e26])) hN (by omega)
    rw [bsI_c (G := lsF ii i N) 6 (fun k hk => by
      unfold lsG lsF
      rw [e26, mR_e e26, lsP]
      have B := tr_row (ii := lsP ii i N k) (i := i) (c := k) (w := w0) (N := N) (by rw [lsP_tag (by decide) (by decide)]; exact w1)
      rw [lsP_tag (show (17 : Nat) ≠ 20 by decide) (by decide), ← S.mo.eq] at B
      exact aF_c 12 ((wkRs_c ((S.row hi).tr (fun t ht => (((jnk_lsP (ii := ii) (kd := kd) (i := i) (w := N) k).2.1 i (by omega)).2.1 t ht).symm)) N).tr B.sy))] at hm
    exact two_of (c_lasting i n N hi n8 S.c2 hN (S.kd6 hi)) hm (by decide) (by decide) (Rep_J R (J.tr (jnk_sm S2))) (J.tr (jnk_sm S2)).one J.one
  · exact two_fail R (c_lasting0 v w (by rw [S.c2]; exact h)) (m_lasting0 v w S.n8 (by rw [fnd_tag (by decide)]; exact S.m2) h) (by decide) (by decide)
theorem tw_worn (R : Rep ii jj kd) (v : Int32) : Two l X 100 189 [vI v] ii jj kd := by
  obtain ⟨n, d, S⟩ := R.1
  by_cases h : ¬ v < 0 ∧ ¬ nI n ≤ v
  · have n8 := S.n8
    obtain ⟨i, hi, rfl⟩ := in_of (by omega) rfl h
    have hm := m_worn (l := l) (X := X) (ii := ii) (jj := jj) (kd := kd) i n d (kd i) hi n8 S.m2 S.d6 S.m3 (S.kd6 hi) (S.mk hi) (fun j hj => by rw [(S.set hj).1]; exact (S.set hj).2)
    rw [oB_c (Q := wnP ii (kd i) i) d (fun j hj => by
      unfold wmP wnP
      rw [(S.set hj).1, hF_c (S.row hi) 12 (by decide)]
      exact decide_eq_decide.mpr sub_iff.symm)] at hm
    exact two_of (c_worn i n d hi n8 S.c2 S.d6 S.c3 (S.kd6 hi)) hm (by decide) (by decide) R rfl rfl
  · exact two_fail R (c_worn0 v (by rw [S.c2]; exact h)) (m_worn0 v S.n8 (by rw [fnd_tag (by decide)]; exact S.m2) h) (by decide) (by decide)
theorem tw_before (R : Rep ii jj kd) (v t : Int32) : Two l X 101 190 [vI v, vI t] ii jj kd := by
  obtain ⟨n, d, S⟩ := R.1
  by_cases h : (¬ v < 0 ∧ ¬ nI n ≤ v) ∧ uT t 4095 = true
  · have n8 := S.n8
    obtain ⟨i, hi, rfl⟩ := in_of (by omega) rfl h.1
    refine two_pi3 R (c_before i n t hi n8 S.c2 h.2 (S.kd6 hi)) (fun i1 e26 => ?_) (d' := 8) (by decide) (by decide)
    have hm := m_before (l := l) (X := X) (ii := i1) (jj := jj) (kd := kd) i n (kd i) t hi n8 (by rw [e26]; exact S.m2) (S.kd6 hi) (by rw [e26]; exact S.mk hi) h.2
    rw [mR_e e26, hF_c (S.row hi) 12 (by decide), hF_c (S.row hi) 12 (by decide)] at hm
    exact hm
  · exact two_fail R (c_before0 v t (by rw [S.c2]; exact h)) (m_before0 v t S.n8 (by rw [fnd_tag (by decide)]; exact S.m2) h) (by decide) (by decide)
end T1
