/-! THE CALLS, both sides: about to now -/
section T1
variable {l : Launch} {X : FX} {ii : Nat → Nat → Nat → Int32} {jj : Nat → Nat → Nat → Int64} {kd : Nat → Nat}
theorem tw_about (R : Rep ii jj kd) (v w : Int32) : Two l X 81 162 [vI v, vI w] ii jj kd := by
  obtain ⟨n, d, S⟩ := R.1
  by_cases h : ¬ v < 0 ∧ ¬ nI d ≤ v
  · obtain ⟨i, hi, rfl⟩ := in_of (by have := S.d6; omega) rfl h
    cases hw : uT w 2 with
    | true =>
      obtain ⟨w, hw2, rfl⟩ := uT_of (b := 2) (by decide) hw
      have hm := m_about (l := l) (X := X) (ii := ii) (jj := jj) (kd := kd) i d w hi S.d6 S.m3 hw2
      rw [(S.hd hi (show w < 3 by omega)).eq] at hm
      exact two_of (c_about i d w hi S.d6 S.c3 hw2) hm (by decide) (by decide) R rfl rfl
    | false => exact two_fail R (c_about_bad i d w hi S.d6 S.c3 hw) (m_about0 _ w S.d6 (by rw [fnd_tag (by decide)]; exact S.m3) (fun q => by rw [hw] at q; exact absurd q.2 (by decide))) (by decide) (by decide)
  · exact two_fail R (c_about0 v w (by rw [S.c3]; exact h)) (m_about0 v w S.d6 (by rw [fnd_tag (by decide)]; exact S.m3) (fun q => h q.1)) (by decide) (by decide)
theorem md_lim {w : Nat} {x : Int32} (hw : w ≤ 2) (h : mdO (nI w) x) : ∃ y, y ≤ liM w ∧ x = nI y := by
  match w, hw with
  | 0, _ =>
    rcases h with h | h | h
    · exact uT_of (b := 4095) (by decide) h.2
    · exact absurd h.1 (by decide)
    · exact absurd h.1 (by decide)
  | 1, _ =>
    rcases h with h | h | h
    · exact absurd h.1 (by decide)
    · exact uT_of (b := 1) (by decide) h.2
    · exact absurd h.1 (by decide)
  | 2, _ =>
    rcases h with h | h | h
    · exact absurd h.1 (by decide)
    · exact absurd h.1 (by decide)
    · exact uT_of (b := 9999) (by decide) h.2
theorem tw_mind (R : Rep ii jj kd) (v w x : Int32) : Two l X 82 163 [vI v, vI w, vI x] ii jj kd := by
  obtain ⟨n, d, S⟩ := R.1
  by_cases h : (¬ v < 0 ∧ ¬ nI d ≤ v) ∧ mdO w x
  · obtain ⟨i, hi, rfl⟩ := in_of (by have := S.d6; omega) rfl h.1
    obtain ⟨w, hw2, rfl⟩ := uT_of (b := 2) (by decide) (mf_w h.2)
    obtain ⟨y, hy, rfl⟩ := md_lim hw2 h.2
    have d6 := S.d6
    have K : smK ii kd (up3 (up3 ii 22 i w (nI y)) 26 0 (116 + 3 * i + w) (nI y)) kd := (smK_up (by omega)).tr (smK_t (fun a p _ => up3_tag p))
    have hm := m_mind (l := l) (X := X) (ii := up3 ii 22 i w (nI y)) (jj := jj) (kd := kd) i d w (nI y) hi d6 (by rw [up3_tag (by decide)]; exact S.m3) hw2 h.2
    rw [up3_tag (show (26 : Nat) ≠ 22 by decide), (S.hd hi (show w < 3 by omega)).eq] at hm
    refine two_of (c_mind i d w (nI y) hi d6 S.c3 hw2 h.2) hm (by decide) (by decide) (Rep_S R K ⟨n, d, ?_⟩) K.one (up3_tag (by decide))
    rw [up3_tag (show (17 : Nat) ≠ 26 by decide), up3_tag (show (17 : Nat) ≠ 22 by decide), up3_tag (show (20 : Nat) ≠ 26 by decide), up3_tag (show (20 : Nat) ≠ 22 by decide), up3_tag (show (21 : Nat) ≠ 26 by decide), up3_tag (show (21 : Nat) ≠ 22 by decide), up3_tag (show (22 : Nat) ≠ 26 by decide)]
    refine ShR_hd S hi (show w < 3 by omega) (fun z hz c hc e => ?_) (fun k hk q => ?_) ?_
    · unfold up3
      rw [if_neg (fun q => e ⟨q.2.1, q.2.2⟩)]
    · rw [up3_pl q, up3_tag (by decide)]
    · rw [up3_rd, up3_rd]
      exact bth.self hy
  · exact two_fail R (c_mind0 v w x (by rw [S.c3]; exact h)) (m_mind0 v w x S.d6 (by rw [fnd_tag (by decide)]; exact S.m3) h) (by decide) (by decide)
theorem tw_moths (R : Rep ii jj kd) (k : Int32) : Two l X 83 164 [vI k] ii jj kd := by
  obtain ⟨n, d, S⟩ := R.1
  by_cases h : uT k 1 = true
  · obtain ⟨y, hy, rfl⟩ := uT_of (b := 1) (by decide) h
    have K : smK ii kd (up3 (up3 ii 17 0 5 (nI y)) 26 0 1 (nI y)) kd := (smK_up (by omega)).tr (smK_t (fun a p _ => up3_tag p))
    have hm := m_moths (l := l) (X := X) (ii := up3 ii 17 0 5 (nI y)) (jj := jj) (kd := kd) (nI y) h
    rw [up3_tag (show (26 : Nat) ≠ 17 by decide), S.mo.eq] at hm
    refine two_of (c_moths (nI y) h) hm (by decide) (by decide) (Rep_S R K ⟨n, d, ?_⟩) K.one (up3_tag (by decide))
    rw [up3_tag (show (20 : Nat) ≠ 26 by decide), up3_tag (show (20 : Nat) ≠ 17 by decide), up3_tag (show (21 : Nat) ≠ 26 by decide), up3_tag (show (21 : Nat) ≠ 17 by decide), up3_tag (show (22 : Nat) ≠ 26 by decide), up3_tag (show (22 : Nat) ≠ 17 by decide), up3_tag (show (17 : Nat) ≠ 26 by decide)]
    refine ShR_mo S (fun k hk => up3_pl (by omega)) (fun x hx q => ?_) ?_
    · rw [up3_pl q, up3_tag (by decide)]
    · rw [up3_rd, up3_rd]
      exact bth.self hy
  · exact two_fail R (c_moths0 k h) (m_moths0 k h) (by decide) (by decide)
theorem tw_takes (R : Rep ii jj kd) (v w : Int32) : Two l X 84 165 [vI v, vI w] ii jj kd := by
  obtain ⟨n, d, S⟩ := R.1
  by_cases h : (¬ v < 0 ∧ ¬ nI n ≤ v) ∧ ¬ w < 0 ∧ ¬ nI d ≤ w
  · obtain ⟨i, hi, rfl⟩ := in_of (by have := S.n8; omega) rfl h.1
    obtain ⟨j, hj, rfl⟩ := in_of (by have := S.d6; omega) rfl h.2
    have hm := m_takes (l := l) (X := X) (ii := ii) (jj := jj) (kd := kd) i n j d (kd i) hi S.n8 S.m2 hj S.d6 S.m3 (S.kd6 hi) (S.mk hi)
    rw [sh_mT S hi, (S.set hj).1] at hm
    exact two_of (c_takes i n j d hi S.n8 S.c2 hj S.d6 S.c3 (S.kd6 hi)) hm (by decide) (by decide) R rfl rfl
  · exact two_fail R (c_takes0 v w (by rw [S.c2, S.c3]; exact h)) (m_takes0 v w S.n8 (by rw [fnd_tag (by decide)]; exact S.m2) S.d6 (by rw [fnd_tag (by decide)]; exact S.m3) h) (by decide) (by decide)
theorem tw_keeps (R : Rep ii jj kd) (v w : Int32) : Two l X 85 166 [vI v, vI w] ii jj kd := by
  obtain ⟨n, d, S⟩ := R.1
  by_cases h : (¬ v < 0 ∧ ¬ nI n ≤ v) ∧ ¬ w < 0 ∧ ¬ nI d ≤ w
  · obtain ⟨i, hi, rfl⟩ := in_of (by have := S.n8; omega) rfl h.1
    obtain ⟨j, hj, rfl⟩ := in_of (by have := S.d6; omega) rfl h.2
    have hm := m_keeps (l := l) (X := X) (ii := ii) (jj := jj) (kd := kd) i n j d (kd i) hi S.n8 S.m2 hj S.d6 S.m3 (S.kd6 hi) (S.mk hi) (by rw [(S.set hj).1]; exact (S.set hj).2)
    rw [(S.set hj).1] at hm
    exact two_of (c_keeps i n j d hi S.n8 S.c2 hj S.d6 S.c3 (S.kd6 hi)) hm (by decide) (by decide) R rfl rfl
  · exact two_fail R (c_keeps0 v w (by rw [S.c2, S.c3]; exact h)) (m_keeps0 v w S.n8 (by rw [fnd_tag (by decide)]; exact S.m2) S.d6 (by rw [fnd_tag (by decide)]; exact S.m3) h) (by decide) (by decide)
theorem pen_eq {p b : Nat} (hp : p ≤ 9999) (hb : b ≤ 1) : ∃ x, x ≤ 9999 ∧ hdO (nI p + 2 - nI b) 0 9999 = nI x ∧ eN (nI b) (nI p) = nI x := by
  have e1 : nI p + 2 - nI b = nI (p + 2 - b) := by rw [show nI p + 2 = nI (p + 2) from nI_add p 2, pk_sub (by omega)]
  have e2 : nI p + (if nI b = 1 then 1 else 2) = nI (p + 2 - b) := by
    match b, hb with
    | 0, _ => exact nI_add p 2
    | 1, _ => exact nI_add p 1
  unfold eN hdO
  rw [e1, e2, if_neg (nI_pos (by omega)), show (9999 : Int32) = nI 9999 from rfl]
  by_cases q : p + 2 - b < 9999
  · refine ⟨p + 2 - b, by omega, ?_, ?_⟩
    · rw [if_neg (nI_nlt (show p + 2 - b ≤ 9999 by omega) (by decide))]
    · rw [if_pos (nI_lt q (by decide))]
  · refine ⟨9999, by omega, ?_, ?_⟩
    · by_cases q2 : 9999 < p + 2 - b
      · rw [if_pos (nI_lt q2 (by omega))]
      · rw [show p + 2 - b = 9999 by omega, if_neg (nI_nlt (Nat.le_refl _) (by decide))]
    · rw [if_neg (nI_nlt (show 9999 ≤ p + 2 - b by omega) (by omega))]
theorem kp_n {c : Nat} {x : Int32} (hx : sT x) : ∃ y, y ≤ 9 ∧ kpO c x = nI y := by
  unfold kpO
  split
  · exact ⟨4, by decide, rfl⟩
  · obtain ⟨q, hq, e⟩ := bC_n hx
    rw [e]
    have g : ∀ q, q < 13 → (if (1 : Int32) < 9 - nI q then 9 - nI q else 1) = nI (if q < 8 then 9 - q else 1) := by decide +kernel
    refine ⟨if q < 8 then 9 - q else 1, ?_, g q (by omega)⟩
    split <;> omega
  · exact ⟨5, by decide, rfl⟩
  · exact ⟨9, by decide, rfl⟩
theorem tw_tries (R : Rep ii jj kd) (v w : Int32) : Two l X 86 167 [vI v, vI w] ii jj kd := by
  obtain ⟨n, d, S⟩ := R.1
  by_cases h : (¬ v < 0 ∧ ¬ nI n ≤ v) ∧ ¬ w < 0 ∧ ¬ nI d ≤ w
  · obtain ⟨i, hi, rfl⟩ := in_of (by have := S.n8; omega) rfl h.1
    obtain ⟨j, hj, rfl⟩ := in_of (by have := S.d6; omega) rfl h.2
    have n8 := S.n8
    have d6 := S.d6
    have hc := c_tries (l := l) (X := X) (ii := ii) (jj := jj) (kd := kd) i n j d hi n8 S.c2 hj d6 S.c3 (S.kd6 hi)
    obtain ⟨e0, hs⟩ := S.set hj
    obtain ⟨b, hb, b1, b2⟩ := S.hd hj (show (1 : Nat) < 3 by decide)
    obtain ⟨p, hp, p1, p2⟩ := S.hd hj (show (2 : Nat) < 3 by decide)
    obtain ⟨q, hq, q1, q2⟩ := pen_eq (p := p) (b := b) hp hb
    obtain ⟨z, hz, ez⟩ := kp_n (c := kd i) hs
    rw [b2, p2, q2] at hc
    generalize hA : ii 22 j 0 ||| tkO (kd i) (hF (ii 21 i) 1 12) (hF (ii 21 i) 3 12) (ii 22 j 0) = A at hc
    have sA : sT A := by
      rw [← hA]
      exact sT_or hs (sT_tk (sT_hF 12 (by decide)))
    obtain ⟨a, ha, eA⟩ := sT_of sA
    generalize hi1 : up3 (up3 (wA ii 21 i 12 (rmF (ii 21 i) (kpO (kd i) (ii 22 j 0)) (ii 22 j 0))) 22 j 0 A) 22 j 2 (nI q) = i1 at hc
    have t1 : ∀ a, a ≠ 21 → a ≠ 22 → i1 a = ii a := fun a h1 h2 => by rw [← hi1, up3_tag h2, up3_tag h2, wA_tg h1]
    have e26 : i1 26 = ii 26 := t1 26 (by decide) (by decide)
    have hm := m_tries (l := l) (X := X) (ii := i1) (jj := jj) (kd := kd) i n j d (kd i) hi n8 (by rw [e26]; exact S.m2) hj d6 (by rw [e26]; exact S.m3) (S.kd6 hi) (by rw [e26]; exact S.mk hi) (by rw [e26, e0]; exact hs) (fun t ht => by
      rw [mR_e e26]
      obtain ⟨x, hx, r1⟩ := S.rn hi t ht
      rw [r1]
      exact nI_nlt hx (by decide))
    unfold tyM at hm
    rw [show mT i1 (kd i) i (i1 26 0 (116 + 3 * j)) = tkO (kd i) (hF (ii 21 i) 1 12) (hF (ii 21 i) 3 12) (ii 22 j 0) by
      rw [e26, e0]
      unfold mT
      rw [mR_e e26]
      exact sh_mT S hi, mR_e e26, e26, e0, hA, p1, b1, q1] at hm
    have K1 : smK ii kd i1 kd := by
      rw [← hi1]
      exact (smK_wA (by omega)).tr ((smK_up (by omega)).tr (smK_up (by omega)))
    have nt : ∀ a, a ≠ 26 → up3 (up3 (wR i1 i 12 (rmF (mR ii i) (kpO (kd i) (ii 22 j 0)) (ii 22 j 0))) 26 0 (116 + 3 * j) A) 26 0 (116 + 3 * j + 2) (nI q) a = i1 a := fun a h => by rw [up3_tag h, up3_tag h, wR_tag h]
    have K : smK ii kd (up3 (up3 (wR i1 i 12 (rmF (mR ii i) (kpO (kd i) (ii 22 j 0)) (ii 22 j 0))) 26 0 (116 + 3 * j) A) 26 0 (116 + 3 * j + 2) (nI q)) kd := K1.tr (smK_t (fun a p _ => nt a p))
    refine two_of hc hm (by decide) (by decide) (Rep_S R K ⟨n, d, ?_⟩) K.one K1.one
    rw [nt 17 (by decide), nt 20 (by decide), nt 21 (by decide), nt 22 (by decide), t1 17 (by decide) (by decide), t1 20 (by decide) (by decide)]
    have S1 : ShR (ii 17 0) (ii 20) (i1 21) (ii 22) kd 0 0 (wR ii i 12 (rmF (mR ii i) (kpO (kd i) (ii 22 j 0)) (ii 22 j 0)) 26 0) n d := by
      refine ShR_row S hi (fun z hz e t ht => ?_) (fun k hk q => wR_out (by omega)) (fun t ht => ?_)
      · rw [← hi1, up3_tag (by decide), up3_tag (by decide), wA_ne (fun q => e q.2)]
      · obtain ⟨x, hx, r1, r2⟩ := S.fr hi ht
        rw [wR_lt ht, ← hi1, up3_tag (by decide), up3_tag (by decide), wA_lt ht, ez]
        unfold rmF
        rw [show mR ii i t = nI x from r1, r2]
        split
        · exact bth.self hx
        · split
          · exact bth.self hx
          · exact bth.self hz
    have S2 : ShR (ii 17 0) (ii 20) (i1 21) (up3 ii 22 j 0 A 22) kd 0 0 (up3 (wR ii i 12 (rmF (mR ii i) (kpO (kd i) (ii 22 j 0)) (ii 22 j 0))) 26 0 (116 + 3 * j) A 26 0) n d := by
      refine ShR_hd S1 hj (show (0 : Nat) < 3 by decide) (fun z hz c hc e => ?_) (fun k hk q => up3_pl (by omega)) ?_
      · unfold up3
        rw [if_neg (fun q => e ⟨q.2.1, q.2.2⟩)]
      · show bth (up3 (wR ii i 12 (rmF (mR ii i) (kpO (kd i) (ii 22 j 0)) (ii 22 j 0))) 26 0 (116 + 3 * j) A 26 0 (116 + 3 * j)) (up3 ii 22 j 0 A 22 j 0) 4095
        rw [up3_rd, up3_rd, eA]
        exact bth.self (by omega)
    refine ShR_hd S2 hj (show (2 : Nat) < 3 by decide) (fun z hz c hc e => ?_) (fun k hk q => ?_) ?_
    · rw [← hi1]
      have h22 : ∀ (f g : Nat → Nat → Nat → Int32), f 22 = g 22 → up3 (up3 f 22 j 0 A) 22 j 2 (nI q) 22 z c = up3 g 22 j 0 A 22 z c := fun f g eq => by
        unfold up3
        rw [if_neg (fun y => e ⟨y.2.1, y.2.2⟩), eq]
      exact h22 _ _ (wA_tg (by decide))
    · rw [up3_pl q]
      by_cases e : k = 116 + 3 * j
      · rw [e, up3_rd, up3_rd]
      · rw [up3_pl e, up3_pl e]
        unfold wR
        rw [e26]
    · rw [up3_rd, ← hi1, up3_rd]
      exact bth.self hq
  · exact two_fail R (c_tries0 v w (by rw [S.c2, S.c3]; exact h)) (m_tries0 v w S.n8 (by rw [fnd_tag (by decide)]; exact S.m2) S.d6 (by rw [fnd_tag (by decide)]; exact S.m3) h) (by decide) (by decide)
theorem tw_redeem (R : Rep ii jj kd) (v w : Int32) : Two l X 87 168 [vI v, vI w] ii jj kd := by
  obtain ⟨n, d, S⟩ := R.1
  by_cases h : (¬ v < 0 ∧ ¬ nI n ≤ v) ∧ ¬ w < 0 ∧ ¬ nI d ≤ w
  · obtain ⟨i, hi, rfl⟩ := in_of (by have := S.n8; omega) rfl h.1
    obtain ⟨j, hj, rfl⟩ := in_of (by have := S.d6; omega) rfl h.2
    have n8 := S.n8
    have d6 := S.d6
    obtain ⟨p, hp, e1, e2⟩ := S.pl hi
    obtain ⟨q, hq, e3, e4⟩ := S.hd hj (show (2 : Nat) < 3 by decide)
    have hq : q ≤ 9999 := hq
    have rd : ∀ i1 : Nat → Nat → Nat → Int32, i1 26 = ii 26 → rdL i1 i j = nI q - nI p := fun i1 e => by
      unfold rdL
      rw [e, e3, e1]
    by_cases hpq : p ≤ q
    · have el : nI q - nI p = nI (q - p) := pk_sub hpq
      have e26 : up3 (up3 ii 22 j 2 (nI q - nI p)) 20 i 2 0 26 = ii 26 := by rw [up3_tag (by decide), up3_tag (by decide)]
      have hc := c_redeem (l := l) (X := X) (ii := ii) (jj := jj) (kd := kd) i n j d hi n8 S.c2 hj d6 S.c3 (by rw [e2, e4]; exact nI_le hpq (by omega))
      rw [e2, e4] at hc
      have hm := m_redeem (l := l) (X := X) (ii := up3 (up3 ii 22 j 2 (nI q - nI p)) 20 i 2 0) (jj := jj) (kd := kd) i n j d hi n8 (by rw [e26]; exact S.m2) hj d6 (by rw [e26]; exact S.m3) (by rw [rd _ e26, el]; exact nI_pos (by omega))
      rw [rd _ e26] at hm
      have K1 : smK ii kd (up3 (up3 ii 22 j 2 (nI q - nI p)) 20 i 2 0) kd := (smK_up (by omega)).tr (smK_up (by omega))
      have K : smK ii kd (up3 (up3 (up3 (up3 ii 22 j 2 (nI q - nI p)) 20 i 2 0) 26 0 (116 + 3 * j + 2) (nI q - nI p)) 26 0 (5 + 14 * i) 0) kd := K1.tr (smK_t (fun a p _ => by rw [up3_tag p, up3_tag p]))
      refine two_of hc hm (by decide) (by decide) (Rep_S R K ⟨n, d, ?_⟩) K.one (by rw [up3_tag (by decide), up3_tag (by decide)])
      have nt : ∀ a, a ≠ 26 → up3 (up3 (up3 (up3 ii 22 j 2 (nI q - nI p)) 20 i 2 0) 26 0 (116 + 3 * j + 2) (nI q - nI p)) 26 0 (5 + 14 * i) 0 a = up3 (up3 ii 22 j 2 (nI q - nI p)) 20 i 2 0 a := fun a p => by rw [up3_tag p, up3_tag p]
      rw [nt 17 (by decide), nt 20 (by decide), nt 21 (by decide), nt 22 (by decide), up3_tag (show (17 : Nat) ≠ 20 by decide), up3_tag (show (17 : Nat) ≠ 22 by decide), up3_tag (show (21 : Nat) ≠ 20 by decide), up3_tag (show (21 : Nat) ≠ 22 by decide), up3_tag (show (22 : Nat) ≠ 20 by decide)]
      refine ShR_pl (P := ii 20) (m := up3 ii 26 0 (116 + 3 * j + 2) (nI q - nI p) 26 0) (ShR_hd (H := ii 22) (m := ii 26 0) S hj (show (2 : Nat) < 3 by decide) (fun z hz c hc e => ?_) (fun k hk q => up3_pl q) ?_) hi (fun z hz e => ?_) (fun k hk q => ?_) ?_
      · unfold up3
        rw [if_neg (fun q => e ⟨q.2.1, q.2.2⟩)]
      · rw [up3_rd, up3_rd, el]
        exact bth.self (show q - p ≤ 9999 by omega)
      · rw [up3_num e, up3_tag (by decide)]
      · rw [up3_pl q]
        by_cases z : k = 116 + 3 * j + 2
        · rw [z, up3_rd, up3_rd]
        · rw [up3_pl z, up3_pl z, up3_tag (by decide), up3_tag (by decide)]
      · rw [up3_rd, up3_rd]
        exact bth.self (x := 0) (by decide)
    · have lt : nI q - nI p < 0 := pk_sneg (by omega) (by omega)
      exact two_fail R (c_redeem1 i n j d hi n8 S.c2 hj d6 S.c3 (by rw [e2, e4]; exact nI_ge (by omega) (by omega))) (m_redeem1 i n j d hi n8 (by rw [fnd_tag (by decide)]; exact S.m2) hj d6 (by rw [fnd_tag (by decide)]; exact S.m3) (by rw [rd _ (fnd_tag (by decide))]; exact lt)) (by decide) (by decide)
  · exact two_fail R (c_redeem0 v w (by rw [S.c2, S.c3]; exact h)) (m_redeem0 v w S.n8 (by rw [fnd_tag (by decide)]; exact S.m2) S.d6 (by rw [fnd_tag (by decide)]; exact S.m3) h) (by decide) (by decide)
theorem tw_blend (R : Rep ii jj kd) (v w : Int32) : Two l X 88 169 [vI v, vI w] ii jj kd := by
  obtain ⟨n, d, S⟩ := R.1
  have n8 := S.n8
  by_cases h : (¬ v < 0 ∧ ¬ nI n ≤ v) ∧ (¬ w < 0 ∧ ¬ nI n ≤ w) ∧ v ≠ w
  · obtain ⟨i, hi, rfl⟩ := in_of (by omega) rfl h.1
    obtain ⟨j, hj, rfl⟩ := in_of (by omega) rfl h.2.1
    have hij : i ≠ j := fun e => h.2.2 (by rw [e])
    have e26 : wA ii 21 i 12 (fun t => (ii 21 i t + ii 21 j t) / 2) 26 = ii 26 := wA_tg (by decide)
    have hm := m_blend (l := l) (X := X) (ii := wA ii 21 i 12 (fun t => (ii 21 i t + ii 21 j t) / 2)) (jj := jj) (kd := kd) i j n hi hj hij n8 (by rw [e26]; exact S.m2)
    rw [mR_e e26] at hm
    have ebl : eqR (blF (mR ii i) (mR ii j)) (fun t => (ii 21 i t + ii 21 j t) / 2) := fun t ht => by
      unfold blF
      rw [(S.row hi) t ht, (S.row hj) t ht]
    have ea : hF (mR (wR (wA ii 21 i 12 (fun t => (ii 21 i t + ii 21 j t) / 2)) i 12 (blF (mR ii i) (mR ii j))) i) 1 12 = hF (wA ii 21 i 12 (fun t => (ii 21 i t + ii 21 j t) / 2) 21 i) 1 12 := hF_c (mR_wR.tr (ebl.tr wA_at.sy)) 12 (by decide)
    rw [ea] at hm
    have K : smK ii kd (wR (wA ii 21 i 12 (fun t => (ii 21 i t + ii 21 j t) / 2)) i 12 (blF (mR ii i) (mR ii j))) kd := (smK_wA (by omega)).tr (smK_t (fun a p _ => wR_tag p))
    refine two_of (c_blend i j n hi hj hij n8 S.c2) hm (by decide) (by decide) (Rep_S R K ⟨n, d, ?_⟩) K.one (wA_tg (by decide))
    rw [wR_tag (show (17 : Nat) ≠ 26 by decide), wR_tag (show (20 : Nat) ≠ 26 by decide), wR_tag (show (21 : Nat) ≠ 26 by decide), wR_tag (show (22 : Nat) ≠ 26 by decide), wA_tg (show (17 : Nat) ≠ 21 by decide), wA_tg (show (20 : Nat) ≠ 21 by decide), wA_tg (show (22 : Nat) ≠ 21 by decide)]
    refine ShR_row S hi (fun z hz e t ht => wA_ne (fun q => e q.2)) (fun k hk q => ?_) (fun t ht => ?_)
    · rw [wR_out (by omega), e26]
    · obtain ⟨x, hx, q1, q2⟩ := S.fr hi ht
      obtain ⟨y, hy, q3, q4⟩ := S.fr hj ht
      have ed : (nI x + nI y) / 2 = nI ((x + y) / 2) := by rw [nI_add]; exact pk_div (by omega) (by decide) (by decide)
      refine bth.of (x := (x + y) / 2) ?_ ?_ (by omega)
      · rw [wR_lt ht]
        unfold blF mR
        rw [q1, q3, ed]
      · rw [wA_lt ht, q2, q4, ed]
  · exact two_fail R (c_blend0 v w (by rw [S.c2]; exact h)) (m_blend0 v w S.n8 (by rw [fnd_tag (by decide)]; exact S.m2) h) (by decide) (by decide)
theorem tw_stack (R : Rep ii jj kd) (v w : Int32) : Two l X 89 170 [vI v, vI w] ii jj kd := by
  obtain ⟨n, d, S⟩ := R.1
  have n8 := S.n8
  by_cases h : (¬ v < 0 ∧ ¬ nI n ≤ v) ∧ (¬ w < 0 ∧ ¬ nI n ≤ w) ∧ v ≠ w
  · obtain ⟨i, hi, rfl⟩ := in_of (by omega) rfl h.1
    obtain ⟨j, hj, rfl⟩ := in_of (by omega) rfl h.2.1
    have hij : i ≠ j := fun e => h.2.2 (by rw [e])
    have hm := m_stack (l := l) (X := X) (ii := ii) (jj := jj) (kd := kd) i j n hi hj hij n8 S.m2
    have hx : sT (hF (ii 21 i) 1 12 ^^^ hF (ii 21 j) 1 12) := by
      have h1 := sT_hF (f := ii 21 i) (a := 1) 12 (by decide)
      have h2 := sT_hF (f := ii 21 j) (a := 1) 12 (by decide)
      unfold sT at *
      refine i32_ext (fun b hb => ?_)
      have g1 := congrArg (fun z => z.toBitVec.getLsbD b) h1
      have g2 := congrArg (fun z => z.toBitVec.getLsbD b) h2
      simp only [Int32.toBitVec_and, Int32.toBitVec_xor, BitVec.getLsbD_and, BitVec.getLsbD_xor] at *
      revert g1 g2
      cases (hF (ii 21 i) 1 12).toBitVec.getLsbD b <;> cases (hF (ii 21 j) 1 12).toBitVec.getLsbD b <;> simp
    obtain ⟨a, ha, ex⟩ := sT_of hx
    rw [hF_c (S.row hi) 12 (by decide), hF_c (S.row hj) 12 (by decide), ex, stM_all a ha, ← ex] at hm
    exact two_of (c_stack i j n hi hj hij n8 S.c2) hm (by decide) (by decide) R rfl rfl
  · exact two_fail R (c_stack0 v w (by rw [S.c2]; exact h)) (m_stack0 v w S.n8 (by rw [fnd_tag (by decide)]; exact S.m2) h) (by decide) (by decide)
end T1
