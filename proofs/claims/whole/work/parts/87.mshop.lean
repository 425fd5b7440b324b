/-! THE TEXT: the model's shop -/
section MI
variable {l : Launch} {X : FX} {ii : Nat → Nat → Nat → Int32} {jj : Nat → Nat → Nat → Int64} {kd : Nat → Nat} {z : Nat} {β : Nat → Nat}
/-- counts of a row -/
def cnR (m : Nat → Int32) (n d : Nat) : Prop := m 2 = nI n ∧ m 3 = nI d ∧ n ≤ 8 ∧ d ≤ 6
theorem rowH_2 {m : Nat → Int32} {n : Nat} {k p a : Int32} : rowH m n k p a 2 = nI (n + 1) := by
  unfold rowH nHm
  rw [wR_out (by omega), up3_pl (by omega), up3_pl (by omega), up3_rd]
theorem rowH_ne {m : Nat → Int32} {n c : Nat} {k p a : Int32} (h2 : c ≠ 2) (h : c < 4 + 14 * n ∨ 18 + 14 * n ≤ c) : rowH m n k p a c = m c := by
  unfold rowH nHm
  rw [wR_out (by omega), up3_pl (by omega), up3_pl (by omega), up3_pl h2]
theorem rowD_3 {m : Nat → Int32} {n : Nat} {a b : Int32} : rowD m n a b 3 = nI (n + 1) := by
  unfold rowD nDm
  rw [up3_pl (by omega), up3_pl (by omega), up3_pl (by omega), up3_rd]
theorem rowD_ne {m : Nat → Int32} {n c : Nat} {a b : Int32} (h2 : c ≠ 3) (h : c < 116 + 3 * n ∨ 119 + 3 * n ≤ c) : rowD m n a b c = m c := by
  unfold rowD nDm
  rw [up3_pl (by omega), up3_pl (by omega), up3_pl (by omega), up3_pl h2]
theorem rowM_ne {m : Nat → Int32} {c : Nat} {v : Int32} (h : c ≠ 1) : rowM m v c = m c := up3_pl h
theorem itm_cn {s n d : Nat} {m : Nat → Int32} (h : cnR m n d) : cnR (itm z β s m n d).2.2.1 (itm z β s m n d).2.2.2.1 (itm z β s m n d).2.2.2.2 := by
  obtain ⟨h1, h2, h3, h4⟩ := h
  unfold itm
  split
  · unfold hatI
    split
    · exact ⟨h1, h2, h3, h4⟩
    · next e8 =>
      cases (prh z β 6 4095 0 (nxt z β s)).1
      · exact ⟨h1, h2, h3, h4⟩
      · cases (prh z β 7 99 5 (prh z β 6 4095 0 (nxt z β s)).2.1).1
        · exact ⟨h1, h2, h3, h4⟩
        · exact ⟨rowH_2, (rowH_ne (by decide) (by omega)).trans h2, by show n + 1 ≤ 8; omega, h4⟩
  · split
    · unfold headI
      split
      · exact ⟨h1, h2, h3, h4⟩
      · next e6 =>
        cases (prh z β 9 4095 0 (nxt z β s)).1
        · exact ⟨h1, h2, h3, h4⟩
        · rw [cond_true]
          split
          · exact ⟨(rowD_ne (by decide) (by omega)).trans h1, rowD_3, h3, by show d + 1 ≤ 6; omega⟩
          · exact ⟨(rowD_ne (by decide) (by omega)).trans h1, rowD_3, h3, by show d + 1 ≤ 6; omega⟩
    · split
      · exact ⟨(rowM_ne (v := 1) (by decide)).trans h1, (rowM_ne (v := 1) (by decide)).trans h2, h3, h4⟩
      · split
        · exact ⟨(rowM_ne (v := 0) (by decide)).trans h1, (rowM_ne (v := 0) (by decide)).trans h2, h3, h4⟩
        · exact ⟨h1, h2, h3, h4⟩
/-- the answer to a text -/
def anT (ok : Bool) (s i : Nat) : Int32 := cond ok (nI i) (-1 - nI s)
/-- what the model's shop leaves -/
def shE (ii i2 : Nat → Nat → Nat → Int32) (ok : Bool) (m : Nat → Int32) : Prop := (∀ a, a ≠ 25 → a ≠ 26 → a ≠ 28 → i2 a = ii a) ∧ i2 25 0 6 = 0 ∧ i2 25 0 3 = ii 25 0 3 ∧ ∀ k, k < 134 → i2 26 0 k = cond ok (m k) (ii 26 0 k)
theorem upA_tg {f : Nat → Int32} {a : Nat} (h : a ≠ 26) : upA ii 26 0 f a = ii a := by
  funext b c
  unfold upA
  rw [if_neg (fun q => h q.1)]
theorem upA_rd {f : Nat → Int32} : upA ii 26 0 f 26 0 = f := by
  funext c
  unfold upA
  rw [if_pos ⟨rfl, rfl⟩]
theorem upA_uA {f g : Nat → Int32} : upA (upA ii 26 0 f) 26 0 g = upA ii 26 0 g := by
  funext a b c
  unfold upA
  split <;> rfl
theorem m_shopE (s i : Nat) (b : Bool) (m : Nat → Int32) : ∃ i2, GB l X 10 0 0 203 (43, [some (vR 25 0), some (vI (nI i))], [], (mS z β (upA (wA ii 28 0 134 (ii 26 0)) 26 0 m) s b, jj, mj_rk kd, 108)) (some (vI (anT (!b && decide (mtk z β s = 22)) s i))) (i2, jj, mj_rk kd, 108) ∧ shE ii i2 (!b && decide (mtk z β s = 22)) m := by
  have m24 := mtk_lt (z := z) (β := β) (s := s)
  generalize hi0 : upA (wA ii 28 0 134 (ii 26 0)) 26 0 m = i0
  have t0 : ∀ a, a ≠ 26 → a ≠ 28 → i0 a = ii a := fun a h1 h2 => by rw [← hi0, upA_tg h1, wA_tg h2]
  have bad : (!b && decide (mtk z β s = 22)) = false → ∃ i2, GB l X 10 0 0 203 (60, [some (vR 25 0), some (vI (nI i))], [vR 25 0], (mS z β i0 s b, jj, mj_rk kd, 108)) (some (vI (anT (!b && decide (mtk z β s = 22)) s i))) (i2, jj, mj_rk kd, 108) ∧ shE ii i2 (!b && decide (mtk z β s = 22)) m := fun h => by
    rw [h]
    refine ⟨wA (mS z β (up3 i0 25 0 6 0) s true) 26 0 134 (mS z β (up3 i0 25 0 6 0) s true 28 0), ?_, ?_⟩
    · refine GB.go 68 rfl (aB1 (by decide) aB0) ?_
      rw [show up3 (mS z β i0 s b) 25 0 11 1 = mS z β i0 s true from mF_u11]
      refine GB.go 73 rfl aB0 ?_
      rw [show up3 (mS z β i0 s true) 25 0 6 0 = mS z β (up3 i0 25 0 6 0) s true from mF_6]
      refine GB.go 9999 rfl aB0 ?_
      rw [show mS z β (up3 i0 25 0 6 0) s true 25 0 11 = bI true from mF_11]
      refine GB.br rfl rfl (fun c => ?_) (fun c => ?_)
      · exact absurd c (by decide)
      · refine GB.go 9999 rfl aB0 ?_
        refine GB.cal rfl rfl (by decide) (m_putsBack) ?_
        refine GB.go 91 rfl aB0 ?_
        rw [wA_tg (by decide), show mS z β (up3 i0 25 0 6 0) s true 25 0 8 = nI s from mF_8]
        refine GB.go 9999 rfl aB0 ?_
        exact GB.ret rfl rfl aB0
    · refine ⟨fun a h1 h2 h3 => ?_, ?_, ?_, fun k hk => ?_⟩
      · rw [wA_tg h2]
        unfold mS
        rw [mF_tag h1, up3_tag h1, t0 a h2 h3]
      · rw [wA_tg (by decide)]
        unfold mS
        rw [mF_lo (by decide), up3_rd]
      · rw [wA_tg (by decide)]
        unfold mS
        rw [mF_lo (by decide), up3_pl (by decide), t0 25 (by decide) (by decide)]
      · rw [wA_lt hk]
        unfold mS
        rw [mF_tag (by decide), up3_tag (by decide), ← hi0, upA_tg (by decide), wA_lt hk]
        rfl
  by_cases hb : b = true
  · obtain ⟨i2, G, E⟩ := bad (by rw [hb]; rfl)
    refine ⟨i2, ?_, E⟩
    refine GB.go 9999 rfl aB0 ?_
    rw [show mS z β i0 s b 25 0 11 = bI b from mF_11]
    refine GB.br rfl rfl (fun c => ?_) (fun c => ?_)
    · rw [hb] at c
      exact absurd c (by decide)
    · exact G
  · have hb : b = false := by
      cases b
      · rfl
      · exact absurd rfl hb
    by_cases h22 : mtk z β s = 22
    · refine ⟨mS z β (up3 i0 25 0 6 0) s false, ?_, ?_⟩
      · rw [show (!b && decide (mtk z β s = 22)) = true by rw [hb, decide_eq_true h22]; rfl]
        refine GB.go 9999 rfl aB0 ?_
        rw [show mS z β i0 s b 25 0 11 = bI b from mF_11]
        refine GB.br rfl rfl (fun c => ?_) (fun c => ?_)
        · refine GB.go 9999 rfl aB0 ?_
          rw [show mS z β i0 s b 25 0 7 = nI (mtk z β s) from mF_7]
          refine GB.br rfl rfl (fun c2 => ?_) (fun c2 => ?_)
          · refine GB.go 68 rfl (aB1 (by decide) aB0) ?_
            rw [show up3 (mS z β i0 s b) 25 0 11 0 = mS z β i0 s false from mF_u11]
            refine GB.go 73 rfl aB0 ?_
            rw [show up3 (mS z β i0 s false) 25 0 6 0 = mS z β (up3 i0 25 0 6 0) s false from mF_6]
            refine GB.go 9999 rfl aB0 ?_
            rw [show mS z β (up3 i0 25 0 6 0) s false 25 0 11 = bI false from mF_11]
            refine GB.br rfl rfl (fun c3 => ?_) (fun c3 => ?_)
            · refine GB.go 9999 rfl aB0 ?_
              exact GB.ret rfl rfl aB0
            · exact absurd rfl c3
          · exact absurd (by rw [h22]; rfl) c2
        · exact absurd (by rw [hb]; rfl) c
      · rw [show (!b && decide (mtk z β s = 22)) = true by rw [hb, decide_eq_true h22]; rfl]
        refine ⟨fun a h1 h2 h3 => ?_, ?_, ?_, fun k hk => ?_⟩
        · unfold mS
          rw [mF_tag h1, up3_tag h1, t0 a h2 h3]
        · unfold mS
          rw [mF_lo (by decide), up3_rd]
        · unfold mS
          rw [mF_lo (by decide), up3_pl (by decide), t0 25 (by decide) (by decide)]
        · unfold mS
          rw [mF_tag (by decide), up3_tag (by decide), ← hi0, upA_rd]
          rfl
    · obtain ⟨i2, G, E⟩ := bad (by rw [hb, decide_eq_false h22]; rfl)
      refine ⟨i2, ?_, E⟩
      refine GB.go 9999 rfl aB0 ?_
      rw [show mS z β i0 s b 25 0 11 = bI b from mF_11]
      refine GB.br rfl rfl (fun c => ?_) (fun c => ?_)
      · refine GB.go 9999 rfl aB0 ?_
        rw [show mS z β i0 s b 25 0 7 = nI (mtk z β s) from mF_7]
        refine GB.br rfl rfl (fun c2 => ?_) (fun c2 => ?_)
        · exact absurd ((nI_eq (b := 22) (by omega) (by decide)).mp c2) h22
        · exact G
      · exact absurd (by rw [hb]; rfl) c
theorem m_shopL (T : TM ii z β) : ∀ (f s : Nat) (m : Nat → Int32) (n d i : Nat), z < s + f + 1 → s ≤ z → cnR m n d → ∃ i2, GB l X 10 0 0 203 (24, [some (vR 25 0), some (vI (nI (i + 1)))], [], (mS z β (upA (wA ii 28 0 134 (ii 26 0)) 26 0 (itm z β s m n d).2.2.1) (itm z β s m n d).2.1 (!(itm z β s m n d).1), jj, mj_rk kd, 108)) (some (vI (anT (its z β (f + 1) s m n d i).1 (its z β (f + 1) s m n d i).2.1 (its z β (f + 1) s m n d i).2.2.2.2.2))) (i2, jj, mj_rk kd, 108) ∧ shE ii i2 (its z β (f + 1) s m n d i).1 (its z β (f + 1) s m n d i).2.2.1
  | f, s, m, n, d, i, hf, hs, hc => by
    have hl := itm_le (β := β) (m := m) (n := n) (d := d) hs
    have hg := itm_gt (β := β) (m := m) (n := n) (d := d) hs
    have hcn := itm_cn (z := z) (β := β) (s := s) hc
    have T2 : TM (upA (wA ii 28 0 134 (ii 26 0)) 26 0 (itm z β s m n d).2.2.1) z β := by
      refine TM_A ?_
      unfold TM
      rw [wA_tg (by decide), wA_tg (by decide)]
      exact T
    unfold its
    cases ok : (itm z β s m n d).1 with
    | false =>
      obtain ⟨i2, G, E⟩ := m_shopE (l := l) (X := X) (ii := ii) (jj := jj) (kd := kd) (z := z) (β := β) (itm z β s m n d).2.1 (i + 1) true (itm z β s m n d).2.2.1
      refine ⟨i2, ?_, E⟩
      refine GB.go 9999 rfl aB0 ?_
      refine GB.cal rfl rfl (by decide) (m_pass0 (w := 21) (by decide) (Or.inl rfl)) ?_
      refine GB.br rfl rfl (fun c => ?_) (fun c => ?_)
      · exact G
      · exact absurd rfl c
    | true =>
      rw [cond_true]
      have hg := hg ok
      by_cases h21 : mtk z β (itm z β s m n d).2.1 = 21
      · rw [if_pos h21]
        match f, hf with
        | 0, hf => exact absurd hl.1 (by omega)
        | f + 1, hf =>
          have n2 := nxt_gt (z := z) (β := β) (s := (itm z β s m n d).2.1) (by rw [h21]; decide)
          obtain ⟨i2, G, E⟩ := m_shopL T f (nxt z β (itm z β s m n d).2.1) (itm z β s m n d).2.2.1 (itm z β s m n d).2.2.2.1 (itm z β s m n d).2.2.2.2 (i + 1) (by omega) (nxt_le hl.1) hcn
          refine ⟨i2, ?_, E⟩
          have hi := m_item (l := l) (X := X) (jj := jj) (kd := kd) T2 (nxt_le (β := β) hl.1) hcn.2.2.1 hcn.2.2.2 (by rw [upA_rd]; exact hcn.1) (by rw [upA_rd]; exact hcn.2.1)
          rw [upA_rd, upA_uA] at hi
          rw [nI_succ (i + 1)] at G
          refine GB.go 9999 rfl aB0 ?_
          refine GB.cal rfl rfl (by decide) (m_pass1 T2 hl.1 h21) ?_
          refine GB.br rfl rfl (fun c => ?_) (fun c => ?_)
          · exact absurd c (by decide)
          · refine GB.go 9999 rfl aB0 ?_
            refine GB.cal rfl rfl (by decide) (hi) ?_
            refine GB.go 24 rfl aB0 ?_
            exact G
      · rw [if_neg h21]
        obtain ⟨i2, G, E⟩ := m_shopE (l := l) (X := X) (ii := ii) (jj := jj) (kd := kd) (z := z) (β := β) (itm z β s m n d).2.1 (i + 1) false (itm z β s m n d).2.2.1
        have goal : ∀ R : Bool, (!false && decide (mtk z β (itm z β s m n d).2.1 = 22)) = R → ∃ i2, GB l X 10 0 0 203 (24, [some (vR 25 0), some (vI (nI (i + 1)))], [], (mS z β (upA (wA ii 28 0 134 (ii 26 0)) 26 0 (itm z β s m n d).2.2.1) (itm z β s m n d).2.1 (!true), jj, mj_rk kd, 108)) (some (vI (anT R (itm z β s m n d).2.1 (i + 1)))) (i2, jj, mj_rk kd, 108) ∧ shE ii i2 R (itm z β s m n d).2.2.1 := fun R hR => by
          rw [hR] at G E
          refine ⟨i2, ?_, E⟩
          refine GB.go 9999 rfl aB0 ?_
          refine GB.cal rfl rfl (by decide) (m_pass0 (w := 21) (by decide) (Or.inr h21)) ?_
          refine GB.br rfl rfl (fun c => ?_) (fun c => ?_)
          · exact G
          · exact absurd rfl c
        by_cases h22 : mtk z β (itm z β s m n d).2.1 = 22
        · rw [if_pos h22]
          exact goal true (by rw [decide_eq_true h22]; rfl)
        · rw [if_neg h22]
          exact goal false (by rw [decide_eq_false h22]; rfl)
theorem m_shop (T : TM ii z β) {n d : Nat} (hc : cnR (ii 26 0) n d) : ∃ i2, SK l X 10 203 [vR 25 0] (ii, jj, mj_rk kd, 108) (some (vI (anT (its z β (z + 1) (skp z β 0) (ii 26 0) n d 0).1 (its z β (z + 1) (skp z β 0) (ii 26 0) n d 0).2.1 (its z β (z + 1) (skp z β 0) (ii 26 0) n d 0).2.2.2.2.2))) (i2, jj, mj_rk kd, 108) ∧ shE ii i2 (its z β (z + 1) (skp z β 0) (ii 26 0) n d 0).1 (its z β (z + 1) (skp z β 0) (ii 26 0) n d 0).2.2.1 := by
  have hs : skp z β 0 ≤ z := skF_le z 0 (Nat.zero_le _)
  obtain ⟨i2, G, E⟩ := m_shopL (l := l) (X := X) (jj := jj) (kd := kd) T z (skp z β 0) (ii 26 0) n d 0 (by omega) hs hc
  refine ⟨i2, ?_, E⟩
  have T2 : TM (wA ii 28 0 134 (ii 26 0)) z β := by
    unfold TM
    rw [wA_tg (by decide), wA_tg (by decide)]
    exact T
  have e26 : wA ii 28 0 134 (ii 26 0) 26 = ii 26 := wA_tg (by decide)
  have hi := m_item (l := l) (X := X) (jj := jj) (kd := kd) T2 hs hc.2.2.1 hc.2.2.2 (by rw [e26]; exact hc.1) (by rw [e26]; exact hc.2.1)
  rw [e26] at hi
  refine SK.of (by decide) (by decide) rfl ?_
  refine GB.go 9999 rfl aB0 ?_
  refine GB.cal rfl rfl (by decide) (m_thinks) ?_
  refine GB.go 9 rfl aB0 ?_
  refine GB.go 14 rfl (aB1 (by decide) aB0) ?_
  generalize wA ii 28 0 134 (ii 26 0) = ti at *
  refine GB.eqv (s1 := (14, [some (vR 25 0), none], [], (mF ti (ti 25 0 7) (ti 25 0 8) (nI 0) (ti 25 0 10) (bI false), jj, mj_rk kd, 108))) (by
    rw [show up3 (up3 ti 25 0 9 0) 25 0 11 0 = mF ti (ti 25 0 7) (ti 25 0 8) (nI 0) (ti 25 0 10) (bI false) by
      have q := mF_id (ii := ti)
      rw [← mF_u11 (w := ti 25 0 11), ← mF_u9 (e := ti 25 0 9), q]
      rfl]
    rfl) ?_
  refine GB.go 9999 rfl aB0 ?_
  refine GB.cal rfl rfl (by decide) (m_reads T2 0 (Nat.zero_le _)) ?_
  refine GB.go 9999 rfl aB0 ?_
  refine GB.cal rfl rfl (by decide) (hi) ?_
  refine GB.go 24 rfl aB0 ?_
  exact G
end MI
