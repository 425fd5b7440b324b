/-! THE TEXT: the model's items -/
theorem mtk_lt {z : Nat} {β : Nat → Nat} {s : Nat} : mtk z β s < 24 := by
  unfold mtk
  split
  · decide
  · unfold wdX
    cases h : fstK (nmE β s (tke z β s)) 13 0 with
    | some k =>
      have := (fstK_some 13 0 k h).2.2
      show k < 24
      omega
    | none => decide
  · decide
  · decide
  · decide
theorem mvl_le {z : Nat} {β : Nat → Nat} {s : Nat} : mvl z β s ≤ 99999 := by
  unfold mvl
  split
  · next e => exact vl_b _ (fun i hi => (tkc_2 ((tke_all (Or.inr e) (show s ≤ s + i by omega) (by omega)).trans e)).2.2)
  · exact Nat.zero_le _
/-- the model stands on the token at s -/
def mS (z : Nat) (β : Nat → Nat) (ii : Nat → Nat → Nat → Int32) (s : Nat) (b : Bool) : Nat → Nat → Nat → Int32 := mF ii (nI (mtk z β s)) (nI s) (nI (tke z β s)) (nI (mvl z β s)) (bI b)
theorem mF_wR {ii : Nat → Nat → Nat → Int32} {t s e v w : Int32} {i n : Nat} {F : Nat → Int32} : wR (mF ii t s e v w) i n F = mF (wR ii i n F) t s e v w := by
  funext a b c
  unfold wR mF
  by_cases q : a = 26 ∧ b = 0 ∧ 6 + 14 * i ≤ c ∧ c < 6 + 14 * i + n
  · rw [if_pos q, if_neg (by omega), if_neg (by omega), if_neg (by omega), if_neg (by omega), if_neg (by omega)]
    exact (if_pos q).symm
  · simp only [if_neg q]
section MI
variable {l : Launch} {X : FX} {ii : Nat → Nat → Nat → Int32} {jj : Nat → Nat → Nat → Int64} {kd : Nat → Nat} {z : Nat} {β : Nat → Nat}
theorem mS_nHm {s n : Nat} {b : Bool} {k p a : Int32} : nHm (mS z β ii s b) n k p a = mS z β (upA ii 26 0 (rowH (ii 26 0) n k p a)) s b := by
  rw [show upA ii 26 0 (rowH (ii 26 0) n k p a) = nHm ii n k p a by
    funext x y c
    unfold upA
    split
    · next h => rw [h.1, h.2]; rfl
    · next h =>
      unfold nHm wR up3
      simp only
      rw [if_neg (fun q => h ⟨q.1, q.2.1⟩), if_neg (fun q => h ⟨q.1, q.2.1⟩), if_neg (fun q => h ⟨q.1, q.2.1⟩), if_neg (fun q => h ⟨q.1, q.2.1⟩)]]
  unfold mS nHm
  rw [mF_up (by decide), mF_up (by decide), mF_up (by decide), mF_wR]
theorem mS_nDm {s n : Nat} {b : Bool} {a v : Int32} : nDm (mS z β ii s b) n a v = mS z β (upA ii 26 0 (rowD (ii 26 0) n a v)) s b := by
  rw [show upA ii 26 0 (rowD (ii 26 0) n a v) = nDm ii n a v by
    funext x y c
    unfold upA
    split
    · next h => rw [h.1, h.2]; rfl
    · next h =>
      unfold nDm up3
      rw [if_neg (fun q => h ⟨q.1, q.2.1⟩), if_neg (fun q => h ⟨q.1, q.2.1⟩), if_neg (fun q => h ⟨q.1, q.2.1⟩), if_neg (fun q => h ⟨q.1, q.2.1⟩)]]
  unfold mS nDm
  rw [mF_up (by decide), mF_up (by decide), mF_up (by decide), mF_up (by decide)]
theorem mS_rowM {s : Nat} {b : Bool} {v : Int32} : up3 (mS z β ii s b) 26 0 1 v = mS z β (upA ii 26 0 (rowM (ii 26 0) v)) s b := by
  rw [show upA ii 26 0 (rowM (ii 26 0) v) = up3 ii 26 0 1 v by
    funext x y c
    unfold upA
    split
    · next h => rw [h.1, h.2]; rfl
    · next h =>
      unfold up3
      rw [if_neg (fun q => h ⟨q.1, q.2.1⟩)]]
  unfold mS
  rw [mF_up (by decide)]
theorem upA_id : upA ii 26 0 (ii 26 0) = ii := by
  funext x y c
  unfold upA
  split
  · next h => rw [h.1, h.2]
  · rfl
theorem TM_A {f : Nat → Int32} (T : TM ii z β) : TM (upA ii 26 0 f) z β := by
  have e : ∀ a, a ≠ 26 → upA ii 26 0 f a = ii a := fun a h => by
    funext b c
    unfold upA
    rw [if_neg (fun q => h q.1)]
  unfold TM
  rw [e 25 (by decide), e 30 (by decide)]
  exact T
theorem m_rd (T : TM ii z β) {s : Nat} (hs : s ≤ z) {b : Bool} : SK l X 4 196 [vR 25 0] (mS z β ii s b, jj, mj_rk kd, 108) none (mS z β ii (nxt z β s) b, jj, mj_rk kd, 108) := m_reads T (tke z β s) (tke_le hs)
theorem m_pass1 (T : TM ii z β) {s w : Nat} (hs : s ≤ z) (h : mtk z β s = w) : SK l X 5 197 [vR 25 0, vI (nI w)] (mS z β ii s false, jj, mj_rk kd, 108) (some (vI 1)) (mS z β ii (nxt z β s) false, jj, mj_rk kd, 108) := by
  refine SK.of (by decide) (by decide) rfl ?_
  refine GB.go 9999 rfl aB0 ?_
  rw [show mS z β ii s false 25 0 11 = bI false from mF_11]
  refine GB.br rfl rfl (fun c => ?_) (fun c => ?_)
  · refine GB.go 9999 rfl aB0 ?_
    rw [show mS z β ii s false 25 0 7 = nI (mtk z β s) from mF_7]
    refine GB.br rfl rfl (fun c2 => ?_) (fun c2 => ?_)
    · refine GB.go 9999 rfl aB0 ?_
      refine GB.cal rfl rfl (by decide) (m_rd T hs) ?_
      refine GB.go 9999 rfl aB0 ?_
      exact GB.ret rfl rfl (aB1 (by decide) aB0)
    · exact absurd (by rw [h]) c2
  · exact absurd rfl c
theorem m_pass0 {s w : Nat} (hw : w < 2 ^ 31) {b : Bool} (h : b = true ∨ mtk z β s ≠ w) : SK l X 5 197 [vR 25 0, vI (nI w)] (mS z β ii s b, jj, mj_rk kd, 108) (some (vI 0)) (mS z β ii s b, jj, mj_rk kd, 108) := by
  have m24 := mtk_lt (z := z) (β := β) (s := s)
  refine SK.of (by decide) (by decide) rfl ?_
  refine GB.go 9999 rfl aB0 ?_
  rw [show mS z β ii s b 25 0 11 = bI b from mF_11]
  refine GB.br rfl rfl (fun c => ?_) (fun c => ?_)
  · refine GB.go 9999 rfl aB0 ?_
    rw [show mS z β ii s b 25 0 7 = nI (mtk z β s) from mF_7]
    refine GB.br rfl rfl (fun c2 => ?_) (fun c2 => ?_)
    · rcases h with h | h
      · rw [h] at c
        exact absurd c (by decide)
      · exact absurd ((nI_eq (by omega) hw).mp c2) h
    · refine GB.go 9999 rfl aB0 ?_
      exact GB.ret rfl rfl (aB1 (by decide) aB0)
  · refine GB.go 9999 rfl aB0 ?_
    exact GB.ret rfl rfl (aB1 (by decide) aB0)
theorem m_num (T : TM ii z β) {s m : Nat} (hs : s ≤ z) (hm : m ≤ 9999) : SK l X 5 198 [vR 25 0, vI 0, vI (nI m)] (mS z β ii s false, jj, mj_rk kd, 108) (some (vI (nI (mvl z β s)))) (mS z β ii (if mtk z β s = 20 ∧ mvl z β s ≤ m then nxt z β s else s) (!decide (mtk z β s = 20 ∧ mvl z β s ≤ m)), jj, mj_rk kd, 108) := by
  have m24 := mtk_lt (z := z) (β := β) (s := s)
  have mv := mvl_le (z := z) (β := β) (s := s)
  have bad : ¬ (mtk z β s = 20 ∧ mvl z β s ≤ m) → GB l X 5 0 0 198 (32, [some (vR 25 0), some (vI 0), some (vI (nI m)), some (vI (nI (mvl z β s)))], [vR 25 0], (mS z β ii s false, jj, mj_rk kd, 108)) (some (vI (nI (mvl z β s)))) (mS z β ii (if mtk z β s = 20 ∧ mvl z β s ≤ m then nxt z β s else s) (!decide (mtk z β s = 20 ∧ mvl z β s ≤ m)), jj, mj_rk kd, 108) := fun h => by
    rw [if_neg h, decide_eq_false h]
    refine GB.go 40 rfl (aB1 (by decide) aB0) ?_
    rw [show up3 (mS z β ii s false) 25 0 11 1 = mS z β ii s true from mF_u11]
    refine GB.go 9999 rfl aB0 ?_
    rw [show mS z β ii s true 25 0 11 = bI true from mF_11]
    refine GB.br rfl rfl (fun c => ?_) (fun c => ?_)
    · exact absurd c (by decide)
    · refine GB.go 9999 rfl aB0 ?_
      exact GB.ret rfl rfl aB0
  refine SK.of (by decide) (by decide) rfl ?_
  refine GB.go 4 rfl aB0 ?_
  rw [show mS z β ii s false 25 0 10 = nI (mvl z β s) from mF_10]
  refine GB.go 9999 rfl aB0 ?_
  rw [show mS z β ii s false 25 0 11 = bI false from mF_11]
  refine GB.br rfl rfl (fun c => ?_) (fun c => ?_)
  · refine GB.go 9999 rfl aB0 ?_
    rw [show mS z β ii s false 25 0 7 = nI (mtk z β s) from mF_7]
    refine GB.br rfl rfl (fun c2 => ?_) (fun c2 => ?_)
    · have e20 : mtk z β s = 20 := (nI_eq (b := 20) (by omega) (by decide)).mp c2
      refine GB.go 9999 rfl aB0 ?_
      refine GB.cal rfl rfl (by decide) (m_up _ _ _) ?_
      rw [uT_iff (by omega) (by omega)]
      refine GB.br rfl rfl (fun c3 => ?_) (fun c3 => ?_)
      · exact bad (fun q => bd_f c3 q.2)
      · have ok : mtk z β s = 20 ∧ mvl z β s ≤ m := ⟨e20, bd_t c3⟩
        rw [if_pos ok, decide_eq_true ok]
        refine GB.go 40 rfl (aB1 (by decide) aB0) ?_
        rw [show up3 (mS z β ii s false) 25 0 11 0 = mS z β ii s false from mF_u11]
        refine GB.go 9999 rfl aB0 ?_
        rw [show mS z β ii s false 25 0 11 = bI false from mF_11]
        refine GB.br rfl rfl (fun c4 => ?_) (fun c4 => ?_)
        · refine GB.go 9999 rfl aB0 ?_
          refine GB.cal rfl rfl (by decide) (m_rd T hs) ?_
          refine GB.go 9999 rfl aB0 ?_
          exact GB.ret rfl rfl aB0
        · exact absurd rfl c4
    · exact bad (fun q => c2 (by rw [q.1]; rfl))
  · exact absurd rfl c
theorem m_perh (T : TM ii z β) {s w m so : Nat} (hs : s ≤ z) (hw : w < 24) (hm : m ≤ 9999) : SK l X 6 199 [vR 25 0, vI (nI w), vI 0, vI (nI m), vI (nI so)] (mS z β ii s false, jj, mj_rk kd, 108) (some (vI (nI (prh z β w m so s).2.2))) (mS z β ii (prh z β w m so s).2.1 (!(prh z β w m so s).1), jj, mj_rk kd, 108) := by
  unfold prh
  refine SK.of (by decide) (by decide) rfl ?_
  refine GB.go 9999 rfl aB0 ?_
  by_cases h : mtk z β s = w
  · rw [if_pos h]
    refine GB.cal rfl rfl (by decide) (m_pass1 T hs h) ?_
    refine GB.br rfl rfl (fun c => ?_) (fun c => ?_)
    · exact absurd c (by decide)
    · refine GB.go 9999 rfl aB0 ?_
      have q := m_num (l := l) (X := X) (jj := jj) (kd := kd) T (nxt_le (β := β) hs) hm
      refine GB.cal rfl rfl (by decide) (q) ?_
      by_cases h2 : mtk z β (nxt z β s) = 20 ∧ mvl z β (nxt z β s) ≤ m
      · rw [if_pos h2, if_pos h2, decide_eq_true h2]
        refine GB.go 9999 rfl aB0 ?_
        exact GB.ret rfl rfl aB0
      · rw [if_neg h2, if_neg h2, decide_eq_false h2]
        refine GB.go 9999 rfl aB0 ?_
        exact GB.ret rfl rfl aB0
  · rw [if_neg h]
    refine GB.cal rfl rfl (by decide) (m_pass0 (by omega) (Or.inr h)) ?_
    refine GB.br rfl rfl (fun c => ?_) (fun c => ?_)
    · refine GB.go 9999 rfl aB0 ?_
      exact GB.ret rfl rfl aB0
    · exact absurd rfl c
theorem m_perhB {s w m so : Nat} (hw : w < 24) : SK l X 6 199 [vR 25 0, vI (nI w), vI 0, vI (nI m), vI (nI so)] (mS z β ii s true, jj, mj_rk kd, 108) (some (vI (nI so))) (mS z β ii s true, jj, mj_rk kd, 108) := by
  refine SK.of (by decide) (by decide) rfl ?_
  refine GB.go 9999 rfl aB0 ?_
  refine GB.cal rfl rfl (by decide) (m_pass0 (by omega) (Or.inl rfl)) ?_
  refine GB.br rfl rfl (fun c => ?_) (fun c => ?_)
  · refine GB.go 9999 rfl aB0 ?_
    exact GB.ret rfl rfl aB0
  · exact absurd rfl c
theorem m_hatItem (T : TM ii z β) {s n d : Nat} (hs : s ≤ z) (hn : n ≤ 8) (h0 : ii 26 0 2 = nI n) : SK l X 7 200 [vR 25 0] (mS z β ii s false, jj, mj_rk kd, 108) none (mS z β (upA ii 26 0 (hatI z β s (ii 26 0) n d).2.2.1) (hatI z β s (ii 26 0) n d).2.1 (!(hatI z β s (ii 26 0) n d).1), jj, mj_rk kd, 108) := by
  have n1 := nxt_le (β := β) hs
  have p1 := prh_le (β := β) (w := 6) (m := 4095) (so := 0) n1
  have v1 := prh_v (z := z) (β := β) (w := 6) (m := 4095) (so := 0) (s := nxt z β s) (by decide)
  unfold hatI
  refine SK.of (by decide) (by decide) rfl ?_
  refine GB.go 4 rfl aB0 ?_
  rw [show mS z β ii s false 25 0 7 = nI (mtk z β s) from mF_7]
  refine GB.go 12 rfl (aB1 (by decide) aB0) ?_
  rw [show mS z β ii s false 26 0 (Int32.toNatClampNeg 2) = nI n by rw [show Int32.toNatClampNeg 2 = 2 from by decide]; unfold mS; rw [mF_tag (by decide), h0]]
  refine GB.go 9999 rfl aB0 ?_
  refine GB.br rfl rfl (fun c => ?_) (fun c => ?_)
  · have e8 : n = 8 := (nI_eq (b := 8) (by omega) (by decide)).mp c
    rw [if_pos e8]
    refine GB.go 25 rfl (aB1 (by decide) aB0) ?_
    rw [show up3 (mS z β ii s false) 25 0 11 1 = mS z β ii s true from mF_u11]
    refine GB.go 9999 rfl aB0 ?_
    rw [show mS z β ii s true 25 0 11 = bI true from mF_11]
    refine GB.br rfl rfl (fun c2 => ?_) (fun c2 => ?_)
    · exact absurd c2 (by decide)
    · rw [upA_id]
      exact GB.ret rfl rfl aB0
  · have e8 : ¬ n = 8 := fun q => c (by rw [q]; rfl)
    rw [if_neg e8]
    refine GB.go 25 rfl (aB1 (by decide) aB0) ?_
    rw [show up3 (mS z β ii s false) 25 0 11 0 = mS z β ii s false from mF_u11]
    refine GB.go 9999 rfl aB0 ?_
    rw [show mS z β ii s false 25 0 11 = bI false from mF_11]
    refine GB.br rfl rfl (fun c2 => ?_) (fun c2 => ?_)
    · refine GB.go 9999 rfl aB0 ?_
      refine GB.cal rfl rfl (by decide) (m_rd T hs) ?_
      refine GB.go 9999 rfl aB0 ?_
      refine GB.cal rfl rfl (by decide) (m_perh T n1 (by decide) (by decide)) ?_
      refine GB.go 9999 rfl aB0 ?_
      cases q1 : (prh z β 6 4095 0 (nxt z β s)).1 with
      | false =>
        refine GB.cal rfl rfl (by decide) (m_perhB (by decide)) ?_
        refine GB.go 9999 rfl aB0 ?_
        rw [show mS z β ii (prh z β 6 4095 0 (nxt z β s)).2.1 true 25 0 11 = bI true from mF_11]
        refine GB.br rfl rfl (fun c3 => ?_) (fun c3 => ?_)
        · exact absurd c3 (by decide)
        · rw [cond_false, upA_id]
          exact GB.ret rfl rfl aB0
      | true =>
        have a1 := v1 q1
        refine GB.cal rfl rfl (by decide) (m_perh T p1.1 (by decide) (by decide)) ?_
        cases q2 : (prh z β 7 99 5 (prh z β 6 4095 0 (nxt z β s)).2.1).1 with
        | false =>
          refine GB.go 9999 rfl aB0 ?_
          rw [show mS z β ii (prh z β 7 99 5 (prh z β 6 4095 0 (nxt z β s)).2.1).2.1 (!false) 25 0 11 = bI true from mF_11]
          refine GB.br rfl rfl (fun c3 => ?_) (fun c3 => ?_)
          · exact absurd c3 (by decide)
          · rw [cond_true, cond_false, upA_id]
            exact GB.ret rfl rfl aB0
        | true =>
          refine GB.go 9999 rfl aB0 ?_
          rw [show mS z β ii (prh z β 7 99 5 (prh z β 6 4095 0 (nxt z β s)).2.1).2.1 (!true) 25 0 11 = bI false from mF_11]
          refine GB.br rfl rfl (fun c3 => ?_) (fun c3 => ?_)
          · refine GB.go 9999 rfl aB0 ?_
            refine GB.cal rfl rfl (by decide) (m_comes n (by omega) (by unfold mS; rw [mF_tag (by decide), h0]) _ _ (sT_nI (Nat.lt_succ_of_le a1))) ?_
            rw [mS_nHm, cond_true, cond_true]
            refine GB.go 9999 rfl aB0 ?_
            exact GB.ret rfl rfl aB0
          · exact absurd rfl c3
    · exact absurd rfl c2
theorem m_headItem (T : TM ii z β) {s n d : Nat} (hs : s ≤ z) (hd : d ≤ 6) (h0 : ii 26 0 3 = nI d) : SK l X 7 201 [vR 25 0] (mS z β ii s false, jj, mj_rk kd, 108) none (mS z β (upA ii 26 0 (headI z β s (ii 26 0) n d).2.2.1) (headI z β s (ii 26 0) n d).2.1 (!(headI z β s (ii 26 0) n d).1), jj, mj_rk kd, 108) := by
  have n1 := nxt_le (β := β) hs
  have p1 := prh_le (β := β) (w := 9) (m := 4095) (so := 0) n1
  unfold headI
  refine SK.of (by decide) (by decide) rfl ?_
  refine GB.go 7 rfl (aB1 (by decide) aB0) ?_
  rw [show mS z β ii s false 26 0 (Int32.toNatClampNeg 3) = nI d by rw [show Int32.toNatClampNeg 3 = 3 from by decide]; unfold mS; rw [mF_tag (by decide), h0]]
  refine GB.go 9999 rfl aB0 ?_
  refine GB.br rfl rfl (fun c => ?_) (fun c => ?_)
  · have e6 : d = 6 := (nI_eq (b := 6) (by omega) (by decide)).mp c
    rw [if_pos e6]
    refine GB.go 20 rfl (aB1 (by decide) aB0) ?_
    rw [show up3 (mS z β ii s false) 25 0 11 1 = mS z β ii s true from mF_u11]
    refine GB.go 9999 rfl aB0 ?_
    rw [show mS z β ii s true 25 0 11 = bI true from mF_11]
    refine GB.br rfl rfl (fun c2 => ?_) (fun c2 => ?_)
    · exact absurd c2 (by decide)
    · rw [upA_id]
      exact GB.ret rfl rfl aB0
  · have e6 : ¬ d = 6 := fun q => c (by rw [q]; rfl)
    rw [if_neg e6]
    refine GB.go 20 rfl (aB1 (by decide) aB0) ?_
    rw [show up3 (mS z β ii s false) 25 0 11 0 = mS z β ii s false from mF_u11]
    refine GB.go 9999 rfl aB0 ?_
    rw [show mS z β ii s false 25 0 11 = bI false from mF_11]
    refine GB.br rfl rfl (fun c2 => ?_) (fun c2 => ?_)
    · refine GB.go 9999 rfl aB0 ?_
      refine GB.cal rfl rfl (by decide) (m_rd T hs) ?_
      refine GB.go 9999 rfl aB0 ?_
      refine GB.cal rfl rfl (by decide) (m_perh T n1 (by decide) (by decide)) ?_
      refine GB.go 9999 rfl aB0 ?_
      cases q1 : (prh z β 9 4095 0 (nxt z β s)).1 with
      | false =>
        refine GB.cal rfl rfl (by decide) (m_pass0 (w := 10) (by decide) (Or.inl rfl)) ?_
        refine GB.br rfl rfl (fun c4 => ?_) (fun c4 => ?_)
        · refine GB.go 9999 rfl aB0 ?_
          rw [show mS z β ii (prh z β 9 4095 0 (nxt z β s)).2.1 (!false) 25 0 11 = bI true from mF_11]
          refine GB.br rfl rfl (fun c3 => ?_) (fun c3 => ?_)
          · exact absurd c3 (by decide)
          · rw [cond_false, upA_id]
            exact GB.ret rfl rfl aB0
        · exact absurd rfl c4
      | true =>
        rw [cond_true]
        by_cases h10 : mtk z β (prh z β 9 4095 0 (nxt z β s)).2.1 = 10
        · rw [if_pos h10]
          refine GB.cal rfl rfl (by decide) (m_pass1 T p1.1 h10) ?_
          refine GB.br rfl rfl (fun c4 => ?_) (fun c4 => ?_)
          · exact absurd c4 (by decide)
          · refine GB.go 9999 rfl aB0 ?_
            rw [show mS z β ii (nxt z β (prh z β 9 4095 0 (nxt z β s)).2.1) false 25 0 11 = bI false from mF_11]
            refine GB.br rfl rfl (fun c3 => ?_) (fun c3 => ?_)
            · refine GB.go 9999 rfl aB0 ?_
              refine GB.cal rfl rfl (by decide) (m_comesHead d (by omega) (by unfold mS; rw [mF_tag (by decide), h0]) _ _) ?_
              rw [mS_nDm]
              refine GB.go 9999 rfl aB0 ?_
              exact GB.ret rfl rfl aB0
            · exact absurd rfl c3
        · rw [if_neg h10]
          refine GB.cal rfl rfl (by decide) (m_pass0 (w := 10) (by decide) (Or.inr h10)) ?_
          refine GB.br rfl rfl (fun c4 => ?_) (fun c4 => ?_)
          · refine GB.go 9999 rfl aB0 ?_
            rw [show mS z β ii (prh z β 9 4095 0 (nxt z β s)).2.1 (!true) 25 0 11 = bI false from mF_11]
            refine GB.br rfl rfl (fun c3 => ?_) (fun c3 => ?_)
            · refine GB.go 9999 rfl aB0 ?_
              refine GB.cal rfl rfl (by decide) (m_comesHead d (by omega) (by unfold mS; rw [mF_tag (by decide), h0]) _ _) ?_
              rw [mS_nDm]
              refine GB.go 9999 rfl aB0 ?_
              exact GB.ret rfl rfl aB0
            · exact absurd rfl c3
          · exact absurd rfl c4
    · exact absurd rfl c2
theorem m_item (T : TM ii z β) {s n d : Nat} (hs : s ≤ z) (hn : n ≤ 8) (hd : d ≤ 6) (h0 : ii 26 0 2 = nI n) (h3 : ii 26 0 3 = nI d) : SK l X 8 202 [vR 25 0] (mS z β ii s false, jj, mj_rk kd, 108) none (mS z β (upA ii 26 0 (itm z β s (ii 26 0) n d).2.2.1) (itm z β s (ii 26 0) n d).2.1 (!(itm z β s (ii 26 0) n d).1), jj, mj_rk kd, 108) := by
  have m24 := mtk_lt (z := z) (β := β) (s := s)
  unfold itm
  refine SK.of (by decide) (by decide) rfl ?_
  refine GB.go 9999 rfl aB0 ?_
  rw [show mS z β ii s false 25 0 7 = nI (mtk z β s) from mF_7]
  refine GB.br rfl rfl (fun c => ?_) (fun c => ?_)
  · have c' := (nI_ltI (a := 5) (by decide) (by omega)).mp c
    rw [if_neg (show ¬ mtk z β s ≤ 5 by omega)]
    refine GB.go 9999 rfl aB0 ?_
    rw [show mS z β ii s false 25 0 7 = nI (mtk z β s) from mF_7]
    refine GB.br rfl rfl (fun c2 => ?_) (fun c2 => ?_)
    · rw [if_pos ((nI_eq (b := 8) (by omega) (by decide)).mp c2)]
      refine GB.go 9999 rfl aB0 ?_
      refine GB.cal rfl rfl (by decide) (m_headItem (n := n) T hs hd h3) ?_
      refine GB.go 9999 rfl aB0 ?_
      exact GB.ret rfl rfl aB0
    · have e8 : ¬ mtk z β s = 8 := fun q => c2 (by rw [q]; rfl)
      rw [if_neg e8]
      refine GB.go 9999 rfl aB0 ?_
      by_cases h11 : mtk z β s = 11
      · rw [if_pos h11]
        refine GB.cal rfl rfl (by decide) (m_pass1 T hs h11) ?_
        refine GB.br rfl rfl (fun c3 => ?_) (fun c3 => ?_)
        · exact absurd c3 (by decide)
        · refine GB.go 47 rfl (aB1 (by decide) aB0) ?_
          rw [show Int32.toNatClampNeg 1 = 1 from by decide, mS_rowM]
          refine GB.go 9999 rfl aB0 ?_
          exact GB.ret rfl rfl aB0
      · rw [if_neg h11]
        refine GB.cal rfl rfl (by decide) (m_pass0 (w := 11) (by decide) (Or.inr h11)) ?_
        refine GB.br rfl rfl (fun c3 => ?_) (fun c3 => ?_)
        · refine GB.go 9999 rfl aB0 ?_
          by_cases h12 : mtk z β s = 12
          · rw [if_pos h12]
            refine GB.cal rfl rfl (by decide) (m_pass1 T hs h12) ?_
            refine GB.br rfl rfl (fun c4 => ?_) (fun c4 => ?_)
            · exact absurd c4 (by decide)
            · refine GB.go 66 rfl (aB1 (by decide) aB0) ?_
              rw [show Int32.toNatClampNeg 1 = 1 from by decide, mS_rowM]
              refine GB.go 9999 rfl aB0 ?_
              exact GB.ret rfl rfl aB0
          · rw [if_neg h12]
            refine GB.cal rfl rfl (by decide) (m_pass0 (w := 12) (by decide) (Or.inr h12)) ?_
            refine GB.br rfl rfl (fun c4 => ?_) (fun c4 => ?_)
            · refine GB.go 74 rfl (aB1 (by decide) aB0) ?_
              rw [show up3 (mS z β ii s false) 25 0 11 1 = mS z β ii s true from mF_u11, upA_id]
              exact GB.ret rfl rfl aB0
            · exact absurd rfl c4
        · exact absurd rfl c3
  · have c' : mtk z β s ≤ 5 := Nat.le_of_not_lt (fun q => c (nI_lt (a := 5) q (by omega)))
    rw [if_pos c']
    refine GB.go 9999 rfl aB0 ?_
    refine GB.cal rfl rfl (by decide) (m_hatItem (d := d) T hs hn h0) ?_
    refine GB.go 9999 rfl aB0 ?_
    exact GB.ret rfl rfl aB0
end MI
