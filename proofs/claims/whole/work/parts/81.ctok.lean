/-! THE TEXT: the class's tokens -/
/-- the class stands on a token -/
def cF (ii : Nat → Nat → Nat → Int32) (t s e : Int32) : Nat → Nat → Nat → Int32 := fun a b c => if a = 7 ∧ b = 0 ∧ c = 2 then t else if a = 7 ∧ b = 0 ∧ c = 3 then s else if a = 7 ∧ b = 0 ∧ c = 4 then e else ii a b c
section CF
variable {ii : Nat → Nat → Nat → Int32} {t s e v : Int32}
theorem cF_2 : cF ii t s e 7 0 2 = t := if_pos ⟨rfl, rfl, rfl⟩
theorem cF_3 : cF ii t s e 7 0 3 = s := by
  unfold cF
  rw [if_neg (by decide), if_pos ⟨rfl, rfl, rfl⟩]
theorem cF_4 : cF ii t s e 7 0 4 = e := by
  unfold cF
  rw [if_neg (by decide), if_neg (by decide), if_pos ⟨rfl, rfl, rfl⟩]
theorem cF_1 : cF ii t s e 7 0 1 = ii 7 0 1 := by
  unfold cF
  rw [if_neg (by decide), if_neg (by decide), if_neg (by decide)]
theorem cF_tag {a : Nat} (h : a ≠ 7) : cF ii t s e a = ii a := by
  funext b c
  unfold cF
  rw [if_neg (fun q => h q.1), if_neg (fun q => h q.1), if_neg (fun q => h q.1)]
theorem cF_id : cF ii (ii 7 0 2) (ii 7 0 3) (ii 7 0 4) = ii := by
  funext a b c
  unfold cF
  split
  · next h => rw [h.1, h.2.1, h.2.2]
  · split
    · next h => rw [h.1, h.2.1, h.2.2]
    · split
      · next h => rw [h.1, h.2.1, h.2.2]
      · rfl
theorem cF_u2 : up3 (cF ii t s e) 7 0 2 v = cF ii v s e := by
  funext a b c
  unfold up3 cF
  by_cases h : a = 7 ∧ b = 0 ∧ c = 2
  · rw [if_pos h, if_pos h]
  · rw [if_neg h, if_neg h, if_neg h]
theorem cF_u3 : up3 (cF ii t s e) 7 0 3 v = cF ii t v e := by
  funext a b c
  unfold up3 cF
  by_cases h : a = 7 ∧ b = 0 ∧ c = 3
  · rw [if_pos h, if_neg (by omega), if_pos h]
  · rw [if_neg h, if_neg h, if_neg h]
theorem cF_u4 : up3 (cF ii t s e) 7 0 4 v = cF ii t s v := by
  funext a b c
  unfold up3 cF
  by_cases h : a = 7 ∧ b = 0 ∧ c = 4
  · rw [if_pos h, if_neg (by omega), if_neg (by omega), if_pos h]
  · rw [if_neg h, if_neg h, if_neg h]
/-- what is written elsewhere -/
theorem cF_up {T i k : Nat} (h : T ≠ 7) : up3 (cF ii t s e) T i k v = cF (up3 ii T i k v) t s e := by
  funext a b c
  unfold up3 cF
  by_cases q : a = T ∧ b = i ∧ c = k
  · rw [if_pos q, if_neg (by omega), if_neg (by omega), if_neg (by omega)]
    exact (if_pos q).symm
  · simp only [if_neg q]
theorem cF_wA {T i n : Nat} {F : Nat → Int32} (h : T ≠ 7) : wA (cF ii t s e) T i n F = cF (wA ii T i n F) t s e := by
  funext a b c
  unfold wA cF
  by_cases q : a = T ∧ b = i ∧ c < n
  · rw [if_pos q, if_neg (by omega), if_neg (by omega), if_neg (by omega)]
    exact (if_pos q).symm
  · simp only [if_neg q]
end CF
/-- the tape -/
def TF (ii : Nat → Nat → Nat → Int32) (z : Nat) (β : Nat → Nat) : Prop := ii 7 0 1 = nI z ∧ z ≤ 120 ∧ ∀ k, k < z → ii 8 0 k = nI (β k) ∧ β k ≤ 255
section CT
variable {l : Launch} {X : FX} {ii : Nat → Nat → Nat → Int32} {jj : Nat → Nat → Nat → Int64} {kd : Nat → Nat} {z : Nat} {β : Nat → Nat} {t0 s0 e0 : Int32}
theorem k_tokenAt (T : TF ii z β) (p : Nat) (hp : p ≤ 120) : SK l X 1 68 [vR 7 0, vI (nI p)] (cF ii t0 s0 e0, jj, mj_rk kd, 108) (some (vI (nI (tkc z β p)))) (cF ii t0 s0 e0, jj, mj_rk kd, 108) := by
  obtain ⟨T1, T2, T3⟩ := T
  unfold tkc
  refine SK.of (by decide) (by decide) rfl ?_
  refine GB.go 9999 rfl aB0 ?_
  refine GB.br rfl rfl (fun c => ?_) (fun c => ?_)
  · exact absurd c (nI_pos (by omega))
  · refine GB.go 9999 rfl aB0 ?_
    rw [cF_1, T1]
    refine GB.br rfl rfl (fun c2 => ?_) (fun c2 => ?_)
    · have hpz : p < z := (nI_ltI (by omega) (by omega)).mp c2
      obtain ⟨b1, b2⟩ := T3 p hpz
      rw [if_neg (show ¬ z ≤ p by omega)]
      refine GB.go 20 rfl (aB1 (mn_vin (show p < 120 by omega) (by decide)) aB0) ?_
      rw [nI_clamp (show p < 2 ^ 31 by omega)]
      rw [cF_tag (by decide), b1]
      generalize β p = b at *
      have tl : isL b = false → GB l X 1 0 0 68 (35, [some (vR 7 0), some (vI (nI p)), some (vI (nI b))], [], (cF ii t0 s0 e0, jj, mj_rk kd, 108)) (some (vI (nI (cond (isL b) 1 (cond (isD b) 2 (if b = 59 then 3 else 0)))))) (cF ii t0 s0 e0, jj, mj_rk kd, 108) := fun hl => by
        rw [hl, cond_false]
        have t2 : isD b = false → GB l X 1 0 0 68 (49, [some (vR 7 0), some (vI (nI p)), some (vI (nI b))], [], (cF ii t0 s0 e0, jj, mj_rk kd, 108)) (some (vI (nI (cond (isD b) 2 (if b = 59 then 3 else 0))))) (cF ii t0 s0 e0, jj, mj_rk kd, 108) := fun hd => by
          rw [hd, cond_false]
          refine GB.go 9999 rfl aB0 ?_
          refine GB.br rfl rfl (fun c5 => ?_) (fun c5 => ?_)
          · rw [if_pos ((nI_eq (b := 59) (by omega) (by decide)).mp c5)]
            refine GB.go 9999 rfl aB0 ?_
            exact GB.ret rfl rfl aB0
          · rw [if_neg (fun q => c5 (by rw [q]; rfl))]
            refine GB.go 9999 rfl aB0 ?_
            exact GB.ret rfl rfl aB0
        refine GB.go 9999 rfl aB0 ?_
        refine GB.br rfl rfl (fun c3 => ?_) (fun c3 => ?_)
        · have := (nI_ltI (b := 48) (by omega) (by decide)).mp c3
          exact t2 (decide_eq_false (by omega))
        · have q3 := fun q => c3 ((nI_ltI (b := 48) (show b < 2 ^ 31 by omega) (by decide)).mpr q)
          refine GB.go 9999 rfl aB0 ?_
          refine GB.br rfl rfl (fun c4 => ?_) (fun c4 => ?_)
          · have := (nI_ltI (a := 57) (by decide) (by omega)).mp c4
            exact t2 (decide_eq_false (by omega))
          · have q4 := fun q => c4 ((nI_ltI (a := 57) (by decide) (show b < 2 ^ 31 by omega)).mpr q)
            rw [show isD b = true from decide_eq_true ⟨Nat.le_of_not_lt q3, Nat.le_of_not_lt q4⟩, cond_true]
            refine GB.go 9999 rfl aB0 ?_
            exact GB.ret rfl rfl aB0
      refine GB.go 9999 rfl aB0 ?_
      refine GB.br rfl rfl (fun c3 => ?_) (fun c3 => ?_)
      · have := (nI_ltI (b := 97) (by omega) (by decide)).mp c3
        exact tl (decide_eq_false (by omega))
      · have q3 := fun q => c3 ((nI_ltI (b := 97) (show b < 2 ^ 31 by omega) (by decide)).mpr q)
        refine GB.go 9999 rfl aB0 ?_
        refine GB.br rfl rfl (fun c4 => ?_) (fun c4 => ?_)
        · have := (nI_ltI (a := 122) (by decide) (by omega)).mp c4
          exact tl (decide_eq_false (by omega))
        · have q4 := fun q => c4 ((nI_ltI (a := 122) (by decide) (show b < 2 ^ 31 by omega)).mpr q)
          rw [show isL b = true from decide_eq_true ⟨Nat.le_of_not_lt q3, Nat.le_of_not_lt q4⟩, cond_true]
          refine GB.go 9999 rfl aB0 ?_
          exact GB.ret rfl rfl aB0
    · rw [if_pos (Nat.le_of_not_lt (fun q => c2 (nI_lt q (by omega))))]
      refine GB.go 9999 rfl aB0 ?_
      exact GB.ret rfl rfl aB0
theorem k_nextA (T : TF ii z β) : ∀ f p, z ≤ p + f → p ≤ z → {r : Option MV} → {h' : MH} → (GB l X 2 0 0 67 (46, [some (vR 7 0)], [], (cF ii t0 (nI (skF z β f p)) e0, jj, mj_rk kd, 108)) r h') → GB l X 2 0 0 67 (8, [some (vR 7 0)], [], (cF ii t0 (nI p) e0, jj, mj_rk kd, 108)) r h'
  | 0, p, h1, h2, r, h', k => by
    refine GB.go 9999 rfl aB0 ?_
    rw [cF_3, cF_1, T.1]
    refine GB.br rfl rfl (fun c => ?_) (fun c => ?_)
    · exact k
    · exact absurd (nI_le (show z ≤ p by omega) (by have := T.2.1; omega)) c
  | f + 1, p, h1, h2, r, h', k => by
    have z120 := T.2.1
    unfold skF at k
    refine GB.go 9999 rfl aB0 ?_
    rw [cF_3, cF_1, T.1]
    refine GB.br rfl rfl (fun c => ?_) (fun c => ?_)
    · rw [if_neg (fun q => absurd c (nI_ge q.1 (by omega)))] at k
      exact k
    · have hpz : p < z := Nat.lt_of_not_le (fun q => c (nI_le q (by omega)))
      obtain ⟨b1, b2⟩ := T.2.2 p hpz
      refine GB.go 27 rfl aB0 ?_
      rw [cF_3]
      refine GB.go 28 rfl (aB1 (mn_vin (show p < 120 by omega) (by decide)) aB0) ?_
      rw [nI_clamp (show p < 2 ^ 31 by omega)]
      rw [cF_tag (by decide), b1]
      refine GB.go 9999 rfl aB0 ?_
      refine GB.br rfl rfl (fun c2 => ?_) (fun c2 => ?_)
      · have e : β p = 32 := (nI_eq (b := 32) (by omega) (by decide)).mp c2
        rw [if_pos ⟨hpz, e⟩] at k
        refine GB.go 38 rfl aB0 ?_
        rw [cF_3]
        refine GB.go 40 rfl aB0 ?_
        rw [nI_1]
        refine GB.go 43 rfl aB0 ?_
        rw [cF_u3]
        refine GB.go 8 rfl aB0 ?_
        exact k_nextA T f (p + 1) (by omega) (by omega) k
      · rw [if_neg (fun q => c2 (by rw [q.2]; rfl))] at k
        exact k
theorem k_nextB (T : TF ii z β) (c0 : Nat) (hc : c0 < 4) : ∀ f p, z ≤ p + f → p ≤ z → {h' : MH} → h' = (cF ii (nI c0) s0 (nI (rnF z β c0 f p)), jj, mj_rk kd, 108) → GB l X 2 0 0 67 (101, [some (vR 7 0)], [], (cF ii (nI c0) s0 (nI p), jj, mj_rk kd, 108)) none h'
  | 0, p, h1, h2, h', e => by
    rw [e]
    refine GB.go 9999 rfl aB0 ?_
    rw [cF_4, cF_1, T.1]
    refine GB.br rfl rfl (fun c => ?_) (fun c => ?_)
    · exact GB.ret rfl rfl aB0
    · exact absurd (nI_le (show z ≤ p by omega) (by have := T.2.1; omega)) c
  | f + 1, p, h1, h2, h', e => by
    have z120 := T.2.1
    unfold rnF at e
    refine GB.go 9999 rfl aB0 ?_
    rw [cF_4, cF_1, T.1]
    refine GB.br rfl rfl (fun c => ?_) (fun c => ?_)
    · have hz : z ≤ p := (nI_leI (by omega) (by omega)).mp c
      rw [if_neg (by rw [show tkc z β p = 4 from if_pos hz]; omega)] at e
      rw [e]
      exact GB.ret rfl rfl aB0
    · have hpz : p < z := Nat.lt_of_not_le (fun q => c (nI_le q (by omega)))
      refine GB.go 117 rfl aB0 ?_
      rw [cF_4]
      refine GB.cal rfl rfl (by decide) (k_tokenAt T p (by omega)) ?_
      refine GB.go 9999 rfl aB0 ?_
      rw [cF_2]
      have h5 := tkc_lt5 (z := z) (β := β) (s := p)
      refine GB.br rfl rfl (fun c2 => ?_) (fun c2 => ?_)
      · rw [if_pos ((nI_eq (by omega) (by omega)).mp c2)] at e
        refine GB.go 132 rfl aB0 ?_
        rw [cF_4]
        refine GB.go 134 rfl aB0 ?_
        rw [nI_1]
        refine GB.go 137 rfl aB0 ?_
        rw [cF_u4]
        refine GB.go 101 rfl aB0 ?_
        exact k_nextB T c0 hc f (p + 1) (by omega) (by omega) e
      · rw [if_neg (fun q => c2 (by rw [q]))] at e
        rw [e]
        exact GB.ret rfl rfl aB0
theorem k_next (T : TF ii z β) (p : Nat) (hp : p ≤ z) : SK l X 2 67 [vR 7 0] (cF ii t0 s0 (nI p), jj, mj_rk kd, 108) none (cF ii (nI (tkc z β (skp z β p))) (nI (skp z β p)) (nI (tke z β (skp z β p))), jj, mj_rk kd, 108) := by
  have z120 := T.2.1
  refine SK.of (by decide) (by decide) rfl ?_
  refine GB.go 5 rfl aB0 ?_
  rw [cF_4]
  refine GB.go 8 rfl aB0 ?_
  rw [cF_u3]
  refine k_nextA T z p (by omega) hp ?_
  rw [show skF z β z p = skp z β p from rfl]
  have hs : skp z β p ≤ z := skF_le z p hp
  generalize skp z β p = s at *
  have h5 := tkc_lt5 (z := z) (β := β) (s := s)
  refine GB.go 51 rfl aB0 ?_
  rw [cF_3]
  refine GB.go 54 rfl aB0 ?_
  rw [cF_u4]
  refine GB.go 60 rfl aB0 ?_
  rw [cF_3]
  refine GB.cal rfl rfl (by decide) (k_tokenAt T s (by omega)) ?_
  refine GB.go 66 rfl aB0 ?_
  rw [cF_u2]
  refine GB.go 9999 rfl aB0 ?_
  rw [cF_2]
  refine GB.br rfl rfl (fun c => ?_) (fun c => ?_)
  · have e : tkc z β s = 4 := (nI_eq (b := 4) (by omega) (by decide)).mp c
    rw [show tke z β s = s from if_pos e]
    exact GB.ret rfl rfl aB0
  · have e : ¬ tkc z β s = 4 := fun q => c (by rw [q]; rfl)
    have hlt := tkc_lt e
    refine GB.go 80 rfl aB0 ?_
    rw [cF_4]
    refine GB.go 82 rfl aB0 ?_
    rw [nI_1]
    refine GB.go 85 rfl aB0 ?_
    rw [cF_u4]
    refine GB.go 9999 rfl aB0 ?_
    rw [cF_2]
    refine GB.br rfl rfl (fun c1 => ?_) (fun c1 => ?_)
    · have e1 : tkc z β s = 1 := (nI_eq (b := 1) (by omega) (by decide)).mp c1
      rw [show tke z β s = rnF z β (tkc z β s) z (s + 1) from (if_neg e).trans (if_pos (Or.inl e1))]
      exact k_nextB T _ (by omega) z (s + 1) (by omega) (by omega) rfl
    · refine GB.go 9999 rfl aB0 ?_
      rw [cF_2]
      refine GB.br rfl rfl (fun c2 => ?_) (fun c2 => ?_)
      · have e2 : tkc z β s = 2 := (nI_eq (b := 2) (by omega) (by decide)).mp c2
        rw [show tke z β s = rnF z β (tkc z β s) z (s + 1) from (if_neg e).trans (if_pos (Or.inr e2))]
        exact k_nextB T _ (by omega) z (s + 1) (by omega) (by omega) rfl
      · rw [show tke z β s = s + 1 from (if_neg e).trans (if_neg (by rintro (q | q); exact c1 (by rw [q]; rfl); exact c2 (by rw [q]; rfl)))]
        exact GB.ret rfl rfl aB0
end CT
