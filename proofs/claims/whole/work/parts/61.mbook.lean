/-! THE MODEL'S BOOKS, COPIES -/
/-- places lo to hi of a copied row have come -/
def cpX (jj : Nat → Nat → Nat → Int64) (S T lo hi : Nat) : Nat → Nat → Nat → Int64 := fun a b c => if a = 33 ∧ b = 0 ∧ T + lo ≤ c ∧ c < T + hi then jj 33 0 (S + (c - T)) else jj a b c
section CX
variable {jj : Nat → Nat → Nat → Int64} {S T lo hi : Nat}
theorem cpX_0 {k : Nat} : cpX jj S T k k = jj := by
  funext a b c
  unfold cpX
  rw [if_neg (fun h => by omega)]
theorem cpX_hi (h : lo ≤ hi) : up3 (cpX jj S T lo hi) 33 0 (T + hi) (jj 33 0 (S + hi)) = cpX jj S T lo (hi + 1) := by
  funext a b c
  unfold up3 cpX
  by_cases h1 : a = 33 ∧ b = 0 ∧ c = T + hi
  · rw [if_pos h1, if_pos ⟨h1.1, h1.2.1, by omega, by omega⟩, h1.2.2, Nat.add_sub_cancel_left]
  · rw [if_neg h1]
    by_cases h2 : a = 33 ∧ b = 0 ∧ T + lo ≤ c ∧ c < T + hi
    · rw [if_pos h2, if_pos ⟨h2.1, h2.2.1, h2.2.2.1, by omega⟩]
    · rw [if_neg h2, if_neg (fun h => by
        rcases Nat.lt_or_ge c (T + hi) with h3 | h3
        · exact h2 ⟨h.1, h.2.1, h.2.2.1, h3⟩
        · exact h1 ⟨h.1, h.2.1, by omega⟩)]
theorem cpX_lo (h : lo < hi) : up3 (cpX jj S T (lo + 1) hi) 33 0 (T + lo) (jj 33 0 (S + lo)) = cpX jj S T lo hi := by
  funext a b c
  unfold up3 cpX
  by_cases h1 : a = 33 ∧ b = 0 ∧ c = T + lo
  · rw [if_pos h1, if_pos ⟨h1.1, h1.2.1, by omega, by omega⟩, h1.2.2, Nat.add_sub_cancel_left]
  · rw [if_neg h1]
    by_cases h2 : a = 33 ∧ b = 0 ∧ T + (lo + 1) ≤ c ∧ c < T + hi
    · rw [if_pos h2, if_pos ⟨h2.1, h2.2.1, by omega, h2.2.2.2⟩]
    · rw [if_neg h2, if_neg (fun h => by
        rcases Nat.lt_or_ge (T + lo) c with h3 | h3
        · exact h2 ⟨h.1, h.2.1, by omega, h.2.2.2⟩
        · exact h1 ⟨h.1, h.2.1, by omega⟩)]
theorem cpX_out {c : Nat} (h : c < T + lo ∨ T + hi ≤ c) : cpX jj S T lo hi 33 0 c = jj 33 0 c := by
  unfold cpX
  rw [if_neg (fun h2 => by omega)]
end CX
section MQ
variable {l : Launch} {X : FX} {ii : Nat → Nat → Nat → Int32} {jj : Nat → Nat → Nat → Int64} {kd : Nat → Nat}
/-- why two sheets are not copied: the finding's number, or none -/
def ncO (ii : Nat → Nat → Nat → Int32) (s : Nat) (a : Int32) (t : Nat) (b n : Int32) : Option Nat :=
  if ii 31 0 s = 0 ∨ ii 31 0 t = 0 then some 5 else if ¬ ii 31 0 s = ii 31 0 t then some 2 else if ¬ n < 0 ∧ ¬ a < 0 ∧ ¬ b < 0 ∧ n ≤ ii 32 0 s - a ∧ n ≤ ii 32 0 t - b then none else some 0
def ncA (o : Option Nat) : Int32 := match o with
  | some k => fA k
  | none => 0
theorem m_notCop0 (s a t b n : Int32) (h : ¬ (uT s 3 = true ∧ uT t 3 = true)) : SK l X 3 209 [vR 25 0, vI s, vI a, vI t, vI b, vI n] (ii, jj, mj_rk kd, 108) (some (vI (fA 0))) (ii, jj, mj_rk kd, 108) := by
  refine SK.of (by decide) (by decide) rfl ?_
  have tail : GB l X 3 0 0 209 (14, [some (vR 25 0), some (vI s), some (vI a), some (vI t), some (vI b), some (vI n), none], [], (ii, jj, mj_rk kd, 108)) (some (vI (fA 0))) (ii, jj, mj_rk kd, 108) := by
    refine GB.go 9999 rfl aB0 ?_
    exact GB.ret rfl rfl aB0
  refine GB.go 9999 rfl aB0 ?_
  refine GB.cal rfl rfl (by decide) (m_isSheet _ s) ?_
  refine GB.br rfl rfl (fun c => ?_) (fun c => ?_)
  · exact tail
  · refine GB.go 9999 rfl aB0 ?_
    refine GB.cal rfl rfl (by decide) (m_isSheet _ t) ?_
    refine GB.br rfl rfl (fun c2 => ?_) (fun c2 => ?_)
    · exact tail
    · exact absurd ⟨bI_t c, bI_t c2⟩ h
theorem m_notCop (s : Nat) (a : Int32) (t : Nat) (b n : Int32) (hs : s < 4) (ht : t < 4) : SK l X 3 209 [vR 25 0, vI (nI s), vI a, vI (nI t), vI b, vI n] (ii, jj, mj_rk kd, 108) (some (vI (ncA (ncO ii s a t b n)))) (ii, jj, mj_rk kd, 108) := by
  refine SK.of (by decide) (by decide) rfl ?_
  have miss : ii 31 0 s = 0 ∨ ii 31 0 t = 0 → GB l X 3 0 0 209 (35, [some (vR 25 0), some (vI (nI s)), some (vI a), some (vI (nI t)), some (vI b), some (vI n), none], [], (ii, jj, mj_rk kd, 108)) (some (vI (ncA (ncO ii s a t b n)))) (ii, jj, mj_rk kd, 108) := fun h => by
    rw [show ncO ii s a t b n = some 5 from if_pos h]
    refine GB.go 9999 rfl aB0 ?_
    exact GB.ret rfl rfl aB0
  refine GB.go 9999 rfl aB0 ?_
  refine GB.cal rfl rfl (by decide) (m_isSheet _ _) ?_
  refine GB.br rfl rfl (fun c => ?_) (fun c => ?_)
  · exact absurd c (b0_of (uT_ok (show s ≤ 3 by omega) (by decide)))
  · refine GB.go 9999 rfl aB0 ?_
    refine GB.cal rfl rfl (by decide) (m_isSheet _ _) ?_
    refine GB.br rfl rfl (fun c2 => ?_) (fun c2 => ?_)
    · exact absurd c2 (b0_of (uT_ok (show t ≤ 3 by omega) (by decide)))
    · refine GB.go 23 rfl (aB1 (mn_vin (show s < 4 by omega) (by decide)) aB0) ?_
      rw [nI_clamp (show s < 2 ^ 31 by omega)]
      refine GB.br rfl rfl (fun c3 => ?_) (fun c3 => ?_)
      · exact miss (Or.inl c3)
      · refine GB.go 32 rfl (aB1 (mn_vin (show t < 4 by omega) (by decide)) aB0) ?_
        rw [nI_clamp (show t < 2 ^ 31 by omega)]
        refine GB.br rfl rfl (fun c4 => ?_) (fun c4 => ?_)
        · exact miss (Or.inr c4)
        · have q1 : ¬ (ii 31 0 s = 0 ∨ ii 31 0 t = 0) := by rintro (h | h); exact c3 h; exact c4 h
          refine GB.go 44 rfl (aB1 (mn_vin (show s < 4 by omega) (by decide)) aB0) ?_
          rw [nI_clamp (show s < 2 ^ 31 by omega)]
          refine GB.go 50 rfl (aB1 (mn_vin (show t < 4 by omega) (by decide)) aB0) ?_
          rw [nI_clamp (show t < 2 ^ 31 by omega)]
          refine GB.br rfl rfl (fun c5 => ?_) (fun c5 => ?_)
          · have no : ¬ (¬ n < 0 ∧ ¬ a < 0 ∧ ¬ b < 0 ∧ n ≤ ii 32 0 s - a ∧ n ≤ ii 32 0 t - b) → GB l X 3 0 0 209 (101, [some (vR 25 0), some (vI (nI s)), some (vI a), some (vI (nI t)), some (vI b), some (vI n), none], [], (ii, jj, mj_rk kd, 108)) (some (vI (ncA (ncO ii s a t b n)))) (ii, jj, mj_rk kd, 108) := fun h => by
              rw [show ncO ii s a t b n = some 0 from (if_neg q1).trans ((if_neg (not_not_intro c5)).trans (if_neg h))]
              refine GB.go 9999 rfl aB0 ?_
              refine GB.br rfl rfl (fun d => ?_) (fun d => ?_)
              · refine GB.go 9999 rfl aB0 ?_
                exact GB.ret rfl rfl aB0
              · exact absurd rfl d
            refine GB.go 9999 rfl aB0 ?_
            refine GB.br rfl rfl (fun d1 => ?_) (fun d1 => ?_)
            · exact no (fun h => h.1 d1)
            · refine GB.go 9999 rfl aB0 ?_
              refine GB.br rfl rfl (fun d2 => ?_) (fun d2 => ?_)
              · exact no (fun h => h.2.1 d2)
              · refine GB.go 9999 rfl aB0 ?_
                refine GB.br rfl rfl (fun d3 => ?_) (fun d3 => ?_)
                · exact no (fun h => h.2.2.1 d3)
                · refine GB.go 78 rfl (aB1 (mn_vin (show s < 4 by omega) (by decide)) aB0) ?_
                  rw [nI_clamp (show s < 2 ^ 31 by omega)]
                  refine GB.go 9999 rfl aB0 ?_
                  refine GB.br rfl rfl (fun d4 => ?_) (fun d4 => ?_)
                  · exact no (fun h => absurd d4 (Int32.not_lt.mpr h.2.2.2.1))
                  · refine GB.go 91 rfl (aB1 (mn_vin (show t < 4 by omega) (by decide)) aB0) ?_
                    rw [nI_clamp (show t < 2 ^ 31 by omega)]
                    refine GB.go 9999 rfl aB0 ?_
                    refine GB.br rfl rfl (fun d5 => ?_) (fun d5 => ?_)
                    · exact no (fun h => absurd d5 (Int32.not_lt.mpr h.2.2.2.2))
                    · rw [show ncO ii s a t b n = none from (if_neg q1).trans ((if_neg (not_not_intro c5)).trans (if_pos ⟨d1, d2, d3, Int32.not_lt.mp d4, Int32.not_lt.mp d5⟩))]
                      refine GB.go 9999 rfl aB0 ?_
                      refine GB.br rfl rfl (fun d6 => ?_) (fun d6 => ?_)
                      · exact absurd d6 (by decide)
                      · refine GB.go 9999 rfl aB0 ?_
                        exact GB.ret rfl rfl aB0
          · rw [show ncO ii s a t b n = some 2 from (if_neg q1).trans (if_pos c5)]
            refine GB.go 9999 rfl aB0 ?_
            exact GB.ret rfl rfl aB0
theorem m_copy0 (s a t b n : Int32) (h : ¬ (uT s 3 = true ∧ uT t 3 = true)) : SK l X 4 210 [vR 25 0, vI s, vI a, vI t, vI b, vI n] (ii, jj, mj_rk kd, 108) (some (vI (fA 0))) (fnm ii 0, jj, mj_rk kd, 108) := by
  refine SK.of (by decide) (by decide) rfl ?_
  refine GB.go 9999 rfl aB0 ?_
  refine GB.cal rfl rfl (by decide) (m_notCop0 s a t b n h) ?_
  refine GB.go 9999 rfl aB0 ?_
  refine GB.br rfl rfl (fun c => ?_) (fun c => ?_)
  · exact absurd c (by decide)
  · refine GB.go 9999 rfl aB0 ?_
    refine GB.cal rfl rfl (by decide) (m_finds 0 (by decide)) ?_
    exact GB.ret rfl rfl aB0
theorem fA_ne : ∀ k, k < 7 → ¬ fA k = 0 := by decide +kernel
theorem m_copy1 (s : Nat) (a : Int32) (t : Nat) (b n : Int32) (hs : s < 4) (ht : t < 4) (k : Nat) (hk : k < 7) (e : ncO ii s a t b n = some k) : SK l X 4 210 [vR 25 0, vI (nI s), vI a, vI (nI t), vI b, vI n] (ii, jj, mj_rk kd, 108) (some (vI (fA k))) (fnm ii k, jj, mj_rk kd, 108) := by
  have q := m_notCop (l := l) (X := X) (ii := ii) (jj := jj) (kd := kd) s a t b n hs ht
  rw [e] at q
  refine SK.of (by decide) (by decide) rfl ?_
  refine GB.go 9999 rfl aB0 ?_
  refine GB.cal rfl rfl (by decide) (q) ?_
  refine GB.go 9999 rfl aB0 ?_
  refine GB.br rfl rfl (fun c => ?_) (fun c => ?_)
  · exact absurd c (fA_ne k hk)
  · refine GB.go 9999 rfl aB0 ?_
    refine GB.cal rfl rfl (by decide) (m_finds k hk) ?_
    exact GB.ret rfl rfl aB0
theorem m_copyU (s t : Nat) (a b n : Nat) (hs : s < 4) (ht : t < 4) (ha : a + n ≤ 40) (hb : b + n ≤ 40) (hab : ¬ a < b) : ∀ N k v8, k + N = n → GB l X 4 0 0 210 (28, [some (vR 25 0), some (vI (nI s)), some (vI (nI a)), some (vI (nI t)), some (vI (nI b)), some (vI (nI n)), some (vI 0), some (vI (nI k)), v8], [], (ii, cpX jj (40 * s + a) (40 * t + b) 0 k, mj_rk kd, 108)) (some (vI (nI n))) (ii, cpX jj (40 * s + a) (40 * t + b) 0 n, mj_rk kd, 108)
  | 0, k, v8, h => by
    rw [show k = n by omega]
    refine GB.go 9999 rfl aB0 ?_
    refine GB.br rfl rfl (fun c => ?_) (fun c => ?_)
    · refine GB.go 9999 rfl aB0 ?_
      exact GB.ret rfl rfl aB0
    · exact absurd (Int32.le_refl _) c
  | N + 1, k, v8, h => by
    have ih := m_copyU s t a b n hs ht ha hb hab N (k + 1)
    rw [nI_succ k, ← cpX_hi (Nat.zero_le k)] at ih
    refine GB.go 9999 rfl aB0 ?_
    refine GB.br rfl rfl (fun c => ?_) (fun c => ?_)
    · exact absurd c (nI_ge (show k < n by omega) (by omega))
    · refine GB.go 9999 rfl aB0 ?_
      refine GB.br rfl rfl (fun c2 => ?_) (fun c2 => ?_)
      · refine GB.go 66 rfl aB0 ?_
        rw [sp_s]
        refine GB.go 69 rfl aB0 ?_
        rw [nI_add]
        refine GB.go 79 rfl aB0 ?_
        rw [sp_s]
        refine GB.go 82 rfl aB0 ?_
        rw [nI_add]
        refine GB.go 83 rfl (aB1 (mn_vin (show 40 * s + a + k < 160 by omega) (by decide)) aB0) ?_
        rw [nI_clamp (show 40 * s + a + k < 2 ^ 31 by omega)]
        rw [cpX_out (show 40 * s + a + k < 40 * t + b + 0 ∨ 40 * t + b + k ≤ 40 * s + a + k by omega)]
        refine GB.go 84 rfl (aB1 (mn_vin (show 40 * t + b + k < 160 by omega) (by decide)) aB0) ?_
        rw [nI_clamp (show 40 * t + b + k < 2 ^ 31 by omega)]
        refine GB.go 28 rfl aB0 ?_
        exact ih _ (by omega)
      · exact absurd (nI_le (Nat.le_of_not_lt hab) (by omega)) c2
theorem m_copyD (s t : Nat) (a b n : Nat) (hs : s < 4) (ht : t < 4) (ha : a + n ≤ 40) (hb : b + n ≤ 40) (hab : a < b) : ∀ N k v8, k + N = n → GB l X 4 0 0 210 (28, [some (vR 25 0), some (vI (nI s)), some (vI (nI a)), some (vI (nI t)), some (vI (nI b)), some (vI (nI n)), some (vI 0), some (vI (nI k)), v8], [], (ii, cpX jj (40 * s + a) (40 * t + b) N n, mj_rk kd, 108)) (some (vI (nI n))) (ii, cpX jj (40 * s + a) (40 * t + b) 0 n, mj_rk kd, 108)
  | 0, k, v8, h => by
    rw [show k = n by omega]
    refine GB.go 9999 rfl aB0 ?_
    refine GB.br rfl rfl (fun c => ?_) (fun c => ?_)
    · refine GB.go 9999 rfl aB0 ?_
      exact GB.ret rfl rfl aB0
    · exact absurd (Int32.le_refl _) c
  | N + 1, k, v8, h => by
    have ih := m_copyD s t a b n hs ht ha hb hab N (k + 1)
    rw [nI_succ k, ← cpX_lo (show N < n by omega)] at ih
    refine GB.go 9999 rfl aB0 ?_
    refine GB.br rfl rfl (fun c => ?_) (fun c => ?_)
    · exact absurd c (nI_ge (show k < n by omega) (by omega))
    · refine GB.go 9999 rfl aB0 ?_
      refine GB.br rfl rfl (fun c2 => ?_) (fun c2 => ?_)
      · exact absurd c2 (nI_ge hab (by omega))
      · refine GB.go 48 rfl aB0 ?_
        rw [show nI n - 1 - nI k = nI N by
          rw [show (1 : Int32) = nI 1 from rfl, pk_sub (by omega), pk_sub (by omega)]
          congr 1
          omega]
        refine GB.go 66 rfl aB0 ?_
        rw [sp_s]
        refine GB.go 69 rfl aB0 ?_
        rw [nI_add]
        refine GB.go 79 rfl aB0 ?_
        rw [sp_s]
        refine GB.go 82 rfl aB0 ?_
        rw [nI_add]
        refine GB.go 83 rfl (aB1 (mn_vin (show 40 * s + a + N < 160 by omega) (by decide)) aB0) ?_
        rw [nI_clamp (show 40 * s + a + N < 2 ^ 31 by omega)]
        rw [cpX_out (show 40 * s + a + N < 40 * t + b + (N + 1) ∨ 40 * t + b + n ≤ 40 * s + a + N by omega)]
        refine GB.go 84 rfl (aB1 (mn_vin (show 40 * t + b + N < 160 by omega) (by decide)) aB0) ?_
        rw [nI_clamp (show 40 * t + b + N < 2 ^ 31 by omega)]
        refine GB.go 28 rfl aB0 ?_
        exact ih _ (by omega)
theorem m_copy (s t : Nat) (a b n : Nat) (hs : s < 4) (ht : t < 4) (ha : a + n ≤ 40) (hb : b + n ≤ 40) (e : ncO ii s (nI a) t (nI b) (nI n) = none) : SK l X 4 210 [vR 25 0, vI (nI s), vI (nI a), vI (nI t), vI (nI b), vI (nI n)] (ii, jj, mj_rk kd, 108) (some (vI (nI n))) (ii, cpX jj (40 * s + a) (40 * t + b) 0 n, mj_rk kd, 108) := by
  have q := m_notCop (l := l) (X := X) (ii := ii) (jj := jj) (kd := kd) s (nI a) t (nI b) (nI n) hs ht
  rw [e] at q
  refine SK.of (by decide) (by decide) rfl ?_
  refine GB.go 9999 rfl aB0 ?_
  refine GB.cal rfl rfl (by decide) (q) ?_
  refine GB.go 9999 rfl aB0 ?_
  refine GB.br rfl rfl (fun c => ?_) (fun c => ?_)
  · refine GB.go 28 rfl aB0 ?_
    by_cases hab : a < b
    · have L := m_copyD (l := l) (X := X) (ii := ii) (jj := jj) (kd := kd) s t a b n hs ht ha hb hab n 0 none (by omega)
      rw [cpX_0] at L
      exact L
    · have L := m_copyU (l := l) (X := X) (ii := ii) (jj := jj) (kd := kd) s t a b n hs ht ha hb hab n 0 none (by omega)
      rw [cpX_0] at L
      exact L
  · exact absurd rfl c
theorem m_noAsk0 (v w : Int32) (h : uT v 3 = false) : SK l X 4 212 [vR 25 0, vI v, vI w] (ii, jj, mj_rk kd, 108) (some (vI (fA 0))) (ii, jj, mj_rk kd, 108) := by
  refine SK.of (by decide) (by decide) rfl ?_
  refine GB.go 9999 rfl aB0 ?_
  refine GB.cal rfl rfl (by decide) (m_noSh0 v h) ?_
  refine GB.go 9999 rfl aB0 ?_
  refine GB.br rfl rfl (fun c => ?_) (fun c => ?_)
  · exact absurd c (by decide)
  · refine GB.go 9999 rfl aB0 ?_
    exact GB.ret rfl rfl aB0
theorem m_noAsk1 (s : Nat) (w : Int32) (hs : s < 4) (hb : ii 31 0 s = 0) : SK l X 4 212 [vR 25 0, vI (nI s), vI w] (ii, jj, mj_rk kd, 108) (some (vI (fA 5))) (ii, jj, mj_rk kd, 108) := by
  refine SK.of (by decide) (by decide) rfl ?_
  refine GB.go 9999 rfl aB0 ?_
  refine GB.cal rfl rfl (by decide) (m_noSh1 s hs hb) ?_
  refine GB.go 9999 rfl aB0 ?_
  refine GB.br rfl rfl (fun c => ?_) (fun c => ?_)
  · exact absurd c (by decide)
  · refine GB.go 9999 rfl aB0 ?_
    exact GB.ret rfl rfl aB0
theorem m_noAsk2 (s : Nat) (w : Int32) {n : Nat} (hs : s < 4) (hb : ¬ ii 31 0 s = 0) (hn : n ≤ 8) (h0 : ii 26 0 2 = nI n) (hw : ¬ (¬ w < 0 ∧ ¬ nI n ≤ w)) : SK l X 4 212 [vR 25 0, vI (nI s), vI w] (ii, jj, mj_rk kd, 108) (some (vI (fA 0))) (ii, jj, mj_rk kd, 108) := by
  refine SK.of (by decide) (by decide) rfl ?_
  refine GB.go 9999 rfl aB0 ?_
  refine GB.cal rfl rfl (by decide) (m_noSh s hs hb) ?_
  refine GB.go 9999 rfl aB0 ?_
  refine GB.br rfl rfl (fun c => ?_) (fun c => ?_)
  · refine GB.go 9999 rfl aB0 ?_
    refine GB.cal rfl rfl (by decide) (m_isHat w hn h0) ?_
    refine GB.br rfl rfl (fun c2 => ?_) (fun c2 => ?_)
    · refine GB.go 9999 rfl aB0 ?_
      exact GB.ret rfl rfl aB0
    · exact absurd (bd_t c2) hw
  · exact absurd rfl c
theorem m_noAsk (s i : Nat) {n : Nat} (hs : s < 4) (hb : ¬ ii 31 0 s = 0) (hn : n ≤ 8) (h0 : ii 26 0 2 = nI n) (hi : i < n) : SK l X 4 212 [vR 25 0, vI (nI s), vI (nI i)] (ii, jj, mj_rk kd, 108) (some (vI 0)) (ii, jj, mj_rk kd, 108) := by
  refine SK.of (by decide) (by decide) rfl ?_
  refine GB.go 9999 rfl aB0 ?_
  refine GB.cal rfl rfl (by decide) (m_noSh s hs hb) ?_
  refine GB.go 9999 rfl aB0 ?_
  refine GB.br rfl rfl (fun c => ?_) (fun c => ?_)
  · refine GB.go 9999 rfl aB0 ?_
    refine GB.cal rfl rfl (by decide) (m_isHat _ hn h0) ?_
    refine GB.br rfl rfl (fun c2 => ?_) (fun c2 => ?_)
    · exact absurd (in_ok hi (by omega) rfl) (bd_f c2)
    · refine GB.go 9999 rfl aB0 ?_
      exact GB.ret rfl rfl aB0
  · exact absurd rfl c
theorem m_bookF (v w : Int32) (k : Nat) (hk : k < 7) (q : SK l X 4 212 [vR 25 0, vI v, vI w] (ii, jj, mj_rk kd, 108) (some (vI (fA k))) (ii, jj, mj_rk kd, 108)) : SK l X 8 213 [vR 25 0, vI v, vI w] (ii, jj, mj_rk kd, 108) (some (vI (fA k))) (fnm ii k, jj, mj_rk kd, 108) := by
  refine SK.of (by decide) (by decide) rfl ?_
  refine GB.go 9999 rfl aB0 ?_
  refine GB.cal rfl rfl (by decide) (q) ?_
  refine GB.go 9999 rfl aB0 ?_
  refine GB.br rfl rfl (fun c => ?_) (fun c => ?_)
  · exact absurd c (fA_ne k hk)
  · refine GB.go 9999 rfl aB0 ?_
    refine GB.cal rfl rfl (by decide) (m_finds k hk) ?_
    exact GB.ret rfl rfl aB0
theorem m_readF (v w : Int32) (k : Nat) (hk : k < 7) (q : SK l X 4 212 [vR 25 0, vI v, vI w] (ii, jj, mj_rk kd, 108) (some (vI (fA k))) (ii, jj, mj_rk kd, 108)) : SK l X 8 215 [vR 25 0, vI v, vI w] (ii, jj, mj_rk kd, 108) (some (vI (fA k))) (fnm ii k, jj, mj_rk kd, 108) := by
  refine SK.of (by decide) (by decide) rfl ?_
  refine GB.go 9999 rfl aB0 ?_
  refine GB.cal rfl rfl (by decide) (q) ?_
  refine GB.go 9999 rfl aB0 ?_
  refine GB.br rfl rfl (fun c => ?_) (fun c => ?_)
  · exact absurd c (fA_ne k hk)
  · refine GB.go 9999 rfl aB0 ?_
    refine GB.cal rfl rfl (by decide) (m_finds k hk) ?_
    exact GB.ret rfl rfl aB0
/-- a hat's freshness k weeks on -/
def frW (c w : Nat) (mo : Int32) (f : Nat → Int32) (k : Nat) : Int64 := (aF (wkRs c w mo f k) 12).toInt64
theorem m_bookL (s i z n w : Nat) {K : Nat → Nat} {ti : Nat → Nat → Nat → Int32} (hs : s < 4) (hz : ti 32 0 s = nI z) (hzl : z ≤ 40) (T : mI ti n w K) (hi : i < n) (hw : w + 40 < 2 ^ 31) (F : Nat → Int64) (A : ∀ k, k < z → (aF (mR (mSk K n ti k) i) 12).toInt64 = F k) : ∀ N k, k + N = z → GB l X 8 0 0 213 (24, [some (vR 25 0), some (vI (nI s)), some (vI (nI i)), some (vI 0), some (vI (nI k))], [], (mSk K n ti k, wL jj s k F, mj_rk kd, 108)) (some (vI (nI z))) (wA (mSk K n ti z) 26 0 134 (mSk K n ti z 28 0), wL jj s z F, mj_rk kd, 108)
  | 0, k, e => by
    rw [show k = z by omega]
    refine GB.go 32 rfl (aB1 (mn_vin (show s < 4 by omega) (by decide)) aB0) ?_
    rw [nI_clamp (show s < 2 ^ 31 by omega)]
    rw [mSk_tag (by decide), hz]
    refine GB.br rfl rfl (fun c => ?_) (fun c => ?_)
    · refine GB.go 9999 rfl aB0 ?_
      refine GB.cal rfl rfl (by decide) (m_putsBack) ?_
      refine GB.go 73 rfl (aB1 (mn_vin (show s < 4 by omega) (by decide)) aB0) ?_
      rw [nI_clamp (show s < 2 ^ 31 by omega)]
      rw [wA_tg (by decide), mSk_tag (by decide), hz]
      exact GB.ret rfl rfl aB0
    · exact absurd (Int32.le_refl _) c
  | N + 1, k, e => by
    have n8 := T.1
    have ih := m_bookL s i z n w hs hz hzl T hi hw F A N (k + 1) (by omega)
    rw [nI_succ k, ← wL_s, ← A k (by omega)] at ih
    refine GB.go 32 rfl (aB1 (mn_vin (show s < 4 by omega) (by decide)) aB0) ?_
    rw [nI_clamp (show s < 2 ^ 31 by omega)]
    rw [mSk_tag (by decide), hz]
    refine GB.br rfl rfl (fun c => ?_) (fun c => ?_)
    · exact absurd c (nI_ge (show k < z by omega) (by omega))
    · refine GB.go 46 rfl aB0 ?_
      rw [sp_s]
      refine GB.go 9999 rfl aB0 ?_
      refine GB.cal rfl rfl (by decide) (m_freshOf i (by omega)) ?_
      refine GB.go 52 rfl aB0 ?_
      refine GB.go 53 rfl (aB1 (mn_vin (show 40 * s + k < 160 by omega) (by decide)) aB0) ?_
      rw [nI_clamp (show 40 * s + k < 2 ^ 31 by omega)]
      refine GB.go 9999 rfl aB0 ?_
      refine GB.cal rfl rfl (by decide) (m_wk (mSk_I T k (by omega)) (by omega)) ?_
      refine GB.go 24 rfl aB0 ?_
      exact ih
theorem th_row {i : Nat} {F : Nat → Int32} : mR (wA ii 28 0 134 F) i = mR ii i := by
  funext t
  unfold mR
  rw [wA_tg (by decide)]
theorem m_book (s i z n w : Nat) {K : Nat → Nat} (hs : s < 4) (hb : ¬ ii 31 0 s = 0) (hz : ii 32 0 s = nI z) (hzl : z ≤ 40) (h : mI ii n w K) (hi : i < n) (hw : w + 40 < 2 ^ 31) : ∃ i2, SK l X 8 213 [vR 25 0, vI (nI s), vI (nI i)] (ii, jj, mj_rk kd, 108) (some (vI (nI z))) (i2, wL jj s z (frW (K i) w (ii 26 0 1) (mR ii i)), mj_rk kd, 108) ∧ smM ii i2 := by
  have T := mI_th (F := ii 26 0) h
  have L := m_bookL (l := l) (X := X) (jj := jj) (kd := kd) s i z n w (ti := wA ii 28 0 134 (ii 26 0)) hs (by rw [wA_tg (by decide), hz]) hzl T hi hw (frW (K i) w (ii 26 0 1) (mR ii i)) (fun k hk => by
    have A := mSk_at T hi k (by omega)
    rw [show wA ii 28 0 134 (ii 26 0) 26 0 1 = ii 26 0 1 by rw [wA_tg (by decide)], th_row] at A
    unfold frW
    rw [aF_c 12 A]) z 0 (by omega)
  rw [wL_0] at L
  refine ⟨_, ?_, smM_back (i2 := mSk K n (wA ii 28 0 134 (ii 26 0)) z) (fun a ha => mSk_tag ha z)⟩
  refine SK.of (by decide) (by decide) rfl ?_
  refine GB.go 9999 rfl aB0 ?_
  refine GB.cal rfl rfl (by decide) (m_noAsk s i hs hb h.1 h.2.1 hi) ?_
  refine GB.go 9999 rfl aB0 ?_
  refine GB.br rfl rfl (fun c => ?_) (fun c => ?_)
  · refine GB.go 9999 rfl aB0 ?_
    refine GB.cal rfl rfl (by decide) (m_thinks) ?_
    refine GB.go 24 rfl aB0 ?_
    exact L
  · exact absurd rfl c
/-- all numbers are as they should be -/
def bkP (C F : Nat → Int64) : Nat → Nat → Bool
  | 0, _ => true
  | N + 1, k => if C k = F k then bkP C F N (k + 1) else false
theorem bkP_c {C F C' F' : Nat → Int64} : ∀ N k, (∀ j, k ≤ j → j < k + N → C j = C' j ∧ F j = F' j) → bkP C F N k = bkP C' F' N k
  | 0, _, _ => rfl
  | N + 1, k, h => by
    unfold bkP
    rw [(h k (Nat.le_refl k) (by omega)).1, (h k (Nat.le_refl k) (by omega)).2, bkP_c N (k + 1) (fun j h1 h2 => h j (by omega) (by omega))]
theorem lc_eq {x y : Int64} : lg_cmp x y = 0 ↔ x = y := by
  unfold lg_cmp
  split
  · next h => exact ⟨fun q => absurd q (by decide), fun q => absurd (show y < x from h) (by rw [q]; exact Int64.lt_irrefl)⟩
  · split
    · next h => exact ⟨fun _ => h, fun _ => rfl⟩
    · next h => exact ⟨fun q => absurd q (by decide), fun q => absurd q h⟩
theorem m_isBookE (s i : Nat) (v : Int32) (v4 : Option MV) : GB l X 7 0 0 214 (58, [some (vR 25 0), some (vI (nI s)), some (vI (nI i)), some (vI (bI (decide (v = 1)))), v4], [], (ii, jj, mj_rk kd, 108)) (some (vI (bI (decide (v = 1))))) (wA ii 26 0 134 (ii 28 0), jj, mj_rk kd, 108) := by
  refine GB.go 9999 rfl aB0 ?_
  refine GB.cal rfl rfl (by decide) (m_putsBack) ?_
  refine GB.go 9999 rfl aB0 ?_
  exact GB.ret rfl rfl (aB1 (bI_ok _) aB0)
theorem m_isBookL (s i z n w : Nat) {K : Nat → Nat} {ti : Nat → Nat → Nat → Int32} (hs : s < 4) (hz : ti 32 0 s = nI z) (hzl : z ≤ 40) (T : mI ti n w K) (hi : i < n) (hw : w + 40 < 2 ^ 31) : ∀ N k, k + N = z → ∃ k', GB l X 7 0 0 214 (5, [some (vR 25 0), some (vI (nI s)), some (vI (nI i)), some (vI 1), some (vI (nI k))], [], (mSk K n ti k, jj, mj_rk kd, 108)) (some (vI (bI (bkP (fun k => jj 33 0 (40 * s + k)) (fun k => (aF (mR (mSk K n ti k) i) 12).toInt64) N k)))) (wA (mSk K n ti k') 26 0 134 (mSk K n ti k' 28 0), jj, mj_rk kd, 108)
  | 0, k, e => by
    refine ⟨k, ?_⟩
    rw [show k = z by omega]
    refine GB.go 13 rfl (aB1 (mn_vin (show s < 4 by omega) (by decide)) aB0) ?_
    rw [nI_clamp (show s < 2 ^ 31 by omega)]
    rw [mSk_tag (by decide), hz]
    refine GB.br rfl rfl (fun c => ?_) (fun c => ?_)
    · exact m_isBookE s i 1 _
    · exact absurd (Int32.le_refl _) c
  | N + 1, k, e => by
    have n8 := T.1
    by_cases q : jj 33 0 (40 * s + k) = (aF (mR (mSk K n ti k) i) 12).toInt64
    · obtain ⟨k', ih⟩ := m_isBookL s i z n w hs hz hzl T hi hw N (k + 1) (by omega)
      refine ⟨k', ?_⟩
      rw [nI_succ k] at ih
      rw [show bkP (fun k => jj 33 0 (40 * s + k)) (fun k => (aF (mR (mSk K n ti k) i) 12).toInt64) (N + 1) k = bkP (fun k => jj 33 0 (40 * s + k)) (fun k => (aF (mR (mSk K n ti k) i) 12).toInt64) N (k + 1) from if_pos q]
      refine GB.go 13 rfl (aB1 (mn_vin (show s < 4 by omega) (by decide)) aB0) ?_
      rw [nI_clamp (show s < 2 ^ 31 by omega)]
      rw [mSk_tag (by decide), hz]
      refine GB.br rfl rfl (fun c => ?_) (fun c => ?_)
      · exact absurd c (nI_ge (show k < z by omega) (by omega))
      · refine GB.go 9999 rfl aB0 ?_
        refine GB.br rfl rfl (fun c2 => ?_) (fun c2 => ?_)
        · exact absurd c2 (by decide)
        · refine GB.go 31 rfl aB0 ?_
          rw [sp_s]
          refine GB.go 32 rfl (aB1 (mn_vin (show 40 * s + k < 160 by omega) (by decide)) aB0) ?_
          rw [nI_clamp (show 40 * s + k < 2 ^ 31 by omega)]
          refine GB.go 9999 rfl aB0 ?_
          refine GB.cal rfl rfl (by decide) (m_freshOf i (by omega)) ?_
          refine GB.go 9999 rfl aB0 ?_
          refine GB.br rfl rfl (fun c3 => ?_) (fun c3 => ?_)
          · refine GB.go 9999 rfl aB0 ?_
            refine GB.cal rfl rfl (by decide) (m_wk (mSk_I T k (by omega)) (by omega)) ?_
            refine GB.go 5 rfl aB0 ?_
            exact ih
          · exact absurd (lc_eq.mpr q) c3
    · refine ⟨k + 1, ?_⟩
      rw [show bkP (fun k => jj 33 0 (40 * s + k)) (fun k => (aF (mR (mSk K n ti k) i) 12).toInt64) (N + 1) k = false from if_neg q]
      have E := fun v4 => m_isBookE (l := l) (X := X) (ii := mSk K n ti (k + 1)) (jj := jj) (kd := kd) s i 0 v4
      refine GB.go 13 rfl (aB1 (mn_vin (show s < 4 by omega) (by decide)) aB0) ?_
      rw [nI_clamp (show s < 2 ^ 31 by omega)]
      rw [mSk_tag (by decide), hz]
      refine GB.br rfl rfl (fun c => ?_) (fun c => ?_)
      · exact absurd c (nI_ge (show k < z by omega) (by omega))
      · refine GB.go 9999 rfl aB0 ?_
        refine GB.br rfl rfl (fun c2 => ?_) (fun c2 => ?_)
        · exact absurd c2 (by decide)
        · refine GB.go 31 rfl aB0 ?_
          rw [sp_s]
          refine GB.go 32 rfl (aB1 (mn_vin (show 40 * s + k < 160 by omega) (by decide)) aB0) ?_
          rw [nI_clamp (show 40 * s + k < 2 ^ 31 by omega)]
          refine GB.go 9999 rfl aB0 ?_
          refine GB.cal rfl rfl (by decide) (m_freshOf i (by omega)) ?_
          refine GB.go 9999 rfl aB0 ?_
          refine GB.br rfl rfl (fun c3 => ?_) (fun c3 => ?_)
          · exact absurd (lc_eq.mp c3) q
          · refine GB.go 9999 rfl aB0 ?_
            refine GB.cal rfl rfl (by decide) (m_wk (mSk_I T k (by omega)) (by omega)) ?_
            refine GB.go 5 rfl aB0 ?_
            refine GB.go 13 rfl (aB1 (mn_vin (show s < 4 by omega) (by decide)) aB0) ?_
            rw [nI_clamp (show s < 2 ^ 31 by omega)]
            rw [show mS1 K n (mSk K n ti k) = mSk K n ti (k + 1) from rfl, mSk_tag (by decide), hz]
            refine GB.br rfl rfl (fun c4 => ?_) (fun c4 => ?_)
            · exact E _
            · refine GB.go 9999 rfl aB0 ?_
              refine GB.br rfl rfl (fun c5 => ?_) (fun c5 => ?_)
              · exact E _
              · exact absurd rfl c5
theorem m_isBook (s i z n w : Nat) {K : Nat → Nat} {ti : Nat → Nat → Nat → Int32} (hs : s < 4) (hz : ti 32 0 s = nI z) (hzl : z ≤ 40) (T : mI ti n w K) (hi : i < n) (hw : w + 40 < 2 ^ 31) : ∃ k', SK l X 7 214 [vR 25 0, vI (nI s), vI (nI i)] (ti, jj, mj_rk kd, 108) (some (vI (bI (bkP (fun k => jj 33 0 (40 * s + k)) (fun k => (aF (mR (mSk K n ti k) i) 12).toInt64) z 0)))) (wA (mSk K n ti k') 26 0 134 (mSk K n ti k' 28 0), jj, mj_rk kd, 108) := by
  obtain ⟨k', L⟩ := m_isBookL (l := l) (X := X) (jj := jj) (kd := kd) s i z n w hs hz hzl T hi hw z 0 (by omega)
  refine ⟨k', ?_⟩
  refine SK.of (by decide) (by decide) rfl ?_
  refine GB.go 5 rfl aB0 ?_
  exact L
/-- a place of a row set -/
def rwS (f : Nat → Int32) (t : Nat) (v : Int32) : Nat → Int32 := fun x => if x = t then v else f x
/-- turn k of the reader -/
def rdP (C : Nat → Int64) (w : Nat) (mo : Int32) (f : Nat → Int32) (z k : Nat) : Bool := bkP C (frW (k / 12) w mo (rwS f (k % 12) 9)) z 0
def rdN (P : Nat → Bool) : Nat → Int32
  | 0 => 0
  | k + 1 => rdN P k + bI (P k)
theorem rN_rwS {f : Nat → Int32} {t x : Nat} (h : rN f) (hx : x ≤ 9) : rN (rwS f t (nI x)) := fun y hy => by
  unfold rwS
  split
  · exact ⟨x, hx, rfl⟩
  · exact h y hy
theorem mI_fr {n w i t : Nat} {K : Nat → Nat} (h : mI ii n w K) (ht : t < 12) : mI (up3 ii 26 0 (6 + 14 * i + t) 9) n w K := by
  obtain ⟨h1, h2, h3, h4, h5⟩ := h
  refine ⟨h1, by rw [up3_pl (by omega), h2], by rw [up3_pl (by omega), h3], fun j hj => ⟨(h4 j hj).1, by rw [up3_pl (by omega)]; exact (h4 j hj).2⟩, fun j hj x hx => ?_⟩
  by_cases e : 6 + 14 * j + x = 6 + 14 * i + t
  · refine ⟨9, Nat.le_refl _, ?_⟩
    unfold mR
    rw [e, up3_rd]
    rfl
  · unfold mR
    rw [up3_pl e]
    exact h5 j hj x hx
theorem m_readL (s i z n w : Nat) {K : Nat → Nat} (hs : s < 4) (hz : ii 32 0 s = nI z) (hzl : z ≤ 40) (h : mI ii n w K) (hi : i < n) (hw : w + 40 < 2 ^ 31) : ∀ N k i2, k + N = 72 → tqM ii i2 → ∃ i3, GB l X 8 0 0 215 (27, [some (vR 25 0), some (vI (nI s)), some (vI (nI i)), some (vI 0), some (vI (rdN (rdP (fun k => jj 33 0 (40 * s + k)) w (ii 26 0 1) (mR ii i) z) k)), some (vI (nI k))], [], (i2, jj, mj_rk kd, 108)) (some (vI (rdN (rdP (fun k => jj 33 0 (40 * s + k)) w (ii 26 0 1) (mR ii i) z) 72))) (i3, jj, mj_rk kd, 108) ∧ smM ii i3
  | 0, k, i2, e, hq => by
    refine ⟨i2, ?_, tqM_sm hq⟩
    rw [show k = 72 by omega]
    refine GB.go 9999 rfl aB0 ?_
    refine GB.br rfl rfl (fun c => ?_) (fun c => ?_)
    · refine GB.go 9999 rfl aB0 ?_
      exact GB.ret rfl rfl aB0
    · exact absurd (Int32.le_refl _) c
  | N + 1, k, i2, e, hq => by
    have n8 := h.1
    have hk6 : k / 12 < 6 := by omega
    have ht : k % 12 < 12 := by omega
    have T := mI_fr (i := i) (t := k % 12) (mI_kd (i := i) (k := k / 12) (mI_eq h hq.1) hk6) ht
    obtain ⟨k', B⟩ := m_isBook (l := l) (X := X) (jj := jj) (kd := kd) s i z n w hs (ti := up3 (up3 i2 26 0 (4 + 14 * i) (nI (k / 12))) 26 0 (6 + 14 * i + k % 12) 9) (by rw [up3_tag (by decide), up3_tag (by decide), hq.2.2 32 (by decide) (by decide), hz]) hzl T hi hw
    rw [show bkP (fun k => jj 33 0 (40 * s + k)) (fun j => (aF (mR (mSk (kU K i (k / 12)) n (up3 (up3 i2 26 0 (4 + 14 * i) (nI (k / 12))) 26 0 (6 + 14 * i + k % 12) 9) j) i) 12).toInt64) z 0 = rdP (fun k => jj 33 0 (40 * s + k)) w (ii 26 0 1) (mR ii i) z k by
      unfold rdP
      refine bkP_c z 0 (fun j _ hj => ⟨rfl, ?_⟩)
      have A := mSk_at T hi j (by omega)
      rw [kU_at, show up3 (up3 i2 26 0 (4 + 14 * i) (nI (k / 12))) 26 0 (6 + 14 * i + k % 12) 9 26 0 1 = ii 26 0 1 by rw [up3_pl (by omega), up3_pl (by omega), hq.1 1 (by decide)]] at A
      unfold frW
      rw [aF_c 12 (A.tr (wkRs_c (fun x hx => ?_) j))]
      show up3 (up3 i2 26 0 (4 + 14 * i) (nI (k / 12))) 26 0 (6 + 14 * i + k % 12) 9 26 0 (6 + 14 * i + x) = if x = k % 12 then 9 else ii 26 0 (6 + 14 * i + x)
      by_cases ex : x = k % 12
      · rw [if_pos ex, ex, up3_rd]
      · rw [if_neg ex, up3_pl (by omega), up3_pl (by omega), hq.1 _ (by omega)]] at B
    obtain ⟨i3, G, S⟩ := m_readL s i z n w hs hz hzl h hi hw N (k + 1) (wA (mSk (kU K i (k / 12)) n (up3 (up3 i2 26 0 (4 + 14 * i) (nI (k / 12))) 26 0 (6 + 14 * i + k % 12) 9) k') 26 0 134 (mSk (kU K i (k / 12)) n (up3 (up3 i2 26 0 (4 + 14 * i) (nI (k / 12))) 26 0 (6 + 14 * i + k % 12) 9) k' 28 0)) (by omega) (tqM_back hq (fun a ha => by rw [mSk_tag ha, up3_tag ha, up3_tag ha]))
    refine ⟨i3, ?_, S⟩
    rw [nI_succ k, rdN] at G
    refine GB.go 9999 rfl aB0 ?_
    refine GB.br rfl rfl (fun c => ?_) (fun c => ?_)
    · exact absurd c (nI_ge (show k < 72 by omega) (by decide))
    · refine GB.go 44 rfl aB0 ?_
      rw [sp_k]
      refine GB.go 49 rfl (aB1 (by decide) aB0) ?_
      rw [show nI k / 12 = nI (k / 12) from pk_div (by omega) (by decide) (by decide)]
      refine GB.go 50 rfl (aB1 (mn_vin (show 4 + 14 * i < 134 by omega) (by decide)) aB0) ?_
      rw [nI_clamp (show 4 + 14 * i < 2 ^ 31 by omega)]
      refine GB.go 60 rfl (aB1 (by decide) aB0) ?_
      rw [show nI k - nI k / 12 * 12 = nI (k % 12) from pk_rem (by omega) (by decide) (by decide)]
      refine GB.cal rfl rfl (by decide) (m_spot _ i (k % 12)) ?_
      refine GB.go 65 rfl aB0 ?_
      refine GB.go 66 rfl (aB1 (mn_vin (show 6 + 14 * i + k % 12 < 134 by omega) (by decide)) aB0) ?_
      rw [nI_clamp (show 6 + 14 * i + k % 12 < 2 ^ 31 by omega)]
      refine GB.go 9999 rfl aB0 ?_
      refine GB.cal rfl rfl (by decide) (B) ?_
      refine GB.br rfl rfl (fun c2 => ?_) (fun c2 => ?_)
      · rw [bI_f c2] at G
        refine GB.go 27 rfl aB0 ?_
        exact G
      · rw [bI_t c2] at G
        refine GB.go 27 rfl aB0 ?_
        exact G
theorem m_read (s i z n w : Nat) {K : Nat → Nat} (hs : s < 4) (hb : ¬ ii 31 0 s = 0) (hz : ii 32 0 s = nI z) (hzl : z ≤ 40) (h : mI ii n w K) (hi : i < n) (hw : w + 40 < 2 ^ 31) : ∃ i2, SK l X 8 215 [vR 25 0, vI (nI s), vI (nI i)] (ii, jj, mj_rk kd, 108) (some (vI (rdN (rdP (fun k => jj 33 0 (40 * s + k)) w (ii 26 0 1) (mR ii i) z) 72))) (i2, jj, mj_rk kd, 108) ∧ smM ii i2 := by
  obtain ⟨i2, L, S⟩ := m_readL (l := l) (X := X) (jj := jj) (kd := kd) s i z n w hs hz hzl h hi hw 72 0 _ rfl tqM_th
  refine ⟨i2, ?_, S⟩
  refine SK.of (by decide) (by decide) rfl ?_
  refine GB.go 9999 rfl aB0 ?_
  refine GB.cal rfl rfl (by decide) (m_noAsk s i hs hb h.1 h.2.1 hi) ?_
  refine GB.go 9999 rfl aB0 ?_
  refine GB.br rfl rfl (fun c => ?_) (fun c => ?_)
  · refine GB.go 9999 rfl aB0 ?_
    refine GB.cal rfl rfl (by decide) (m_thinks) ?_
    refine GB.go 27 rfl aB0 ?_
    exact L
  · exact absurd rfl c
end MQ
