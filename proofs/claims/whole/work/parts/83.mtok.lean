/-! THE TEXT: the model's tokens -/
/-- the model stands on a token: token, beginning, place, value, fault -/
def mF (ii : Nat → Nat → Nat → Int32) (t s e v w : Int32) : Nat → Nat → Nat → Int32 := fun a b c => if a = 25 ∧ b = 0 ∧ c = 7 then t else if a = 25 ∧ b = 0 ∧ c = 8 then s else if a = 25 ∧ b = 0 ∧ c = 9 then e else if a = 25 ∧ b = 0 ∧ c = 10 then v else if a = 25 ∧ b = 0 ∧ c = 11 then w else ii a b c
section MF
variable {ii : Nat → Nat → Nat → Int32} {t s e v w x : Int32}
theorem mF_7 : mF ii t s e v w 25 0 7 = t := if_pos ⟨rfl, rfl, rfl⟩
theorem mF_8 : mF ii t s e v w 25 0 8 = s := by
  unfold mF
  rw [if_neg (by decide), if_pos ⟨rfl, rfl, rfl⟩]
theorem mF_9 : mF ii t s e v w 25 0 9 = e := by
  unfold mF
  rw [if_neg (by decide), if_neg (by decide), if_pos ⟨rfl, rfl, rfl⟩]
theorem mF_10 : mF ii t s e v w 25 0 10 = v := by
  unfold mF
  rw [if_neg (by decide), if_neg (by decide), if_neg (by decide), if_pos ⟨rfl, rfl, rfl⟩]
theorem mF_11 : mF ii t s e v w 25 0 11 = w := by
  unfold mF
  rw [if_neg (by decide), if_neg (by decide), if_neg (by decide), if_neg (by decide), if_pos ⟨rfl, rfl, rfl⟩]
theorem mF_lo {c : Nat} (h : c < 7) : mF ii t s e v w 25 0 c = ii 25 0 c := by
  unfold mF
  rw [if_neg (by omega), if_neg (by omega), if_neg (by omega), if_neg (by omega), if_neg (by omega)]
theorem mF_tag {a : Nat} (h : a ≠ 25) : mF ii t s e v w a = ii a := by
  funext b c
  unfold mF
  rw [if_neg (fun q => h q.1), if_neg (fun q => h q.1), if_neg (fun q => h q.1), if_neg (fun q => h q.1), if_neg (fun q => h q.1)]
theorem mF_id : mF ii (ii 25 0 7) (ii 25 0 8) (ii 25 0 9) (ii 25 0 10) (ii 25 0 11) = ii := by
  funext a b c
  unfold mF
  split
  · next h => rw [h.1, h.2.1, h.2.2]
  · split
    · next h => rw [h.1, h.2.1, h.2.2]
    · split
      · next h => rw [h.1, h.2.1, h.2.2]
      · split
        · next h => rw [h.1, h.2.1, h.2.2]
        · split
          · next h => rw [h.1, h.2.1, h.2.2]
          · rfl
theorem mF_u7 : up3 (mF ii t s e v w) 25 0 7 x = mF ii x s e v w := by
  funext a b c
  unfold up3 mF
  by_cases h : a = 25 ∧ b = 0 ∧ c = 7
  · rw [if_pos h, if_pos h]
  · rw [if_neg h, if_neg h, if_neg h]
theorem mF_u8 : up3 (mF ii t s e v w) 25 0 8 x = mF ii t x e v w := by
  funext a b c
  unfold up3 mF
  by_cases h : a = 25 ∧ b = 0 ∧ c = 8
  · rw [if_pos h, if_neg (by omega), if_pos h]
  · rw [if_neg h, if_neg h, if_neg h]
theorem mF_u9 : up3 (mF ii t s e v w) 25 0 9 x = mF ii t s x v w := by
  funext a b c
  unfold up3 mF
  by_cases h : a = 25 ∧ b = 0 ∧ c = 9
  · rw [if_pos h, if_neg (by omega), if_neg (by omega), if_pos h]
  · rw [if_neg h, if_neg h, if_neg h]
theorem mF_u10 : up3 (mF ii t s e v w) 25 0 10 x = mF ii t s e x w := by
  funext a b c
  unfold up3 mF
  by_cases h : a = 25 ∧ b = 0 ∧ c = 10
  · rw [if_pos h, if_neg (by omega), if_neg (by omega), if_neg (by omega), if_pos h]
  · rw [if_neg h, if_neg h, if_neg h]
theorem mF_u11 : up3 (mF ii t s e v w) 25 0 11 x = mF ii t s e v x := by
  funext a b c
  unfold up3 mF
  by_cases h : a = 25 ∧ b = 0 ∧ c = 11
  · rw [if_pos h, if_neg (by omega), if_neg (by omega), if_neg (by omega), if_neg (by omega), if_pos h]
  · rw [if_neg h, if_neg h, if_neg h]
theorem mF_up {T i k : Nat} (h : T ≠ 25) : up3 (mF ii t s e v w) T i k x = mF (up3 ii T i k x) t s e v w := by
  funext a b c
  unfold up3 mF
  by_cases q : a = T ∧ b = i ∧ c = k
  · rw [if_pos q, if_neg (by omega), if_neg (by omega), if_neg (by omega), if_neg (by omega), if_neg (by omega)]
    exact (if_pos q).symm
  · simp only [if_neg q]
theorem mF_6 : up3 (mF ii t s e v w) 25 0 6 x = mF (up3 ii 25 0 6 x) t s e v w := by
  funext a b c
  unfold up3 mF
  by_cases q : a = 25 ∧ b = 0 ∧ c = 6
  · rw [if_pos q, if_neg (by omega), if_neg (by omega), if_neg (by omega), if_neg (by omega), if_neg (by omega)]
    exact (if_pos q).symm
  · simp only [if_neg q]
end MF
/-- the model's tape -/
def TM (ii : Nat → Nat → Nat → Int32) (z : Nat) (β : Nat → Nat) : Prop := ii 25 0 6 = nI z ∧ z ≤ 120 ∧ ∀ k, k < z → ii 30 0 k = nI (β k) ∧ β k ≤ 255
theorem na_1 : ∀ k, k < 13 → ∀ j, j < 7 → j < mj_slen k → mj_nam (7 * k + j) = mj_sbyt k j ∧ ¬ mj_nam (7 * k + j) = 0 := by decide +kernel
theorem na_2 : ∀ k, k < 13 → ∀ j, j < 7 → mj_slen k ≤ j → mj_nam (7 * k + j) = 0 := by decide +kernel
def alN (β : Nat → Nat) (k s : Nat) : Nat → Nat → Bool
  | 0, _ => true
  | n + 1, j => if mj_nam (7 * k + j) = nI (β (s + j)) then alN β k s n (j + 1) else false
def is0 (k n : Nat) : Bool := decide (n ≤ 7 ∧ (n = 7 ∨ mj_nam (7 * k + n) = 0))
theorem alN_all {β : Nat → Nat} {k s : Nat} : ∀ n j, alN β k s n j = true → ∀ i, j ≤ i → i < j + n → mj_nam (7 * k + i) = nI (β (s + i))
  | 0, j, _, i, h1, h2 => absurd h2 (by omega)
  | n + 1, j, h, i, h1, h2 => by
    unfold alN at h
    split at h
    · next e =>
      by_cases q : i = j
      · rw [q]
        exact e
      · exact alN_all n (j + 1) h i (by omega) (by omega)
    · cases h
theorem alN_E {β : Nat → Nat} {k s : Nat} (hk : k < 13) : ∀ n j, j + n ≤ mj_slen k → alN β k s n j = alE β k s n j
  | 0, _, _ => rfl
  | n + 1, j, h => by
    have h7 := nm_7 k hk
    unfold alN alE
    rw [(na_1 k hk j (by omega) (by omega)).1, alN_E hk n (j + 1) (by omega)]
    by_cases q : mj_sbyt k j = nI (β (s + j))
    · rw [if_pos q, if_pos q.symm]
    · rw [if_neg q, if_neg (fun z => q z.symm)]
/-- the model's way of asking for a word -/
theorem nm_m {β : Nat → Nat} {k s e : Nat} (hk : k < 13) (hl : ∀ j, s ≤ j → j < e → 97 ≤ β j ∧ β j ≤ 122) : (is0 k (e - s) && alN β k s (e - s) 0) = nmE β s e k := by
  have h7 := nm_7 k hk
  unfold nmE
  rcases Nat.lt_trichotomy (e - s) (mj_slen k) with q | q | q
  · rw [show is0 k (e - s) = false from decide_eq_false (fun z => by
      rcases z.2 with y | y
      · omega
      · exact (na_1 k hk (e - s) (by omega) q).2 y), Bool.false_and, decide_eq_false (show ¬ e - s = mj_slen k by omega), Bool.false_and]
  · rw [show is0 k (e - s) = true from decide_eq_true (by
      refine ⟨by omega, ?_⟩
      by_cases y : e - s = 7
      · exact Or.inl y
      · exact Or.inr (na_2 k hk (e - s) (by omega) (by omega))), decide_eq_true q, q, alN_E hk _ 0 (by omega)]
  · rw [decide_eq_false (show ¬ e - s = mj_slen k by omega), Bool.false_and]
    cases h0 : is0 k (e - s) with
    | false => rfl
    | true =>
      have l7 := (of_decide_eq_true h0).1
      cases h1 : alN β k s (e - s) 0 with
      | false => rfl
      | true =>
        have a := alN_all _ _ h1 (mj_slen k) (by omega) (by omega)
        rw [na_2 k hk (mj_slen k) (by omega) (Nat.le_refl _)] at a
        have b := hl (s + mj_slen k) (by omega) (by omega)
        exact absurd ((nI_eq (a := 0) (by decide) (by omega)).mp a) (by omega)
section MT
variable {l : Launch} {X : FX} {ii : Nat → Nat → Nat → Int32} {jj : Nat → Nat → Nat → Int64} {kd : Nat → Nat} {z : Nat} {β : Nat → Nat} {t0 s0 e0 v0 w0 : Int32}
theorem m_isByte (T : TM ii z β) (p a b : Nat) (hp : p ≤ z) (ha : a ≤ 255) (hb : b ≤ 255) : SK l X 2 193 [vR 25 0, vI (nI p), vI (nI a), vI (nI b)] (mF ii t0 s0 e0 v0 w0, jj, mj_rk kd, 108) (some (vI (bI (decide (p < z ∧ a ≤ β p ∧ β p ≤ b))))) (mF ii t0 s0 e0 v0 w0, jj, mj_rk kd, 108) := by
  have z120 := T.2.1
  refine SK.of (by decide) (by decide) rfl ?_
  refine GB.go 9999 rfl aB0 ?_
  rw [mF_lo (by decide), T.1]
  refine GB.br rfl rfl (fun c => ?_) (fun c => ?_)
  · rw [bI_0 (fun q => absurd c (nI_ge q.1 (by omega)))]
    refine GB.go 9999 rfl aB0 ?_
    exact GB.ret rfl rfl (aB1 (by decide) aB0)
  · have hpz : p < z := Nat.lt_of_not_le (fun q => c (nI_le q (by omega)))
    obtain ⟨b1, b2⟩ := T.2.2 p hpz
    refine GB.go 14 rfl (aB1 (mn_vin (show p < 120 by omega) (by decide)) aB0) ?_
    rw [nI_clamp (show p < 2 ^ 31 by omega)]
    rw [mF_tag (by decide), b1]
    refine GB.go 9999 rfl aB0 ?_
    refine GB.cal rfl rfl (by decide) (m_in _ _ _ _) ?_
    rw [show decide (¬ nI (β p) < nI a ∧ ¬ nI b < nI (β p)) = decide (p < z ∧ a ≤ β p ∧ β p ≤ b) from decide_eq_decide.mpr (by
      rw [nI_ltI (by omega) (by omega), nI_ltI (by omega) (by omega)]
      omega)]
    refine GB.br rfl rfl (fun c2 => ?_) (fun c2 => ?_)
    · rw [bI_f c2]
      refine GB.go 9999 rfl aB0 ?_
      exact GB.ret rfl rfl (aB1 (by decide) aB0)
    · rw [bI_t c2]
      refine GB.go 9999 rfl aB0 ?_
      exact GB.ret rfl rfl (aB1 (by decide) aB0)
theorem m_isNameL (T : TM ii z β) (k s n : Nat) (hk : k < 13) (h7 : s + n ≤ z) (i0 : Bool) (hi0 : i0 = true → n ≤ 7) : ∀ m j (b : Bool), j + m = n → (b = true → i0 = true) → GB l X 2 0 0 194 (34, [some (vR 25 0), some (vI (nI k)), some (vI (nI n)), some (vI (bI b)), some (vI (nI j))], [], (mF ii t0 (nI s) e0 v0 w0, jj, mj_rk kd, 108)) (some (vI (bI (b && alN β k s m j)))) (mF ii t0 (nI s) e0 v0 w0, jj, mj_rk kd, 108)
  | 0, j, b, h, hb => by
    have z120 := T.2.1
    rw [show (b && alN β k s 0 j) = b from Bool.and_true b]
    refine GB.go 9999 rfl aB0 ?_
    refine GB.br rfl rfl (fun c => ?_) (fun c => ?_)
    · refine GB.go 9999 rfl aB0 ?_
      exact GB.ret rfl rfl (aB1 (bI_ok _) aB0)
    · exact absurd (nI_le (show n ≤ j by omega) (by omega)) c
  | m + 1, j, b, h, hb => by
    have z120 := T.2.1
    refine GB.go 9999 rfl aB0 ?_
    refine GB.br rfl rfl (fun c => ?_) (fun c => ?_)
    · exact absurd c (nI_ge (show j < n by omega) (by omega))
    · refine GB.go 9999 rfl aB0 ?_
      refine GB.br rfl rfl (fun c2 => ?_) (fun c2 => ?_)
      · rw [show (b && alN β k s (m + 1) j) = false by rw [bI_f c2]; rfl]
        refine GB.go 9999 rfl aB0 ?_
        rw [bI_f c2]
        exact GB.ret rfl rfl (aB1 (by decide) aB0)
      · have eb := bI_t c2
        have n7 := hi0 (hb eb)
        obtain ⟨b1, b2⟩ := T.2.2 (s + j) (by omega)
        rw [show (b && alN β k s (m + 1) j) = alN β k s (m + 1) j by rw [eb]; rfl]
        unfold alN
        refine GB.go 54 rfl aB0 ?_
        rw [show (7 : Int32) * nI k + nI j = nI (7 * k + j) by rw [show (7 : Int32) * nI k = nI (7 * k) from nI_mul 7 k, nI_add]]
        refine GB.go 55 rfl (aB1 (mn_vin (show 7 * k + j < 91 by omega) (by decide)) aB0) ?_
        rw [nI_clamp (show 7 * k + j < 2 ^ 31 by omega)]
        refine GB.go 63 rfl aB0 ?_
        rw [mF_8]
        refine GB.go 66 rfl aB0 ?_
        rw [nI_add]
        refine GB.go 67 rfl (aB1 (mn_vin (show s + j < 120 by omega) (by decide)) aB0) ?_
        rw [nI_clamp (show s + j < 2 ^ 31 by omega)]
        rw [mF_tag (by decide), b1]
        refine GB.br rfl rfl (fun c3 => ?_) (fun c3 => ?_)
        · rw [if_pos c3]
          have ih := m_isNameL T k s n hk h7 i0 hi0 m (j + 1) true (by omega) (fun _ => hb eb)
          rw [nI_succ j] at ih
          refine GB.go 34 rfl aB0 ?_
          exact ih
        · rw [if_neg c3]
          have ih := m_isNameL T k s n hk h7 i0 hi0 m (j + 1) false (by omega) (fun q => by cases q)
          rw [nI_succ j] at ih
          refine GB.go 34 rfl aB0 ?_
          exact ih
theorem m_isName (T : TM ii z β) (k s e : Nat) (hk : k < 13) (he : e ≤ z) (hse : s ≤ e) (hl : ∀ j, s ≤ j → j < e → 97 ≤ β j ∧ β j ≤ 122) : SK l X 2 194 [vR 25 0, vI (nI k), vI (nI (e - s))] (mF ii t0 (nI s) e0 v0 w0, jj, mj_rk kd, 108) (some (vI (bI (nmE β s e k)))) (mF ii t0 (nI s) e0 v0 w0, jj, mj_rk kd, 108) := by
  have z120 := T.2.1
  rw [← nm_m hk hl]
  have L := fun b q => m_isNameL (l := l) (X := X) (jj := jj) (kd := kd) (t0 := t0) (e0 := e0) (v0 := v0) (w0 := w0) T k s (e - s) hk (by omega) (is0 k (e - s)) (fun q => (of_decide_eq_true q).1) (e - s) 0 b (by omega) q
  refine SK.of (by decide) (by decide) rfl ?_
  refine GB.go 9999 rfl aB0 ?_
  refine GB.br rfl rfl (fun c => ?_) (fun c => ?_)
  · have c' := (nI_ltI (a := 7) (by decide) (by omega)).mp c
    have e0 : is0 k (e - s) = false := decide_eq_false (fun q => by omega)
    rw [e0]
    refine GB.go 34 rfl aB0 ?_
    exact L false (fun q => by cases q)
  · have n7 : e - s ≤ 7 := Nat.le_of_not_lt (fun q => c (nI_lt (a := 7) q (by omega)))
    refine GB.go 9999 rfl aB0 ?_
    refine GB.br rfl rfl (fun c2 => ?_) (fun c2 => ?_)
    · have q7 := (nI_eq (b := 7) (by omega) (by decide)).mp c2
      have e0 : is0 k (e - s) = true := decide_eq_true ⟨n7, Or.inl q7⟩
      rw [e0] at L ⊢
      refine GB.go 34 rfl aB0 ?_
      exact L true (fun _ => rfl)
    · have q7 : e - s ≠ 7 := fun q => c2 (by rw [q]; rfl)
      refine GB.go 21 rfl aB0 ?_
      rw [show (7 : Int32) * nI k + nI (e - s) = nI (7 * k + (e - s)) by rw [show (7 : Int32) * nI k = nI (7 * k) from nI_mul 7 k, nI_add]]
      refine GB.go 22 rfl (aB1 (mn_vin (show 7 * k + (e - s) < 91 by omega) (by decide)) aB0) ?_
      rw [nI_clamp (show 7 * k + (e - s) < 2 ^ 31 by omega)]
      refine GB.br rfl rfl (fun c3 => ?_) (fun c3 => ?_)
      · have e0 : is0 k (e - s) = true := decide_eq_true ⟨n7, Or.inr c3⟩
        rw [e0] at L ⊢
        refine GB.go 34 rfl aB0 ?_
        exact L true (fun _ => rfl)
      · have e0 : is0 k (e - s) = false := decide_eq_false (fun q => by
          rcases q.2 with y | y
          · exact q7 y
          · exact c3 y)
        rw [e0]
        refine GB.go 34 rfl aB0 ?_
        exact L false (fun q => by cases q)
theorem m_wordL (T : TM ii z β) (s e : Nat) (he : e ≤ z) (hse : s ≤ e) (hl : ∀ j, s ≤ j → j < e → 97 ≤ β j ∧ β j ≤ 122) : ∀ N k, k + N = 13 → GB l X 3 0 0 195 (2, [some (vR 25 0), some (vI (nI k))], [], (mF ii t0 (nI s) (nI e) v0 w0, jj, mj_rk kd, 108)) (some (vI (nI (match fstK (nmE β s e) N k with
    | some k => k
    | none => 23)))) (mF ii t0 (nI s) (nI e) v0 w0, jj, mj_rk kd, 108)
  | 0, k, h => by
    rw [show k = 13 by omega]
    refine GB.go 9999 rfl aB0 ?_
    refine GB.br rfl rfl (fun c => ?_) (fun c => ?_)
    · refine GB.go 9999 rfl aB0 ?_
      refine GB.br rfl rfl (fun c2 => ?_) (fun c2 => ?_)
      · refine GB.go 9999 rfl aB0 ?_
        exact GB.ret rfl rfl aB0
      · exact absurd (by decide) c2
    · exact absurd (by decide) c
  | N + 1, k, h => by
    refine GB.go 9999 rfl aB0 ?_
    refine GB.br rfl rfl (fun c => ?_) (fun c => ?_)
    · exact absurd c (nI_ge (show k < 13 by omega) (by decide))
    · refine GB.go 14 rfl aB0 ?_
      rw [mF_9]
      refine GB.go 18 rfl aB0 ?_
      rw [mF_8]
      refine GB.go 19 rfl aB0 ?_
      rw [pk_sub hse]
      refine GB.cal rfl rfl (by decide) (m_isName T k s e (by omega) he hse hl) ?_
      refine GB.br rfl rfl (fun c2 => ?_) (fun c2 => ?_)
      · rw [show fstK (nmE β s e) (N + 1) k = fstK (nmE β s e) N (k + 1) by rw [fstK, bI_f c2]; rfl]
        have ih := m_wordL T s e he hse hl N (k + 1) (by omega)
        rw [nI_succ k] at ih
        refine GB.go 2 rfl aB0 ?_
        exact ih
      · rw [show fstK (nmE β s e) (N + 1) k = some k by rw [fstK, bI_t c2]; rfl]
        refine GB.go 9999 rfl aB0 ?_
        refine GB.br rfl rfl (fun c3 => ?_) (fun c3 => ?_)
        · exact absurd c3 (nI_ge (show k < 13 by omega) (by decide))
        · refine GB.go 9999 rfl aB0 ?_
          exact GB.ret rfl rfl aB0
theorem m_word (T : TM ii z β) (s e : Nat) (he : e ≤ z) (hse : s ≤ e) (hl : ∀ j, s ≤ j → j < e → 97 ≤ β j ∧ β j ≤ 122) : SK l X 3 195 [vR 25 0] (mF ii t0 (nI s) (nI e) v0 w0, jj, mj_rk kd, 108) (some (vI (nI (wdX β s e)))) (mF ii t0 (nI s) (nI e) v0 w0, jj, mj_rk kd, 108) := by
  have L := m_wordL (l := l) (X := X) (jj := jj) (kd := kd) (t0 := t0) (v0 := v0) (w0 := w0) T s e he hse hl 13 0 rfl
  refine SK.of (by decide) (by decide) rfl ?_
  refine GB.go 2 rfl aB0 ?_
  exact L
end MT
